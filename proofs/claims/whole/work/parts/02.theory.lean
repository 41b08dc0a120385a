/-! THEORY: a clean picture of the machine for methods that make no object: ids instead of addresses, two functions for all ints and longs. -/
abbrev oh_St : Type := (Nat → Nat → Int32) × (Nat → Nat → Int64)
abbrev oh_Sh : Type := (Nat × List (Nat × Nat)) ⊕ (Nat ⊕ List Nat)
abbrev oh_L : Type := List (Option Value)
abbrev oh_Q : Type := Option Value → oh_St → Prop
abbrev oh_I : Type := Instr × Nat × Nat × Nat × Nat × Nat × Nat
abbrev oh_C : Type := List oh_I
abbrev oh_T : Type := List (Nat × Option (List Bool) × oh_C)
abbrev oh_E : Type := Nat → List Value → oh_St → oh_Q → Prop
abbrev oh_P : Type := Nat → oh_C → oh_L → List Value → oh_St → Prop
def oh_upi (h : oh_St) (o k : Nat) (v : Int32) : oh_St := (fun a => if a = o then upd (h.1 o) k v else h.1 a, h.2)
def oh_upl (h : oh_St) (o k : Nat) (v : Int64) : oh_St := (h.1, fun a => if a = o then vp_updL (h.2 o) k v else h.2 a)
def oh_upa (h : oh_St) (o : Nat) (f : Nat → Int32) : oh_St := (fun a => if a = o then f else h.1 a, h.2)
def oh_nth {α : Type} : List α → Nat → Option α
  | [], _ => none
  | x :: _, 0 => some x
  | _ :: l, n + 1 => oh_nth l n
theorem oh_nth_eq {α : Type} : ∀ (l : List α) (n : Nat), oh_nth l n = l[n]?
  | [], n => by simp [oh_nth]
  | x :: l, 0 => by simp [oh_nth]
  | x :: l, n + 1 => by simp [oh_nth, oh_nth_eq l n]
def oh_find {α : Type} : List (Nat × α) → Nat → Option α
  | [], _ => none
  | (p, x) :: r, pc => match Nat.beq p pc with
    | true => some x
    | false => oh_find r pc
def oh_get : oh_L → Nat → Option Value
  | [], _ => none
  | o :: _, 0 => o
  | _ :: l, n + 1 => oh_get l n
def oh_put : oh_L → Nat → Option Value → oh_L
  | [], _, _ => []
  | _ :: l, 0, v => v :: l
  | o :: l, n + 1, v => o :: oh_put l n v
def oh_clr (l : oh_L) (i : Nat) : oh_L := match i with
  | 0 => l
  | n + 1 => match oh_get l n with
    | some (.long _) => oh_put l n none
    | some (.double _) => oh_put l n none
    | _ => l
def oh_st1 (l : oh_L) (i : Nat) (v : Value) : oh_L := oh_put (oh_clr l i) i (some v)
def oh_st2 (l : oh_L) (i : Nat) (v : Value) : oh_L := oh_put (oh_put (oh_clr l i) i (some v)) (i + 1) none
def oh_mask : List Bool → oh_L → oh_L
  | true :: m, o :: l => o :: oh_mask m l
  | false :: m, _ :: l => none :: oh_mask m l
  | _, l => l
def oh_xI : List (Nat × List Int32) := [(1000, [-1, 0, 0, 0, 1, 2, 3]), (1001, [10, 11, 12, 13, 0, 20, 0, 0, 30, 0, 0, 0, 0, 0, 40, 0, 0, 50, 0, 0, 0, 0, 0, 60, 0, 0, 70, 71])]
def oh_xL : List (Nat × List Int64) := [(1002, [-6148914691236517206, -3689348814741910324, -1085102592571150096, -71777214294589696, -281470681808896, -4294967296])]
-- words on the stack
def oh_II (st : List Value) (K : Int32 → Int32 → List Value → Prop) : Prop := match st with
  | .int y :: .int x :: r => K x y r
  | _ => False
def oh_I1 (st : List Value) (K : Int32 → List Value → Prop) : Prop := match st with
  | .int x :: r => K x r
  | _ => False
def oh_LL (st : List Value) (K : Int64 → Int64 → List Value → Prop) : Prop := match st with
  | .long y :: .long x :: r => K x y r
  | _ => False
def oh_L1 (st : List Value) (K : Int64 → List Value → Prop) : Prop := match st with
  | .long x :: r => K x r
  | _ => False
def oh_LI (st : List Value) (K : Int64 → Int32 → List Value → Prop) : Prop := match st with
  | .int y :: .long x :: r => K x y r
  | _ => False
def oh_R1 (st : List Value) (K : Nat → List Value → Prop) : Prop := match st with
  | .ref x :: r => K x r
  | _ => False
def oh_RI (st : List Value) (K : Nat → Int32 → List Value → Prop) : Prop := match st with
  | .int y :: .ref x :: r => K x y r
  | _ => False
def oh_RII (st : List Value) (K : Nat → Int32 → Int32 → List Value → Prop) : Prop := match st with
  | .int z :: .int y :: .ref x :: r => K x y z r
  | _ => False
def oh_V1 (st : List Value) (K : Value → List Value → Prop) : Prop := match st with
  | x :: r => match Nat.beq x.category 1 with
    | true => K x r
    | false => False
  | _ => False
def oh_RV (st : List Value) (K : Nat → Value → List Value → Prop) : Prop := match st with
  | v :: .ref x :: r => K x v r
  | _ => False
def oh_Z (st : List Value) (K : Prop) : Prop := match st with
  | [] => K
  | _ => False
theorem oh_II_i {st : List Value} {K : Int32 → Int32 → List Value → Prop} (h : oh_II st K) : ∃ x y r, st = .int y :: .int x :: r ∧ K x y r := by
  unfold oh_II at h
  split at h
  · exact ⟨_, _, _, rfl, h⟩
  · exact h.elim
theorem oh_I1_i {st : List Value} {K : Int32 → List Value → Prop} (h : oh_I1 st K) : ∃ x r, st = .int x :: r ∧ K x r := by
  unfold oh_I1 at h
  split at h
  · exact ⟨_, _, rfl, h⟩
  · exact h.elim
theorem oh_LL_i {st : List Value} {K : Int64 → Int64 → List Value → Prop} (h : oh_LL st K) : ∃ x y r, st = .long y :: .long x :: r ∧ K x y r := by
  unfold oh_LL at h
  split at h
  · exact ⟨_, _, _, rfl, h⟩
  · exact h.elim
theorem oh_L1_i {st : List Value} {K : Int64 → List Value → Prop} (h : oh_L1 st K) : ∃ x r, st = .long x :: r ∧ K x r := by
  unfold oh_L1 at h
  split at h
  · exact ⟨_, _, rfl, h⟩
  · exact h.elim
theorem oh_LI_i {st : List Value} {K : Int64 → Int32 → List Value → Prop} (h : oh_LI st K) : ∃ x y r, st = .int y :: .long x :: r ∧ K x y r := by
  unfold oh_LI at h
  split at h
  · exact ⟨_, _, _, rfl, h⟩
  · exact h.elim
theorem oh_R1_i {st : List Value} {K : Nat → List Value → Prop} (h : oh_R1 st K) : ∃ x r, st = .ref x :: r ∧ K x r := by
  unfold oh_R1 at h
  split at h
  · exact ⟨_, _, rfl, h⟩
  · exact h.elim
theorem oh_RI_i {st : List Value} {K : Nat → Int32 → List Value → Prop} (h : oh_RI st K) : ∃ x y r, st = .int y :: .ref x :: r ∧ K x y r := by
  unfold oh_RI at h
  split at h
  · exact ⟨_, _, _, rfl, h⟩
  · exact h.elim
theorem oh_RII_i {st : List Value} {K : Nat → Int32 → Int32 → List Value → Prop} (h : oh_RII st K) : ∃ x y z r, st = .int z :: .int y :: .ref x :: r ∧ K x y z r := by
  unfold oh_RII at h
  split at h
  · exact ⟨_, _, _, _, rfl, h⟩
  · exact h.elim
theorem oh_V1_i {st : List Value} {K : Value → List Value → Prop} (h : oh_V1 st K) : ∃ x r, st = x :: r ∧ x.category = 1 ∧ K x r := by
  unfold oh_V1 at h
  split at h
  · split at h
    · rename_i hb
      exact ⟨_, _, rfl, Nat.eq_of_beq_eq_true hb, h⟩
    · exact h.elim
  · exact h.elim
theorem oh_RV_i {st : List Value} {K : Nat → Value → List Value → Prop} (h : oh_RV st K) : ∃ x v r, st = v :: .ref x :: r ∧ K x v r := by
  unfold oh_RV at h
  split at h
  · exact ⟨_, _, _, rfl, h⟩
  · exact h.elim
theorem oh_Z_i {st : List Value} {K : Prop} (h : oh_Z st K) : st = [] ∧ K := by
  unfold oh_Z at h
  split at h
  · exact ⟨rfl, h⟩
  · exact h.elim
theorem oh_II_m {st : List Value} {K K' : Int32 → Int32 → List Value → Prop} (hk : ∀ x y r, K x y r → K' x y r) (h : oh_II st K) : oh_II st K' := by
  obtain ⟨x, y, r, rfl, h⟩ := oh_II_i h; exact hk _ _ _ h
theorem oh_I1_m {st : List Value} {K K' : Int32 → List Value → Prop} (hk : ∀ x r, K x r → K' x r) (h : oh_I1 st K) : oh_I1 st K' := by
  obtain ⟨x, r, rfl, h⟩ := oh_I1_i h; exact hk _ _ h
theorem oh_LL_m {st : List Value} {K K' : Int64 → Int64 → List Value → Prop} (hk : ∀ x y r, K x y r → K' x y r) (h : oh_LL st K) : oh_LL st K' := by
  obtain ⟨x, y, r, rfl, h⟩ := oh_LL_i h; exact hk _ _ _ h
theorem oh_L1_m {st : List Value} {K K' : Int64 → List Value → Prop} (hk : ∀ x r, K x r → K' x r) (h : oh_L1 st K) : oh_L1 st K' := by
  obtain ⟨x, r, rfl, h⟩ := oh_L1_i h; exact hk _ _ h
theorem oh_LI_m {st : List Value} {K K' : Int64 → Int32 → List Value → Prop} (hk : ∀ x y r, K x y r → K' x y r) (h : oh_LI st K) : oh_LI st K' := by
  obtain ⟨x, y, r, rfl, h⟩ := oh_LI_i h; exact hk _ _ _ h
theorem oh_R1_m {st : List Value} {K K' : Nat → List Value → Prop} (hk : ∀ x r, K x r → K' x r) (h : oh_R1 st K) : oh_R1 st K' := by
  obtain ⟨x, r, rfl, h⟩ := oh_R1_i h; exact hk _ _ h
theorem oh_RI_m {st : List Value} {K K' : Nat → Int32 → List Value → Prop} (hk : ∀ x y r, K x y r → K' x y r) (h : oh_RI st K) : oh_RI st K' := by
  obtain ⟨x, y, r, rfl, h⟩ := oh_RI_i h; exact hk _ _ _ h
theorem oh_RII_m {st : List Value} {K K' : Nat → Int32 → Int32 → List Value → Prop} (hk : ∀ x y z r, K x y z r → K' x y z r) (h : oh_RII st K) : oh_RII st K' := by
  obtain ⟨x, y, z, r, rfl, h⟩ := oh_RII_i h; exact hk _ _ _ _ h
theorem oh_V1_m {st : List Value} {K K' : Value → List Value → Prop} (hk : ∀ x r, K x r → K' x r) (h : oh_V1 st K) : oh_V1 st K' := by
  obtain ⟨x, r, rfl, hc, h⟩ := oh_V1_i h
  unfold oh_V1
  simp only [hc]
  exact hk _ _ h
theorem oh_RV_m {st : List Value} {K K' : Nat → Value → List Value → Prop} (hk : ∀ x v r, K x v r → K' x v r) (h : oh_RV st K) : oh_RV st K' := by
  obtain ⟨x, v, r, rfl, h⟩ := oh_RV_i h; exact hk _ _ _ h
theorem oh_Z_m {st : List Value} {K K' : Prop} (hk : K → K') (h : oh_Z st K) : oh_Z st K' := by
  obtain ⟨rfl, h⟩ := oh_Z_i h; exact hk h
/-- a compare and its two ways -/
def oh_br (c : ClassFile.Cond) (x y : Int32) (A B : Prop) : Prop := match c with
  | .eq => (x = y → A) ∧ (¬ x = y → B)
  | .ne => (¬ x = y → A) ∧ (x = y → B)
  | .lt => (x < y → A) ∧ (¬ x < y → B)
  | .ge => (y ≤ x → A) ∧ (¬ y ≤ x → B)
  | .gt => (y < x → A) ∧ (¬ y < x → B)
  | .le => (x ≤ y → A) ∧ (¬ x ≤ y → B)
theorem oh_br_m {c : ClassFile.Cond} {x y : Int32} {A B A' B' : Prop} (ha : A → A') (hb : B → B') (h : oh_br c x y A B) : oh_br c x y A' B' := by
  cases c <;> exact ⟨fun q => ha (h.1 q), fun q => hb (h.2 q)⟩
/-- a number that is written out -/
def oh_num (a b : Nat) : Int32 := match b with
  | 0 => Int32.ofNat a
  | _ => -(Int32.ofNat a)
def oh_numL (a b : Nat) : Int64 := match b with
  | 0 => Int64.ofNat a
  | _ => -(Int64.ofNat a)
def oh_tab (J : Nat → Prop) (pc : Nat) (x : Int32) : Nat → List Int → Int → Prop
  | _, [], d => J ((pc : Int) + d).toNat
  | lo, o :: r, d => (x = Int32.ofNat lo → J ((pc : Int) + o).toNat) ∧ (¬ x = Int32.ofNat lo → oh_tab J pc x (lo + 1) r d)
theorem oh_tab_m {J J' : Nat → Prop} {pc : Nat} {x : Int32} (hj : ∀ q, J q → J' q) : ∀ (lo : Nat) (r : List Int) (d : Int), oh_tab J pc x lo r d → oh_tab J' pc x lo r d
  | _, [], _, h => hj _ h
  | lo, o :: r, d, h => ⟨fun q => hj _ (h.1 q), fun q => oh_tab_m hj (lo + 1) r d (h.2 q)⟩
def oh_lkp (J : Nat → Prop) (pc : Nat) (x : Int32) (d : Int) : List (Int × Int) → Prop
  | [] => J ((pc : Int) + d).toNat
  | o :: r => (x = Int32.ofNat o.1.toNat → J ((pc : Int) + o.2).toNat) ∧ (¬ x = Int32.ofNat o.1.toNat → oh_lkp J pc x d r)
theorem oh_lkp_m {J J' : Nat → Prop} {pc : Nat} {x : Int32} {d : Int} (hj : ∀ q, J q → J' q) : ∀ (r : List (Int × Int)), oh_lkp J pc x d r → oh_lkp J' pc x d r
  | [], h => hj _ h
  | o :: r, h => ⟨fun q => hj _ (h.1 q), fun q => oh_lkp_m hj r (h.2 q)⟩
def oh_J (T : oh_T) (P' P : oh_P) (pc : Nat) (l : oh_L) (st : List Value) (h : oh_St) : Prop := match oh_find T pc with
  | some (none, c) => P' pc c l st h
  | some (some mm, c) => P pc c (oh_mask mm l) st h
  | none => False
theorem oh_J_m {T : oh_T} {P' P P2' P2 : oh_P} (h1 : ∀ pc c l st h, P' pc c l st h → P2' pc c l st h) (h2 : ∀ pc c l st h, P pc c l st h → P2 pc c l st h) {pc : Nat} {l : oh_L} {st : List Value} {h : oh_St} (q : oh_J T P' P pc l st h) : oh_J T P2' P2 pc l st h := by
  unfold oh_J at q ⊢
  split at q
  · exact h1 _ _ _ _ _ q
  · exact h2 _ _ _ _ _ q
  · exact q.elim
def oh_csum : List Value → Nat
  | [] => 0
  | v :: r => v.category + oh_csum r
/-- what an answer of each kind is used for -/
def oh_r0 (K : oh_St → Prop) : oh_Q := fun r h => match r with
  | none => K h
  | _ => False
def oh_r1 (K : Int32 → oh_St → Prop) : oh_Q := fun r h => match r with
  | some (.int x) => K x h
  | _ => False
def oh_r2 (K : Int64 → oh_St → Prop) : oh_Q := fun r h => match r with
  | some (.long x) => K x h
  | _ => False
def oh_r3 (K : Nat → oh_St → Prop) : oh_Q := fun r h => match r with
  | some (.ref x) => K x h
  | _ => False
theorem oh_r0_i {K : oh_St → Prop} {r : Option Value} {h : oh_St} (q : oh_r0 K r h) : r = none ∧ K h := by
  unfold oh_r0 at q
  split at q
  · exact ⟨rfl, q⟩
  · exact q.elim
theorem oh_r1_i {K : Int32 → oh_St → Prop} {r : Option Value} {h : oh_St} (q : oh_r1 K r h) : ∃ x, r = some (.int x) ∧ K x h := by
  unfold oh_r1 at q
  split at q
  · exact ⟨_, rfl, q⟩
  · exact q.elim
theorem oh_r2_i {K : Int64 → oh_St → Prop} {r : Option Value} {h : oh_St} (q : oh_r2 K r h) : ∃ x, r = some (.long x) ∧ K x h := by
  unfold oh_r2 at q
  split at q
  · exact ⟨_, rfl, q⟩
  · exact q.elim
theorem oh_r3_i {K : Nat → oh_St → Prop} {r : Option Value} {h : oh_St} (q : oh_r3 K r h) : ∃ x, r = some (.ref x) ∧ K x h := by
  unfold oh_r3 at q
  split at q
  · exact ⟨_, rfl, q⟩
  · exact q.elim
theorem oh_r0_m {K K' : oh_St → Prop} (hk : ∀ h, K h → K' h) (r : Option Value) (h : oh_St) (q : oh_r0 K r h) : oh_r0 K' r h := by
  obtain ⟨rfl, q⟩ := oh_r0_i q; exact hk _ q
theorem oh_r1_m {K K' : Int32 → oh_St → Prop} (hk : ∀ x h, K x h → K' x h) (r : Option Value) (h : oh_St) (q : oh_r1 K r h) : oh_r1 K' r h := by
  obtain ⟨x, rfl, q⟩ := oh_r1_i q; exact hk _ _ q
theorem oh_r2_m {K K' : Int64 → oh_St → Prop} (hk : ∀ x h, K x h → K' x h) (r : Option Value) (h : oh_St) (q : oh_r2 K r h) : oh_r2 K' r h := by
  obtain ⟨x, rfl, q⟩ := oh_r2_i q; exact hk _ _ q
theorem oh_r3_m {K K' : Nat → oh_St → Prop} (hk : ∀ x h, K x h → K' x h) (r : Option Value) (h : oh_St) (q : oh_r3 K r h) : oh_r3 K' r h := by
  obtain ⟨x, rfl, q⟩ := oh_r3_i q; exact hk _ _ q
def oh_callK (E : oh_E) (j k : Nat) (av rest : List Value) (h : oh_St) (K : List Value → oh_St → Prop) : Prop := match k with
  | 0 => E j av h (oh_r0 (fun h' => K rest h'))
  | 1 => E j av h (oh_r1 (fun x h' => K (.int x :: rest) h'))
  | 2 => E j av h (oh_r2 (fun x h' => K (.long x :: rest) h'))
  | 3 => E j av h (oh_r3 (fun x h' => K (.ref x :: rest) h'))
  | _ => False
/-- the top of the stack as arguments in their order, and the rest -/
def oh_split : Nat → List Value → List Value → (List Value → List Value → Prop) → Prop
  | 0, st, acc, K => K acc st
  | n + 1, v :: st, acc, K => oh_split n st (v :: acc) K
  | _ + 1, [], _, _ => False
theorem oh_split_i : ∀ (n : Nat) (st acc : List Value) (K : List Value → List Value → Prop), oh_split n st acc K → n ≤ st.length ∧ K ((st.take n).reverse ++ acc) (st.drop n)
  | 0, st, acc, K, q => ⟨Nat.zero_le _, q⟩
  | n + 1, v :: st, acc, K, q => by
    obtain ⟨h1, h2⟩ := oh_split_i n st (v :: acc) K q
    refine ⟨by simp; omega, ?_⟩
    simpa using h2
  | _ + 1, [], _, _, q => q.elim
theorem oh_split_m {K K' : List Value → List Value → Prop} (hk : ∀ a r, K a r → K' a r) : ∀ (n : Nat) (st acc : List Value), oh_split n st acc K → oh_split n st acc K'
  | 0, _, _, q => hk _ _ q
  | n + 1, v :: st, acc, q => oh_split_m hk n st (v :: acc) q
  | _ + 1, [], _, q => q.elim
def oh_call (E : oh_E) (j n k : Nat) (st : List Value) (h : oh_St) (K : List Value → oh_St → Prop) : Prop := oh_split n st [] (fun av rest => match Nat.ble (oh_csum rest) 8 with
  | true => oh_callK E j k av rest h K
  | false => False)
def oh_Emono (E : oh_E) : Prop := ∀ (j : Nat) (a : List Value) (h : oh_St) (Q Q' : oh_Q), (∀ r h', Q r h' → Q' r h') → E j a h Q → E j a h Q'
theorem oh_callK_i {E : oh_E} {j k : Nat} {av rest : List Value} {h : oh_St} {K : List Value → oh_St → Prop} (q : oh_callK E j k av rest h K) : ∃ Q' : oh_Q, E j av h Q' ∧ ∀ r h', Q' r h' → K (r.toList ++ rest) h' := by
  unfold oh_callK at q
  split at q
  · exact ⟨_, q, fun r h' z => by obtain ⟨rfl, z⟩ := oh_r0_i z; exact z⟩
  · exact ⟨_, q, fun r h' z => by obtain ⟨x, rfl, z⟩ := oh_r1_i z; exact z⟩
  · exact ⟨_, q, fun r h' z => by obtain ⟨x, rfl, z⟩ := oh_r2_i z; exact z⟩
  · exact ⟨_, q, fun r h' z => by obtain ⟨x, rfl, z⟩ := oh_r3_i z; exact z⟩
  · exact q.elim
theorem oh_call_i {E : oh_E} {j n k : Nat} {st : List Value} {h : oh_St} {K : List Value → oh_St → Prop} (q : oh_call E j n k st h K) : n ≤ st.length ∧ oh_csum (st.drop n) ≤ 8 ∧ ∃ Q' : oh_Q, E j (st.take n).reverse h Q' ∧ ∀ r h', Q' r h' → K (r.toList ++ st.drop n) h' := by
  obtain ⟨h1, h2⟩ := oh_split_i _ _ _ _ q
  rw [List.append_nil] at h2
  split at h2
  · rename_i h3
    exact ⟨h1, Nat.le_of_ble_eq_true h3, oh_callK_i h2⟩
  · exact h2.elim
theorem oh_callK_m {E : oh_E} (hE : oh_Emono E) {j k : Nat} {av rest : List Value} {h : oh_St} {K K' : List Value → oh_St → Prop} (hk : ∀ s h, K s h → K' s h) (q : oh_callK E j k av rest h K) : oh_callK E j k av rest h K' := by
  unfold oh_callK at q ⊢
  split at q
  · exact hE _ _ _ _ _ (oh_r0_m (fun h => hk _ _)) q
  · exact hE _ _ _ _ _ (oh_r1_m (fun x h => hk _ _)) q
  · exact hE _ _ _ _ _ (oh_r2_m (fun x h => hk _ _)) q
  · exact hE _ _ _ _ _ (oh_r3_m (fun x h => hk _ _)) q
  · exact q
theorem oh_call_m {E : oh_E} (hE : oh_Emono E) {j n k : Nat} {st : List Value} {h : oh_St} {K K' : List Value → oh_St → Prop} (hk : ∀ s h, K s h → K' s h) (q : oh_call E j n k st h K) : oh_call E j n k st h K' := by
  refine oh_split_m (fun a r z => ?_) n st [] q
  split at z
  · exact oh_callK_m hE hk z
  · exact z.elim
/-- a field read -/
def oh_gf (G : List oh_Sh) (ci k o : Nat) (h : oh_St) (K : Value → Prop) : Prop := match oh_nth G o with
  | some (.inl (c2, sl)) => match Nat.beq c2 ci with
    | true => match oh_nth sl k with
      | some (0, _) => K (.int (h.1 o k))
      | some (1, _) => K (.long (h.2 o k))
      | some (2, j) => K (.ref j)
      | some (3, _) => K (.ref (2000 + (h.1 o k).toNatClampNeg))
      | some (4, _) => K (.int (h.1 o k))
      | _ => False
    | false => False
  | _ => False
theorem oh_gf_m {G : List oh_Sh} {ci k o : Nat} {h : oh_St} {K K' : Value → Prop} (hk : ∀ v, K v → K' v) (q : oh_gf G ci k o h K) : oh_gf G ci k o h K' := by
  unfold oh_gf at q ⊢
  split at q
  · split at q
    · split at q <;> first | exact hk _ q | exact q.elim
    · exact q.elim
  · exact q.elim
/-- a field write -/
def oh_pf (G : List oh_Sh) (ci k o : Nat) (v : Value) (h : oh_St) (K : oh_St → Prop) : Prop := match oh_nth G o with
  | some (.inl (c2, sl)) => match Nat.beq c2 ci with
    | true => match oh_nth sl k, v with
      | some (0, _), .int x => K (oh_upi h o k x)
      | some (1, _), .long x => K (oh_upl h o k x)
      | some (3, _), .ref j => match Nat.ble 2000 j, Nat.ble j 2002 with
        | true, true => K (oh_upi h o k (Int32.ofNat (j - 2000)))
        | _, _ => False
      | some (4, _), .int x => (x = 0 ∨ x = 1) ∧ K (oh_upi h o k x)
      | _, _ => False
    | false => False
  | _ => False
theorem oh_pf_m {G : List oh_Sh} {ci k o : Nat} {v : Value} {h : oh_St} {K K' : oh_St → Prop} (hk : ∀ h, K h → K' h) (q : oh_pf G ci k o v h K) : oh_pf G ci k o v h K' := by
  unfold oh_pf at q ⊢
  split at q
  · split at q
    · split at q
      · exact hk _ q
      · exact hk _ q
      · split at q
        · exact hk _ q
        · exact q.elim
      · exact ⟨q.1, hk _ q.2⟩
      · exact q.elim
    · exact q.elim
  · exact q.elim
/-- an int row read -/
def oh_ia (G : List oh_Sh) (o : Nat) (i : Int32) (h : oh_St) (K : Int32 → Prop) : Prop := match oh_nth G o with
  | some (.inr (.inl n)) => vp_in i n ∧ K (h.1 o i.toNatClampNeg)
  | some _ => False
  | none => match oh_find oh_xI o with
    | some l => vp_in i l.length ∧ K (l.getD i.toNatClampNeg 0)
    | none => False
theorem oh_ia_m {G : List oh_Sh} {o : Nat} {i : Int32} {h : oh_St} {K K' : Int32 → Prop} (hk : ∀ v, K v → K' v) (q : oh_ia G o i h K) : oh_ia G o i h K' := by
  unfold oh_ia at q ⊢
  split at q
  · exact ⟨q.1, hk _ q.2⟩
  · exact q.elim
  · split at q
    · exact ⟨q.1, hk _ q.2⟩
    · exact q.elim
def oh_la (G : List oh_Sh) (o : Nat) (i : Int32) (K : Int64 → Prop) : Prop := match oh_nth G o with
  | some _ => False
  | none => match oh_find oh_xL o with
    | some l => vp_in i l.length ∧ K (l.getD i.toNatClampNeg 0)
    | none => False
theorem oh_la_m {G : List oh_Sh} {o : Nat} {i : Int32} {K K' : Int64 → Prop} (hk : ∀ v, K v → K' v) (q : oh_la G o i K) : oh_la G o i K' := by
  unfold oh_la at q ⊢
  split at q
  · exact q.elim
  · split at q
    · exact ⟨q.1, hk _ q.2⟩
    · exact q.elim
def oh_ias (G : List oh_Sh) (o : Nat) (i x : Int32) (h : oh_St) (K : oh_St → Prop) : Prop := match oh_nth G o with
  | some (.inr (.inl n)) => vp_in i n ∧ K (oh_upi h o i.toNatClampNeg x)
  | _ => False
theorem oh_ias_m {G : List oh_Sh} {o : Nat} {i x : Int32} {h : oh_St} {K K' : oh_St → Prop} (hk : ∀ h, K h → K' h) (q : oh_ias G o i x h K) : oh_ias G o i x h K' := by
  unfold oh_ias at q ⊢
  split at q
  · exact ⟨q.1, hk _ q.2⟩
  · exact q.elim
def oh_aal (G : List oh_Sh) (o : Nat) (i : Int32) (K : Nat → Prop) : Prop := match oh_nth G o with
  | some (.inr (.inr js)) => vp_in i js.length ∧ (match oh_nth js i.toNatClampNeg with
    | some j => K j
    | none => False)
  | _ => False
theorem oh_aal_m {G : List oh_Sh} {o : Nat} {i : Int32} {K K' : Nat → Prop} (hk : ∀ v, K v → K' v) (q : oh_aal G o i K) : oh_aal G o i K' := by
  unfold oh_aal at q ⊢
  split at q
  · refine ⟨q.1, ?_⟩
    have q2 := q.2
    split at q2
    · exact hk _ q2
    · exact q2.elim
  · exact q.elim
def oh_al (G : List oh_Sh) (o : Nat) (K : Int32 → Prop) : Prop := match oh_nth G o with
  | some (.inr (.inl n)) => K (Int32.ofNat n)
  | _ => False
theorem oh_al_m {G : List oh_Sh} {o : Nat} {K K' : Int32 → Prop} (hk : ∀ v, K v → K' v) (q : oh_al G o K) : oh_al G o K' := by
  unfold oh_al at q ⊢
  split at q
  · exact hk _ q
  · exact q.elim
/-- System.arraycopy of int rows -/
def oh_acp (G : List oh_Sh) (st : List Value) (h : oh_St) (K : List Value → oh_St → Prop) : Prop := match st with
  | .int n :: .int dp :: .ref o1 :: .int sp :: .ref o0 :: r => match oh_nth G o0, oh_nth G o1, Nat.ble (oh_csum r) 8 with
    | some (.inr (.inl n0)), some (.inr (.inl n1)), true => (¬ sp < 0 ∧ ¬ dp < 0 ∧ ¬ n < 0 ∧ sp.toNatClampNeg + n.toNatClampNeg ≤ n0 ∧ dp.toNatClampNeg + n.toNatClampNeg ≤ n1) ∧ K r (oh_upa h o1 (va_cpy (h.1 o0) (h.1 o1) sp.toNatClampNeg dp.toNatClampNeg n.toNatClampNeg))
    | _, _, _ => False
  | _ => False
theorem oh_acp_m {G : List oh_Sh} {st : List Value} {h : oh_St} {K K' : List Value → oh_St → Prop} (hk : ∀ s h, K s h → K' s h) (q : oh_acp G st h K) : oh_acp G st h K' := by
  unfold oh_acp at q ⊢
  split at q
  · split at q
    · exact ⟨q.1, hk _ _ q.2⟩
    · exact q.elim
  · exact q.elim
/-- a local read, of a kind -/
def oh_ldI (l : oh_L) (i : Nat) (K : Value → Prop) : Prop := match oh_get l i with
  | some (.int x) => K (.int x)
  | _ => False
def oh_ldL (l : oh_L) (i : Nat) (K : Value → Prop) : Prop := match oh_get l i with
  | some (.long x) => K (.long x)
  | _ => False
def oh_ldA (l : oh_L) (i : Nat) (K : Value → Prop) : Prop := match oh_get l i with
  | some (.ref x) => K (.ref x)
  | _ => False
theorem oh_ldI_i {l : oh_L} {i : Nat} {K : Value → Prop} (h : oh_ldI l i K) : ∃ x, oh_get l i = some (.int x) ∧ K (.int x) := by
  unfold oh_ldI at h
  split at h
  · exact ⟨_, by assumption, h⟩
  · exact h.elim
theorem oh_ldL_i {l : oh_L} {i : Nat} {K : Value → Prop} (h : oh_ldL l i K) : ∃ x, oh_get l i = some (.long x) ∧ K (.long x) := by
  unfold oh_ldL at h
  split at h
  · exact ⟨_, by assumption, h⟩
  · exact h.elim
theorem oh_ldA_i {l : oh_L} {i : Nat} {K : Value → Prop} (h : oh_ldA l i K) : ∃ x, oh_get l i = some (.ref x) ∧ K (.ref x) := by
  unfold oh_ldA at h
  split at h
  · exact ⟨_, by assumption, h⟩
  · exact h.elim
theorem oh_ldI_m {l : oh_L} {i : Nat} {K K' : Value → Prop} (hk : ∀ v, K v → K' v) (h : oh_ldI l i K) : oh_ldI l i K' := by
  obtain ⟨x, e, h⟩ := oh_ldI_i h
  unfold oh_ldI
  rw [e]
  exact hk _ h
theorem oh_ldL_m {l : oh_L} {i : Nat} {K K' : Value → Prop} (hk : ∀ v, K v → K' v) (h : oh_ldL l i K) : oh_ldL l i K' := by
  obtain ⟨x, e, h⟩ := oh_ldL_i h
  unfold oh_ldL
  rw [e]
  exact hk _ h
theorem oh_ldA_m {l : oh_L} {i : Nat} {K K' : Value → Prop} (hk : ∀ v, K v → K' v) (h : oh_ldA l i K) : oh_ldA l i K' := by
  obtain ⟨x, e, h⟩ := oh_ldA_i h
  unfold oh_ldA
  rw [e]
  exact hk _ h
/-- a local written: there is room for it; the new list is laid out at once -/
def oh_putK : oh_L → Nat → Option Value → (oh_L → Prop) → Prop
  | [], _, _, K => K []
  | _ :: l, 0, v, K => K (v :: l)
  | o :: l, n + 1, v, K => oh_putK l n v (fun l' => K (o :: l'))
theorem oh_putK_eq : ∀ (l : oh_L) (i : Nat) (v : Option Value) (K : oh_L → Prop), oh_putK l i v K = K (oh_put l i v)
  | [], _, _, _ => rfl
  | _ :: l, 0, _, _ => rfl
  | o :: l, n + 1, v, K => oh_putK_eq l n v (fun l' => K (o :: l'))
def oh_clrK (l : oh_L) (i : Nat) (K : oh_L → Prop) : Prop := match i with
  | 0 => K l
  | n + 1 => match oh_get l n with
    | some (.long _) => oh_putK l n none K
    | some (.double _) => oh_putK l n none K
    | _ => K l
theorem oh_clrK_eq (l : oh_L) (i : Nat) (K : oh_L → Prop) : oh_clrK l i K = K (oh_clr l i) := by
  unfold oh_clrK oh_clr
  cases i with
  | zero => rfl
  | succ n => dsimp only; split <;> first | rfl | exact oh_putK_eq _ _ _ _
def oh_wr1 (l : oh_L) (i : Nat) (v : Value) (K : oh_L → Prop) : Prop := match Nat.blt i l.length with
  | true => oh_clrK l i (fun l => oh_putK l i (some v) K)
  | false => False
def oh_wr2 (l : oh_L) (i : Nat) (v : Value) (K : oh_L → Prop) : Prop := match Nat.blt (i + 1) l.length with
  | true => oh_clrK l i (fun l => oh_putK l i (some v) (fun l => oh_putK l (i + 1) none K))
  | false => False
theorem oh_wr1_i {l : oh_L} {i : Nat} {v : Value} {K : oh_L → Prop} (h : oh_wr1 l i v K) : i < l.length ∧ K (oh_st1 l i v) := by
  unfold oh_wr1 at h
  split at h
  · rename_i q
    rw [oh_clrK_eq, oh_putK_eq] at h
    exact ⟨Nat.le_of_ble_eq_true q, h⟩
  · exact h.elim
theorem oh_wr2_i {l : oh_L} {i : Nat} {v : Value} {K : oh_L → Prop} (h : oh_wr2 l i v K) : i + 1 < l.length ∧ K (oh_st2 l i v) := by
  unfold oh_wr2 at h
  split at h
  · rename_i q
    rw [oh_clrK_eq, oh_putK_eq, oh_putK_eq] at h
    exact ⟨Nat.le_of_ble_eq_true q, h⟩
  · exact h.elim
theorem oh_wr1_m {l : oh_L} {i : Nat} {v : Value} {K K' : oh_L → Prop} (hk : ∀ l, K l → K' l) (h : oh_wr1 l i v K) : oh_wr1 l i v K' := by
  unfold oh_wr1 at h ⊢
  split at h
  · rw [oh_clrK_eq, oh_putK_eq] at h ⊢
    exact hk _ h
  · exact h.elim
theorem oh_wr2_m {l : oh_L} {i : Nat} {v : Value} {K K' : oh_L → Prop} (hk : ∀ l, K l → K' l) (h : oh_wr2 l i v K) : oh_wr2 l i v K' := by
  unfold oh_wr2 at h ⊢
  split at h
  · rw [oh_clrK_eq, oh_putK_eq, oh_putK_eq] at h ⊢
    exact hk _ h
  · exact h.elim
/-- the receiver is of the class that the call names (99: a text) -/
def oh_rcv (G : List oh_Sh) (e n : Nat) (st : List Value) (K : Prop) : Prop := oh_split n st [] (fun av _ => match av with
  | .ref o :: _ => match Nat.beq e 99 with
    | true => (2000 ≤ (o : Nat) ∧ (o : Nat) ≤ 2002) ∧ K
    | false => match oh_nth G o with
      | some (.inl (c2, _)) => match Nat.beq c2 e with
        | true => K
        | false => False
      | _ => False
  | _ => False)
theorem oh_rcv_m {G : List oh_Sh} {e n : Nat} {st : List Value} {K K' : Prop} (hk : K → K') (q : oh_rcv G e n st K) : oh_rcv G e n st K' := by
  refine oh_split_m (fun a r q => ?_) n st [] q
  split at q
  · split at q
    · exact ⟨q.1, hk q.2⟩
    · split at q
      · split at q
        · exact hk q
        · exact q.elim
      · exact q.elim
  · exact q.elim
theorem oh_rcv_i {G : List oh_Sh} {e n : Nat} {st : List Value} {K : Prop} (q : oh_rcv G e n st K) : ∃ (o : Nat) (r : List Value), (st.take n).reverse = .ref o :: r ∧ ((e = 99 ∧ 2000 ≤ o ∧ o ≤ 2002) ∨ (¬ e = 99 ∧ ∃ sl, oh_nth G o = some (.inl (e, sl)))) ∧ K := by
  obtain ⟨h1, q2⟩ := oh_split_i _ _ _ _ q
  clear q
  rw [List.append_nil] at q2
  have q := q2
  clear q2
  split at q
  · rename_i o r hs
    split at q
    · rename_i h9
      exact ⟨o, r, hs, Or.inl ⟨Nat.eq_of_beq_eq_true h9, q.1.1, q.1.2⟩, q.2⟩
    · rename_i h9
      split at q
      · rename_i c2 sl hg
        split at q
        · rename_i hc
          have := Nat.eq_of_beq_eq_true hc
          subst this
          exact ⟨o, r, hs, Or.inr ⟨fun z => (by rw [z] at h9; cases h9), sl, hg⟩, q⟩
        · exact q.elim
      · exact q.elim
  · exact q.elim

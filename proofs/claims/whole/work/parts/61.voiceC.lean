/-! VOICES: what they come to; the class -/
abbrev vR : Type := Int32 × List Int32
def vlk (n : Int32) (k : Nat) (x : Int32) : vR := if k = 2 ∨ k = 5 then ((x + n) * 3, [30, 10]) else (x + n, [10])
def vsa (n m : Int32) (k : Nat) (x : Int32) : vR := if k = 3 then (-(x - m), [40, 12]) else if k = 6 then ((-(x - m)) ^^^ n, [70, 40, 12]) else (x - m, [12])
def vth0 (n : Int32) (K : Nat) (x : Int32) : vR := ((vlk n K x).1 * 2, 11 :: (vlk n K x).2)
def vth1 (n m : Int32) (K : Nat) (x : Int32) : vR := ((vth0 n K x).1 - (vsa n m K 1).1, 20 :: ((vth0 n K x).2 ++ (vsa n m K 1).2))
def vth (n m : Int32) (K k : Nat) (x : Int32) : vR := if k = 1 then vth1 n m K x else if k = 4 then ((vth1 n m K (x + 1)).1, 50 :: (vth1 n m K (x + 1)).2) else vth0 n K x
def vte0 (n m : Int32) (K : Nat) (x : Int32) : vR := ((vth n m K K x).1 ^^^ (vsa n m K x).1, 13 :: ((vth n m K K x).2 ++ (vsa n m K x).2))
def vte (n m : Int32) (K k : Nat) (x : Int32) : vR := if k = 5 then ((vte0 n m K x).1 - (vlk n K 2).1, 60 :: ((vte0 n m K x).2 ++ (vlk n K 2).2)) else if k = 6 then ((vth n m K K x).1 - (vte0 n m K x).1, 71 :: ((vth n m K K x).2 ++ (vte0 n m K x).2)) else vte0 n m K x
theorem vlk_l (n : Int32) (k : Nat) (x : Int32) : (vlk n k x).2.length ≤ 2 := by unfold vlk; split <;> simp
theorem vsa_l (n m : Int32) (k : Nat) (x : Int32) : (vsa n m k x).2.length ≤ 3 := by
  unfold vsa
  split
  · simp
  · split <;> simp
theorem vth0_l (n : Int32) (K : Nat) (x : Int32) : (vth0 n K x).2.length ≤ 3 := by
  have := vlk_l n K x
  show (11 :: (vlk n K x).2).length ≤ 3
  simp
  omega
theorem vth1_l (n m : Int32) (K : Nat) (x : Int32) : (vth1 n m K x).2.length ≤ 7 := by
  have := vth0_l n K x
  have := vsa_l n m K 1
  show (20 :: ((vth0 n K x).2 ++ (vsa n m K 1).2)).length ≤ 7
  simp
  omega
theorem vth_l (n m : Int32) (K k : Nat) (x : Int32) : (vth n m K k x).2.length ≤ 8 := by
  have := vth0_l n K x
  have := vth1_l n m K x
  have := vth1_l n m K (x + 1)
  unfold vth
  split
  · omega
  · split
    · show (50 :: (vth1 n m K (x + 1)).2).length ≤ 8
      simp
      omega
    · omega
theorem vte0_l (n m : Int32) (K : Nat) (x : Int32) : (vte0 n m K x).2.length ≤ 12 := by
  have := vth_l n m K K x
  have := vsa_l n m K x
  show (13 :: ((vth n m K K x).2 ++ (vsa n m K x).2)).length ≤ 12
  simp
  omega
theorem vte_l (n m : Int32) (K k : Nat) (x : Int32) : (vte n m K k x).2.length ≤ 21 := by
  have := vth_l n m K K x
  have := vte0_l n m K x
  have := vlk_l n K 2
  unfold vte
  split
  · show (60 :: ((vte0 n m K x).2 ++ (vlk n K 2).2)).length ≤ 21
    simp
    omega
  · split
    · show (71 :: ((vth n m K K x).2 ++ (vte0 n m K x).2)).length ≤ 21
      simp
      omega
    · omega
/-- the class's voices as they stand -/
def cV (h : oh_St) (L : List Int32) (K : Nat) (n m : Int32) : Prop := rowIs h 48 L ∧ h.1 47 1 = nI K ∧ h.1 47 2 = n ∧ h.1 47 3 = m
def cVF (h h' : oh_St) : Prop := (∀ a b, a ≠ 48 → a ≠ 49 → h'.1 a b = h.1 a b) ∧ h'.2 = h.2
theorem cVF_rf (h : oh_St) : cVF h h := ⟨fun _ _ _ _ => rfl, rfl⟩
theorem cVF_tr {h h' h2 : oh_St} (H : cVF h h') (H2 : cVF h' h2) : cVF h h2 := ⟨fun a b x y => (H2.1 a b x y).trans (H.1 a b x y), H2.2.trans H.2⟩
def cVS (jc : Nat) (args : List Value) (n m : Int32) (K D : Nat) (r : vR) : Prop := ∀ (Q : Int32 → oh_St → Prop) (h : oh_St) (L : List Int32), L.length + r.2.length ≤ 40 → cV h L K n m → (∀ h', cV h' (L ++ r.2) K n m → cVF h h' → Q r.1 h') → CM D jc (.ref 47 :: args) h (oh_r1 Q)
theorem cVS_own {n m : Int32} {K D : Nat} {act x dep : Int32} {r : vR} (H : cVS jX6_from [.int (nI K), .int act, .int x, .int dep] n m K D r) : cVS jX6_own [.int act, .int x, .int dep] n m K (D + 1) r := by
  intro Q h L hl c q
  refine mX6_own ?_
  rw [c.2.1]
  exact H Q h L hl c q
/-- the body of a kind; the kind above -/
def ownB (k act : Nat) : Nat := [10, 11, 12, 13, 0, 20, 0, 0, 30, 0, 0, 0, 0, 0, 40, 0, 0, 50, 0, 0, 0, 0, 0, 60, 0, 0, 70, 71].getD (4 * k + act) 0
def bdB (k act : Nat) : Nat := if ownB k act ≠ 0 then ownB k act else if ownB (abN k) act ≠ 0 then ownB (abN k) act else ownB (abN (abN k)) act
theorem own_t : ∀ i, i < 28 → oh_l1001.getD i 0 = nI ([10, 11, 12, 13, 0, 20, 0, 0, 30, 0, 0, 0, 0, 0, 40, 0, 0, 50, 0, 0, 0, 0, 0, 60, 0, 0, 70, 71].getD i 0) := by decide +kernel
theorem own_lt : ∀ k, k < 7 → ∀ a, a < 4 → ownB k a < 100 := by decide +kernel
theorem abv_t : ∀ k, k < 7 → ¬ k = 0 → oh_l1000.getD k 0 = nI (abN k) := by decide +kernel
theorem own_0 : ∀ a, a < 4 → ¬ ownB 0 a = 0 := by decide +kernel
theorem bd_n : ∀ k, k < 7 → ∀ a, a < 4 → ¬ bdB k a = 0 := by decide +kernel
theorem abN_lt : ∀ k, k < 7 → abN k < 7 := by decide +kernel
theorem idx_4 (k a : Nat) : nI k * (4 : Int32) + nI a = nI (4 * k + a) := by
  have : nI k * (4 : Int32) = nI (4 * k) := by
    rw [Nat.mul_comm]
    exact (Int32.ofNat_mul k 4).symm
  rw [this, nI_add]
/-- one kind looked at -/
theorem frm_y {d k act i : Nat} {Q : Int32 → oh_St → Prop} {h : oh_St} {x dep : Int32} (hk : k < 7) (ha : act < 4) (hi : i < 7) (hb : ¬ ownB k act = 0) (q : CM d jX3_add [.ref 48, .int (nI (ownB k act))] h (oh_r0 (fun h1 => CM d jX6_workedOut [.ref 47, .int (nI (ownB k act)), .int x, .int (dep + 1)] h1 (oh_r1 Q)))) : wX6_from_15 d (oh_r1 Q) (nI act) x dep (nI k) (nI i) h := by
  have l := own_lt k hk act ha
  refine bX6_from_15 ?_
  rw [idx_4, oh_cl (by omega), own_t _ (by omega)]
  exact br_f (nI_ge (b := 7) hi (by omega)) (br_f (nI_pos (by omega)) (br_f (nI_ge (b := 7) hk (by omega)) ⟨oh_in (by omega) (by omega), br_f (nI_ne0 (n := ownB k act) (by omega) (by omega)) q⟩))
theorem frm_n {d k act i : Nat} {Q : Int32 → oh_St → Prop} {h : oh_St} {x dep : Int32} (hk : k < 7) (ha : act < 4) (hi : i < 7) (hb : ownB k act = 0) (q : wX6_from_15 d (oh_r1 Q) (nI act) x dep (nI (abN k)) (nI (i + 1)) h) : wX6_from_15 d (oh_r1 Q) (nI act) x dep (nI k) (nI i) h := by
  have k0 : ¬ k = 0 := fun e => by subst e; exact own_0 act ha hb
  refine bX6_from_15 ?_
  rw [idx_4, oh_cl (by omega), own_t _ (by omega), oh_cl (by omega), abv_t k hk k0, nI_1]
  have hb : [10, 11, 12, 13, 0, 20, 0, 0, 30, 0, 0, 0, 0, 0, 40, 0, 0, 50, 0, 0, 0, 0, 0, 60, 0, 0, 70, 71].getD (4 * k + act) 0 = 0 := hb
  rw [hb]
  exact br_f (nI_ge (b := 7) hi (by omega)) (br_f (nI_pos (by omega)) (br_f (nI_ge (b := 7) hk (by omega)) ⟨oh_in (by omega) (by omega), br_t rfl ⟨oh_in hk (by omega), q⟩⟩))
theorem frm {d k act dep : Nat} {Q : Int32 → oh_St → Prop} {h : oh_St} {x : Int32} (hk : k < 7) (ha : act < 4) (hd : dep ≤ 12) (q : CM d jX3_add [.ref 48, .int (nI (bdB k act))] h (oh_r0 (fun h1 => CM d jX6_workedOut [.ref 47, .int (nI (bdB k act)), .int x, .int (nI (dep + 1))] h1 (oh_r1 Q)))) : CM (d + 1) jX6_from [.ref 47, .int (nI k), .int (nI act), .int x, .int (nI dep)] h (oh_r1 Q) := by
  refine mX6_from (br_t (nI_le (b := 12) hd (by omega)) ?_)
  rw [← nI_1] at q
  have n := bd_n k hk act ha
  unfold bdB at q n
  have k1 := abN_lt k hk
  have k2 := abN_lt _ k1
  by_cases c : ownB k act = 0
  · rw [if_neg (fun z => z c)] at q n
    refine frm_n hk ha (i := 0) (by omega) c ?_
    by_cases c2 : ownB (abN k) act = 0
    · rw [if_neg (fun z => z c2)] at q n
      exact frm_n k1 ha (i := 1) (by omega) c2 (frm_y k2 ha (i := 2) (by omega) n q)
    · rw [if_pos c2] at q
      exact frm_y k1 ha (i := 1) (by omega) c2 q
  · rw [if_pos c] at q
    exact frm_y hk ha (i := 0) (by omega) c q
theorem cVS_from {n m x : Int32} {K d k act dep : Nat} {r : vR} (hk : k < 7) (ha : act < 4) (hd : dep ≤ 12) (H : cVS jX6_workedOut [.int (nI (bdB k act)), .int x, .int (nI (dep + 1))] n m K (d + 1) r) : cVS jX6_from [.int (nI k), .int (nI act), .int x, .int (nI dep)] n m K (d + 2) (r.1, nI (bdB k act) :: r.2) := by
  intro Q h L hl c q
  have hl : L.length + (r.2.length + 1) ≤ 40 := hl
  have q : ∀ h', cV h' (L ++ nI (bdB k act) :: r.2) K n m → cVF h h' → Q r.1 h' := q
  have ro : oRow 48 := by unfold oRow; omega
  refine frm hk ha hd (sX3_add ro c.1 (show L.length < 40 by omega) ?_)
  have c1 : rowIs (rowAdd h 48 L.length (nI (bdB k act))) 48 (L ++ [nI (bdB k act)]) := rowAdd_is c.1 (show L.length < 40 by omega)
  have f1 : cVF h (rowAdd h 48 L.length (nI (bdB k act))) := by
    have s := rowAdd_same h 48 L.length (nI (bdB k act))
    exact ⟨fun a b x y => s.1 a b (by simp [x, y]), s.2⟩
  refine H Q _ (L ++ [nI (bdB k act)]) (by rw [List.length_append, List.length_singleton]; omega) ⟨c1, (f1.1 47 1 (by omega) (by omega)).trans c.2.1, (f1.1 47 2 (by omega) (by omega)).trans c.2.2.1, (f1.1 47 3 (by omega) (by omega)).trans c.2.2.2⟩ (fun h' c' f' => q h' ?_ (cVF_tr f1 f'))
  rw [List.append_assoc] at c'
  exact c'

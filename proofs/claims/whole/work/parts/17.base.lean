/-! BASE of the pure part: states, branches on answers, small numbers -/
theorem oh_g1 (h : oh_St) (o k : Nat) (v : Int32) (a b : Nat) : (oh_upi h o k v).1 a b = if a = o ∧ b = k then v else h.1 a b := by
  unfold oh_upi
  by_cases ha : a = o
  · subst ha
    by_cases hb : b = k <;> simp [upd, hb]
  · simp [ha]
theorem oh_g2 (h : oh_St) (o k : Nat) (v : Int32) : (oh_upi h o k v).2 = h.2 := rfl
theorem oh_g3 (h : oh_St) (o k : Nat) (v : Int64) : (oh_upl h o k v).1 = h.1 := rfl
theorem oh_g4 (h : oh_St) (o k : Nat) (v : Int64) (a b : Nat) : (oh_upl h o k v).2 a b = if a = o ∧ b = k then v else h.2 a b := by
  unfold oh_upl
  by_cases ha : a = o
  · subst ha
    by_cases hb : b = k <;> simp [vp_updL, hb]
  · simp [ha]
theorem oh_g5 (h : oh_St) (o : Nat) (f : Nat → Int32) (a b : Nat) : (oh_upa h o f).1 a b = if a = o then f b else h.1 a b := by
  unfold oh_upa
  by_cases ha : a = o <;> simp [ha]
theorem oh_g6 (h : oh_St) (o : Nat) (f : Nat → Int32) : (oh_upa h o f).2 = h.2 := rfl
theorem oh_ext {h h' : oh_St} (h1 : ∀ a b, h.1 a b = h'.1 a b) (h2 : ∀ a b, h.2 a b = h'.2 a b) : h = h' := Prod.ext (funext fun a => funext fun b => h1 a b) (funext fun a => funext fun b => h2 a b)
/-- a truth as a number -/
def oh_b (c : Bool) : Int32 := if c then 1 else 0
theorem oh_b_01 (c : Bool) : oh_b c = 0 ∨ oh_b c = 1 := by cases c <;> simp [oh_b]
theorem oh_b_0 {c : Bool} : oh_b c = 0 ↔ c = false := by cases c <;> simp [oh_b]
theorem oh_b_1 {c : Bool} : oh_b c = 1 ↔ c = true := by cases c <;> simp [oh_b]
theorem oh_b_n {c : Bool} : ¬ oh_b c = 0 ↔ c = true := by cases c <;> simp [oh_b]
theorem oh_b_n1 {c : Bool} : ¬ oh_b c = 1 ↔ c = false := by cases c <;> simp [oh_b]
theorem oh_b_nI (c : Bool) : oh_b c = nI c.toNat := by cases c <;> rfl
/-- branches on a truth -/
theorem oh_bz {c : Bool} {A B : Prop} (f : c = false → A) (t : c = true → B) : (oh_b c = 0 → A) ∧ (¬ oh_b c = 0 → B) := ⟨fun z => f (oh_b_0.mp z), fun z => t (oh_b_n.mp z)⟩
theorem oh_bn {c : Bool} {A B : Prop} (t : c = true → A) (f : c = false → B) : (¬ oh_b c = 0 → A) ∧ (oh_b c = 0 → B) := ⟨fun z => t (oh_b_n.mp z), fun z => f (oh_b_0.mp z)⟩
theorem oh_bo {c : Bool} {A B : Prop} (f : c = false → A) (t : c = true → B) : (¬ oh_b c = 1 → A) ∧ (oh_b c = 1 → B) := ⟨fun z => f (oh_b_n1.mp z), fun z => t (oh_b_1.mp z)⟩
theorem oh_be {c : Bool} {A B : Prop} (t : c = true → A) (f : c = false → B) : (oh_b c = 1 → A) ∧ (¬ oh_b c = 1 → B) := ⟨fun z => t (oh_b_1.mp z), fun z => f (oh_b_n1.mp z)⟩
/-- a truth that is answered by a branch -/
theorem oh_q01 {c : Prop} [Decidable c] {K : Int32 → Prop} (q : K (oh_b (decide c))) : (c → ((1 : Int32) = 0 ∨ (1 : Int32) = 1) ∧ K 1) ∧ (¬ c → ((0 : Int32) = 0 ∨ (0 : Int32) = 1) ∧ K 0) := by
  by_cases h : c
  · simp only [h, decide_true, oh_b] at q
    exact ⟨fun _ => ⟨Or.inr rfl, q⟩, fun z => absurd h z⟩
  · simp only [h, decide_false, oh_b] at q
    exact ⟨fun z => absurd z h, fun _ => ⟨Or.inl rfl, q⟩⟩
theorem oh_q10 {c : Prop} [Decidable c] {K : Int32 → Prop} (q : K (oh_b (decide (¬ c)))) : (c → ((0 : Int32) = 0 ∨ (0 : Int32) = 1) ∧ K 0) ∧ (¬ c → ((1 : Int32) = 0 ∨ (1 : Int32) = 1) ∧ K 1) := by
  by_cases h : c
  · simp only [h, not_true, decide_false, oh_b] at q
    exact ⟨fun _ => ⟨Or.inl rfl, q⟩, fun z => absurd h z⟩
  · simp only [h, not_false_iff, decide_true, oh_b] at q
    exact ⟨fun z => absurd z h, fun _ => ⟨Or.inr rfl, q⟩⟩
theorem oh_i1 : (1 : Int32) = 0 ∨ (1 : Int32) = 1 := Or.inr rfl
theorem oh_i0 : (0 : Int32) = 0 ∨ (0 : Int32) = 1 := Or.inl rfl
/-- places by numbers -/
theorem oh_in {i n : Nat} (h : i < n) (hn : n < 2 ^ 31) : vp_in (nI i) n := vp_in_nI h hn
theorem oh_cl {i : Nat} (h : i < 2 ^ 31) : (nI i).toNatClampNeg = i := nI_clamp h
theorem oh_lt {x : Int32} {n : Nat} (hn : n < 2 ^ 31) : ¬ nI n ≤ x ↔ x < nI n := by
  rw [Int32.not_le]
theorem oh_nat {x : Int32} (h : ¬ x < 0) : ∃ j : Nat, j < 2 ^ 31 ∧ x = nI j := nI_of h
/-- an int between 0 and a number -/
theorem oh_rng {x : Int32} {n : Nat} (hn : n < 2 ^ 31) : (¬ x < 0 ∧ x < nI n) ↔ ∃ j, j < n ∧ x = nI j := by
  constructor
  · rintro ⟨h1, h2⟩
    obtain ⟨j, hj, rfl⟩ := nI_of h1
    exact ⟨j, (nI_ltI hj hn).mp h2, rfl⟩
  · rintro ⟨j, hj, rfl⟩
    exact ⟨nI_pos (by omega), nI_lt hj hn⟩
/-- a loop that counts up: from i on, to n -/
theorem oh_up {P : Nat → Prop} {n : Nat} (hs : ∀ i, i < n → P (i + 1) → P i) (he : P n) : ∀ i, i ≤ n → P i := by
  intro i hi
  obtain ⟨k, rfl⟩ := Nat.exists_eq_add_of_le hi
  clear hi
  induction k generalizing i with
  | zero => exact he
  | succ k ih => exact hs i (by omega) (ih (i + 1) (by intro j hj; exact hs j (by omega)) (by rw [show i + 1 + k = i + (k + 1) by omega]; exact he))
/-- compares of longs that came of a cmp -/
theorem oh_cmp0 (x y : Int64) : lg_cmp x y = 0 ↔ x = y := by
  unfold lg_cmp
  by_cases h : x > y
  · have : x ≠ y := fun z => by subst z; exact Int64.lt_irrefl h
    simp [h, this]
  · by_cases h2 : x = y <;> simp [h, h2]
theorem oh_cmpl (x y : Int64) : lg_cmp x y < 0 ↔ x < y := by
  unfold lg_cmp
  by_cases h : x > y
  · have : ¬ x < y := fun z => Int64.lt_irrefl (Int64.lt_trans h z)
    simp only [h, if_true, this, iff_false]; decide
  · by_cases h2 : x = y
    · subst h2
      simp
    · have : x < y := by
        rcases Int64.lt_or_lt_of_ne h2 with z | z
        · exact z
        · exact absurd z h
      simp only [h, if_false, h2, this, iff_true]; decide
theorem oh_cmpg (x y : Int64) : 0 < lg_cmp x y ↔ y < x := by
  unfold lg_cmp
  by_cases h : x > y
  · simp only [h, if_true]; decide
  · by_cases h2 : x = y
    · subst h2
      simp
    · rw [if_neg h, if_neg h2]
      constructor
      · intro z; exact absurd z (by decide)
      · intro z; exact absurd z h

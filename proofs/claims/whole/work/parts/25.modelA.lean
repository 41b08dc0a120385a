/-! THE MODEL: a scene of it; what one thinks, who speaks, who says black -/
theorem om_0 : (0 : Int32).toNatClampNeg = 0 := rfl
theorem om_1 : (1 : Int32).toNatClampNeg = 1 := rfl
theorem om_2 : (2 : Int32).toNatClampNeg = 2 := rfl
theorem om_3 : (3 : Int32).toNatClampNeg = 3 := rfl
theorem om_4 : (4 : Int32).toNatClampNeg = 4 := rfl
theorem om_5 : (5 : Int32).toNatClampNeg = 5 := rfl
theorem om_6 : (6 : Int32).toNatClampNeg = 6 := rfl
theorem om_7 : (7 : Int32).toNatClampNeg = 7 := rfl
theorem om_in {n : Nat} (h : n < 210) : vp_in (nI n) 210 := oh_in h (by omega)
/-- the scene of the model -/
def mSc (k : oh_St) (S : oS) : Prop := k.1 1 0 = nI (sN S) ∧ (∀ p, p < 6 → k.1 1 (8 + 5 * p + 0) = nI (sK S p) ∧ k.1 1 (8 + 5 * p + 1) = nI (sM S p) ∧ k.1 1 (8 + 5 * p + 2) = oh_b ((sW S).testBit p) ∧ k.1 1 (8 + 5 * p + 3) = nI (sE S p)) ∧ k.2 0 3 = lN (sP S) ∧ k.1 1 3 = nI (sQ S) ∧ k.1 1 2 = nI (sB S) ∧ sOk S
theorem mSc_same {k k' : oh_St} {S : oS} {X : List Nat} (H : mSc k S) (hs : oSame k k' X) (h0 : 1 ∉ X) : mSc k' S := by
  obtain ⟨h1, h2, h3, h4, h5, h6⟩ := H
  have e : ∀ b, k'.1 1 b = k.1 1 b := fun b => hs.1 1 b h0
  refine ⟨(e 0).trans h1, fun p hp => ?_, by rw [hs.2]; exact h3, (e 3).trans h4, (e 2).trans h5, h6⟩
  rw [e, e, e, e]
  exact h2 p hp
theorem om_at (p w : Nat) : ((8 : Int32) + (5 : Int32) * nI p) + nI w = nI (8 + 5 * p + w) := by
  rw [show (8 : Int32) = nI 8 from rfl, show (5 : Int32) = nI 5 from rfl, pk_mul, nI_add, nI_add]
theorem sX8_of {d : Nat} {K : Int32 → oh_St → Prop} {k : oh_St} {p w : Nat} (hp : p < 6) (hw : w < 5) (q : K (k.1 1 (8 + 5 * p + w)) k) : MM (d + 1) jX8_of [.ref 0, .int (nI p), .int (nI w)] k (oh_r1 K) := by
  refine mX8_of ?_
  rw [om_at]
  refine ⟨om_in (by omega), ?_⟩
  rw [oh_cl (by omega)]
  exact q
theorem sX8_becomes {d : Nat} {K : oh_St → Prop} {k : oh_St} {p w : Nat} {v : Int32} (hp : p < 6) (hw : w < 5) (q : K (oh_upi k 1 (8 + 5 * p + w) v)) : MM (d + 1) jX8_becomes [.ref 0, .int (nI p), .int (nI w), .int v] k (oh_r0 K) := by
  refine mX8_becomes ?_
  rw [om_at]
  refine ⟨om_in (by omega), ?_⟩
  rw [oh_cl (by omega)]
  exact q
theorem sX8_isPossible {d : Nat} {K : Int32 → oh_St → Prop} {k : oh_St} {P x : Nat} (hk : k.2 0 3 = lN P) (hP : P < 2 ^ 64) (hx : x < 64) (q : K (oh_b (P.testBit x)) k) : MM (d + 1) jX8_isPossible [.ref 0, .int (nI x)] k (oh_r1 K) := by
  refine mX8_isPossible ?_
  rw [hk, ob_sbit hx, Nat.mod_eq_of_lt hP]
  have e : (lg_cmp (lN (P.testBit x).toNat) 1 = 0) ↔ P.testBit x = true := by rw [oh_cmp0, ob_b1]
  cases hb : P.testBit x
  · rw [hb] at e q
    exact oh_nt (fun z => by have := e.mp z; cases this) ⟨oh_i0, q⟩
  · rw [hb] at e q
    exact oh_nf (e.mpr rfl) ⟨oh_i1, q⟩
theorem sX8_ones {d : Nat} {K : Int32 → oh_St → Prop} {k : oh_St} {a : Nat} (ha : a < 2 ^ 31) (q : K (nI (ob_ct a 6)) k) : MM (d + 1) jX8_ones [.int (nI a)] k (oh_r1 K) := by
  refine mX8_ones ?_
  have key : ∀ i, i ≤ 6 → wX8_ones_4 d (oh_r1 K) (nI a) (nI (ob_ct a i)) (nI i) k := by
    refine oh_up (fun i hi ih => ?_) ?_
    · refine bX8_ones_4 (br_f (nI_ge (b := 6) hi (by omega)) ?_)
      rw [ob_bit ha (by omega), oh_b_nI, nI_add, show (1 : Int32) = nI 1 from rfl, nI_add]
      rw [ob_ct, fb_ct_succ] at ih
      have : (if a.testBit i = true then 1 else 0) = (a.testBit i).toNat := by cases a.testBit i <;> rfl
      rw [this] at ih
      exact ih
    · exact bX8_ones_4 (br_t (nI_le (Nat.le_refl 6) (by omega)) q)
  exact key 0 (by omega)
theorem om_l2i (c : Bool) : (lN c.toNat).toInt32 = oh_b c := by cases c <;> decide
theorem sX8_manyOf {d : Nat} {K : Int32 → oh_St → Prop} {k : oh_St} {P : Nat} (hP : P < 2 ^ 64) (q : K (nI (ob_ct P 64)) k) : MM (d + 1) jX8_manyOf [.long (lN P)] k (oh_r1 K) := by
  refine mX8_manyOf ?_
  have key : ∀ i, i ≤ 64 → wX8_manyOf_4 d (oh_r1 K) (lN P) (nI (ob_ct P i)) (nI i) k := by
    refine oh_up (fun i hi ih => ?_) ?_
    · refine bX8_manyOf_4 (br_f (nI_ge (b := 64) hi (by omega)) ?_)
      rw [ob_sbit hi, Nat.mod_eq_of_lt hP, om_l2i, oh_b_nI, nI_add, show (1 : Int32) = nI 1 from rfl, nI_add]
      rw [ob_ct, fb_ct_succ] at ih
      have : (if P.testBit i = true then 1 else 0) = (P.testBit i).toNat := by cases P.testBit i <;> rfl
      rw [this] at ih
      exact ih
    · exact bX8_manyOf_4 (br_t (nI_le (Nat.le_refl 64) (by omega)) q)
  exact key 0 (by omega)
theorem om_hat (S : oS) (i : Nat) : nI (ob_m (fun p => (sW S).testBit p) i) ||| nI (if (sW S).testBit i then 2 ^ i else 0) = nI (ob_m (fun p => (sW S).testBit p) (i + 1)) := by
  rw [ob_or, ob_m]
  cases (sW S).testBit i
  · simp
  · simp
theorem sX8_hats {d : Nat} {K : Int32 → oh_St → Prop} {k : oh_St} {S : oS} (hk : mSc k S) (q : K (nI (sW S)) k) : MM (d + 2) jX8_hats [.ref 0] k (oh_r1 K) := by
  have hn := hk.2.2.2.2.2.1
  refine mX8_hats ?_
  have key : ∀ i, i ≤ sN S → wX8_hats_4 (d + 1) (oh_r1 K) (nI (ob_m (fun p => (sW S).testBit p) i)) (nI i) k := by
    refine oh_up (fun i hi ih => ?_) ?_
    · refine bX8_hats_4 ⟨om_in (n := 0) (by omega), ?_⟩
      rw [om_0, hk.1]
      refine br_f (nI_ge hi (by omega)) (sX8_of (w := 2) (by omega) (by omega) ?_)
      rw [(hk.2.1 i (by omega)).2.2.1, ob_bsh _ (by omega), om_hat, show (1 : Int32) = nI 1 from rfl, nI_add]
      exact ih
    · refine bX8_hats_4 ⟨om_in (n := 0) (by omega), ?_⟩
      rw [om_0, hk.1]
      refine br_t (nI_le (Nat.le_refl _) (by omega)) ?_
      rw [ob_m_self hk.2.2.2.2.2.2.2.1]
      exact q
  exact key 0 (Nat.zero_le _)

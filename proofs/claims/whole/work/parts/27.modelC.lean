/-! THE MODEL: who speaks, who says black -/
theorem sX8_blackOf {d : Nat} {K : Int32 → oh_St → Prop} {k : oh_St} {S : oS} {p x : Nat} (hk : mSc k S) (ht : mTh k S) (hp : p < sN S) (hx : x < 64) (q : K (nI (oBl p (sCell S p x))) k) : MM (d + 2) jX8_blackOf [.ref 0, .int (nI p), .int (nI x)] k (oh_r1 K) := by
  have hok := hk.2.2.2.2.2
  have hn := hok.1
  have hs := (hok.2.1 p (by omega)).2.2
  refine mX8_blackOf (sX8_of (w := 3) (by omega) (by omega) ?_)
  have hv0 : x &&& sE S p < 64 := Nat.lt_of_le_of_lt Nat.and_le_right hs
  rw [(hk.2.1 p (by omega)).2.2.2, ob_and, om_64, oh_cl (by omega)]
  refine ⟨oh_in (by omega) (by omega), ?_⟩
  rw [((ht p hp).1 x hx).1]
  exact q
theorem sX8_whiteOf {d : Nat} {K : Int32 → oh_St → Prop} {k : oh_St} {S : oS} {p x : Nat} (hk : mSc k S) (ht : mTh k S) (hp : p < sN S) (hx : x < 64) (q : K (nI (oWh p (sCell S p x))) k) : MM (d + 2) jX8_whiteOf [.ref 0, .int (nI p), .int (nI x)] k (oh_r1 K) := by
  have hok := hk.2.2.2.2.2
  have hn := hok.1
  have hs := (hok.2.1 p (by omega)).2.2
  refine mX8_whiteOf (sX8_of (w := 3) (by omega) (by omega) ?_)
  have hv0 : x &&& sE S p < 64 := Nat.lt_of_le_of_lt Nat.and_le_right hs
  rw [(hk.2.1 p (by omega)).2.2.2, ob_and, om_64, oh_cl (by omega)]
  refine ⟨oh_in (by omega) (by omega), ?_⟩
  rw [((ht p hp).1 x hx).2]
  exact q
theorem sX8_knows {d : Nat} {K : Int32 → oh_St → Prop} {k : oh_St} {S : oS} {p x : Nat} (hk : mSc k S) (ht : mTh k S) (hp : p < sN S) (hx : x < 64) (q : K (oh_b (oKn p (sCell S p x))) k) : MM (d + 3) jX8_knows [.ref 0, .int (nI p), .int (nI x)] k (oh_r1 K) := by
  refine mX8_knows (sX8_blackOf hk ht hp hx ?_)
  have b1 := oBl_le p (sCell S p x)
  have b2 := oWh_le p (sCell S p x)
  unfold oKn at q
  by_cases c1 : oBl p (sCell S p x) = 0
  · rw [c1] at q ⊢
    simp only [decide_true, Bool.true_or] at q
    exact br_t rfl ⟨oh_i1, q⟩
  · refine br_f (nI_ne0 (by omega) (by omega)) (sX8_whiteOf hk ht hp hx ?_)
    simp only [c1, decide_false, Bool.false_or] at q
    by_cases c2 : oWh p (sCell S p x) = 0
    · rw [c2] at q ⊢
      exact oh_nf rfl ⟨oh_i1, q⟩
    · simp only [c2, decide_false] at q
      exact oh_nt (nI_ne0 (by omega) (by omega)) ⟨oh_i0, q⟩
theorem sX8_wouldSay {d : Nat} {K : Int32 → oh_St → Prop} {k : oh_St} {S : oS} {p x : Nat} (hk : mSc k S) (ht : mTh k S) (hp : p < sN S) (hx : x < 64) (q : K (oh_b (oSay p (sCell S p x))) k) : MM (d + 3) jX8_wouldSay [.ref 0, .int (nI p), .int (nI x)] k (oh_r1 K) := by
  refine mX8_wouldSay (sX8_blackOf hk ht hp hx (sX8_whiteOf hk ht hp hx ?_))
  have h1 := oBl_le p (sCell S p x)
  have h2 := oWh_le p (sCell S p x)
  unfold oSay at q
  by_cases c : oBl p (sCell S p x) < oWh p (sCell S p x)
  · rw [decide_eq_false (by omega)] at q
    exact br_t (nI_lt c (by omega)) q
  · rw [decide_eq_true (by omega)] at q
    exact br_f (nI_nlt (by omega) (by omega)) q
theorem sX8_isHasty {d : Nat} {K : Int32 → oh_St → Prop} {k : oh_St} {S : oS} {p x : Nat} (hk : mSc k S) (ht : mTh k S) (hp : p < sN S) (hx : x < 64) (q : K (oh_b (sHs S p (sCell S p x))) k) : MM (d + 4) jX8_isHasty [.ref 0, .int (nI p), .int (nI x)] k (oh_r1 K) := by
  have hok := hk.2.2.2.2.2
  have hn := hok.1
  have hm := (hok.2.1 p (by omega)).2.1
  refine mX8_isHasty (sX8_of (w := 1) (by omega) (by omega) (sX8_knows hk ht hp hx ?_))
  have b1 := oBl_le p (sCell S p x)
  have b2 := oWh_le p (sCell S p x)
  have m1 : sM S p * oWh p (sCell S p x) ≤ 9 * 64 := Nat.mul_le_mul hm b2
  have m2 : sM S p * oBl p (sCell S p x) ≤ 9 * 64 := Nat.mul_le_mul hm b1
  unfold sHs at q
  refine oh_bn (fun c => ?_) (fun c => ?_)
  · rw [c] at q
    exact ⟨oh_i1, q⟩
  · rw [c] at q
    simp only [Bool.false_or] at q
    refine sX8_blackOf hk ht hp hx (sX8_whiteOf hk ht hp hx ?_)
    rw [(hk.2.1 p (by omega)).2.1, pk_mul]
    by_cases c3 : sM S p * oWh p (sCell S p x) < oBl p (sCell S p x)
    · simp only [c3, decide_true, Bool.true_or] at q
      exact br_t (nI_lt c3 (by omega)) ⟨oh_i1, q⟩
    · refine br_f (nI_nlt (by omega) (by omega)) (sX8_whiteOf hk ht hp hx (sX8_blackOf hk ht hp hx ?_))
      rw [pk_mul]
      simp only [c3, decide_false, Bool.false_or] at q
      by_cases c4 : sM S p * oBl p (sCell S p x) < oWh p (sCell S p x)
      · simp only [c4, decide_true] at q
        exact br_f (nI_ge c4 (by omega)) ⟨oh_i1, q⟩
      · simp only [c4, decide_false] at q
        exact br_t (nI_le (by omega) (by omega)) ⟨oh_i0, q⟩
theorem sX8_speaks {d : Nat} {K : Int32 → oh_St → Prop} {k : oh_St} {S : oS} {p x : Nat} (hk : mSc k S) (ht : mTh k S) (hp : p < sN S) (hx : x < 64) (q : K (oh_b (sSp S p (sCell S p x))) k) : MM (d + 5) jX8_speaks [.ref 0, .int (nI p), .int (nI x)] k (oh_r1 K) := by
  have hok := hk.2.2.2.2.2
  have hn := hok.1
  obtain ⟨hkk, hm, hs⟩ := hok.2.1 p (by omega)
  have hq := sQ_lt hok
  have hbe := hok.2.2.2.2.2
  obtain ⟨r0, r1, r2, r3⟩ := hk.2.1 p (by omega)
  have e3 := hk.2.2.2.1
  have e2 := hk.2.2.2.2.1
  refine mX8_speaks ⟨om_in (n := 3) (by omega), ?_⟩
  rw [om_3, e3, ob_bit (by omega) (by omega)]
  unfold sSp at q
  refine oh_bo (fun c => ?_) (fun c => ?_)
  · rw [c] at q
    simp only [Bool.not_false, Bool.true_and] at q
    refine sX8_of (w := 1) (by omega) (by omega) (sX8_of (w := 3) (by omega) (by omega) (sX8_of (w := 0) (by omega) (by omega) ?_))
    rw [r0, r1, r3]
    have kne : ∀ {k j : Nat}, k ≤ 6 → j ≤ 6 → k ≠ j → ¬ nI k = nI j := fun a b c z => c ((nI_eq (by omega) (by omega)).mp z)
    have bell : ∀ {B : Prop} {C : Prop}, (¬ sM S p ≤ sB S → B) → (sM S p ≤ sB S → C) → (nI (sB S) < nI (sM S p) → B) ∧ (¬ nI (sB S) < nI (sM S p) → C) := fun f g => ⟨fun z => f (by have := (nI_ltI (by omega) (by omega)).mp z; omega), fun z => g (by have := mt (nI_ltI (by omega) (by omega)).mpr z; omega)⟩
    have i2 : vp_in (2 : Int32) 210 := om_in (n := 2) (by omega)
    by_cases k1 : sK S p = 1
    · rw [k1] at q ⊢
      exact br_t rfl (sX8_isHasty hk ht hp hx ⟨oh_b_01 _, q⟩)
    refine br_f (kne (j := 1) hkk (by omega) k1) ?_
    by_cases k2 : sK S p = 2
    · rw [k2] at q ⊢
      refine br_t rfl (sX8_knows hk ht hp hx (oh_bz (fun c => ?_) (fun c => ⟨i2, ?_⟩)))
      · simp only [c, Bool.and_false] at q
        exact ⟨oh_i0, q⟩
      · rw [om_2, e2]
        simp only [c, Bool.and_true] at q
        refine bell (fun c => ?_) (fun c => ?_)
        · simp only [c, decide_false] at q; exact ⟨oh_i0, q⟩
        · simp only [c, decide_true] at q; exact ⟨oh_i1, q⟩
    refine br_f (kne (j := 2) hkk (by omega) k2) ?_
    by_cases k3 : sK S p = 3
    · rw [k3] at q ⊢
      exact br_t rfl ⟨oh_i0, q⟩
    refine br_f (kne (j := 3) hkk (by omega) k3) ?_
    by_cases k4 : sK S p = 4
    · rw [k4] at q ⊢
      refine br_t rfl (sX8_isHasty hk ht hp hx (oh_bn (fun c => ?_) (fun c => ⟨i2, ?_⟩)))
      · simp only [c, Bool.or_true] at q
        exact ⟨oh_i1, q⟩
      · rw [om_2, e2]
        simp only [c, Bool.or_false] at q
        refine bell (fun c => ?_) (fun c => ?_)
        · simp only [c, decide_false] at q; exact ⟨oh_i0, q⟩
        · simp only [c, decide_true] at q; exact ⟨oh_i1, q⟩
    refine br_f (kne (j := 4) hkk (by omega) k4) ?_
    by_cases k5 : sK S p = 5
    · rw [k5] at q ⊢
      refine br_t rfl (sX8_knows hk ht hp hx (oh_bz (fun c => ?_) (fun c => ⟨i2, ?_⟩)))
      · simp only [c, Bool.and_false] at q
        exact ⟨oh_i0, q⟩
      · rw [om_2, e2]
        simp only [c, Bool.and_true] at q
        refine bell (fun c => ?_) (fun c => ⟨om_in (n := 3) (by omega), ?_⟩)
        · simp only [c, decide_false, Bool.false_and] at q; exact ⟨oh_i0, q⟩
        · rw [e3, ob_and]
          simp only [c, decide_true, Bool.true_and] at q
          have hle : sQ S &&& sE S p < 64 := Nat.lt_of_le_of_lt Nat.and_le_right hs
          rw [Nat.and_comm] at q
          refine oh_nc (fun z => ?_) (fun z => ?_)
          · have z := mt (nI_eq (by omega) (by omega)).mpr z
            simp only [z, decide_false] at q; exact ⟨oh_i0, q⟩
          · have z := (nI_eq (by omega) (by omega)).mp z
            simp only [z, decide_true] at q; exact ⟨oh_i1, q⟩
    refine br_f (kne (j := 5) hkk (by omega) k5) ?_
    by_cases k6 : sK S p = 6
    · rw [k6] at q ⊢
      have b1 := oBl_le p (sP S)
      have b2 := oWh_le p (sP S)
      refine br_t rfl ⟨oh_in (by omega) (by omega), ?_⟩
      rw [oh_cl (by omega), (ht p hp).2.1, (ht p hp).2.2]
      simp only [oKn] at q
      by_cases c1 : oBl p (sP S) = 0
      · rw [c1] at q ⊢
        simp only [decide_true, Bool.true_or] at q
        exact br_t rfl ⟨oh_i1, q⟩
      · refine br_f (nI_ne0 (by omega) (by omega)) ⟨oh_in (by omega) (by omega), ?_⟩
        simp only [c1, decide_false, Bool.false_or] at q
        by_cases c2 : oWh p (sP S) = 0
        · rw [c2] at q ⊢
          exact oh_nf rfl ⟨oh_i1, q⟩
        · simp only [c2, decide_false] at q
          exact oh_nt (nI_ne0 (by omega) (by omega)) ⟨oh_i0, q⟩
    refine br_f (kne (j := 6) hkk (by omega) k6) ?_
    have k0 : sK S p = 0 := by omega
    rw [k0] at q
    exact sX8_knows hk ht hp hx ⟨oh_b_01 _, q⟩
  · rw [c] at q
    simp only [Bool.not_true, Bool.false_and] at q
    exact ⟨oh_i0, q⟩
theorem om_or0 (x : Int32) : x ||| 0 = x := by
  apply Int32.toBitVec_inj.mp
  simp
theorem sX8_speakers {d : Nat} {K : Int32 → oh_St → Prop} {k : oh_St} {S : oS} {x : Nat} (hk : mSc k S) (ht : mTh k S) (hx : x < 64) (q : K (nI (sWho S x)) k) : MM (d + 6) jX8_speakers [.ref 0, .int (nI x)] k (oh_r1 K) := by
  have hok := hk.2.2.2.2.2
  have hn := hok.1
  refine mX8_speakers ?_
  have key : ∀ i, i ≤ sN S → wX8_speakers_4 (d + 5) (oh_r1 K) (nI x) (nI (ob_m (fun p => sSp S p (sCell S p x)) i)) (nI i) k := by
    refine oh_up (fun i hi ih => ?_) ?_
    · refine bX8_speakers_4 ⟨om_in (n := 0) (by omega), ?_⟩
      rw [om_0, hk.1]
      refine br_f (nI_ge hi (by omega)) (sX8_speaks hk ht hi hx ?_)
      rw [om_or0, ob_pow (by omega), ob_or, show (1 : Int32) = nI 1 from rfl, nI_add]
      refine oh_bz (fun c => ?_) (fun c => ?_)
      · rw [ob_m, if_neg (by rw [c]; decide)] at ih
        exact ih
      · rw [ob_m, if_pos c] at ih
        exact ih
    · refine bX8_speakers_4 ⟨om_in (n := 0) (by omega), ?_⟩
      rw [om_0, hk.1]
      exact br_t (nI_le (Nat.le_refl _) (by omega)) q
  exact key 0 (Nat.zero_le _)
theorem sX8_sayings {d : Nat} {K : Int32 → oh_St → Prop} {k : oh_St} {S : oS} {x who : Nat} (hk : mSc k S) (ht : mTh k S) (hx : x < 64) (hw : who < 64) (q : K (nI (sBlk S x who)) k) : MM (d + 4) jX8_sayings [.ref 0, .int (nI x), .int (nI who)] k (oh_r1 K) := by
  have hok := hk.2.2.2.2.2
  have hn := hok.1
  refine mX8_sayings ?_
  have key : ∀ i, i ≤ sN S → wX8_sayings_5 (d + 3) (oh_r1 K) (nI x) (nI who) (nI (ob_m (fun p => who.testBit p && oSay p (sCell S p x)) i)) (nI i) k := by
    refine oh_up (fun i hi ih => ?_) ?_
    · refine bX8_sayings_5 ⟨om_in (n := 0) (by omega), ?_⟩
      rw [om_0, hk.1]
      refine br_f (nI_ge hi (by omega)) ?_
      rw [ob_bit (by omega) (by omega), om_or0, ob_pow (by omega), ob_or, show nI i + (1 : Int32) = nI (i + 1) from by rw [show (1 : Int32) = nI 1 from rfl, nI_add]]
      rw [ob_m] at ih
      refine oh_bo (fun c => ?_) (fun c => sX8_wouldSay hk ht hi hx (oh_bo (fun c2 => ?_) (fun c2 => ?_)))
      · rw [c, Bool.false_and, if_neg (by decide)] at ih
        exact ih
      · rw [c, c2, Bool.true_and, if_neg (by decide)] at ih
        exact ih
      · rw [c, c2, Bool.true_and, if_pos rfl] at ih
        exact ih
    · refine bX8_sayings_5 ⟨om_in (n := 0) (by omega), ?_⟩
      rw [om_0, hk.1]
      exact br_t (nI_le (Nat.le_refl _) (by omega)) q
  exact key 0 (Nat.zero_le _)

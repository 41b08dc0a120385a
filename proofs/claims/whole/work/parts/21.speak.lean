/-! THE CLASS: a scene as a mathematical value; what one thinks in a world, who speaks, who says black -/
abbrev oS : Type := Nat × (Nat → Nat) × (Nat → Nat) × (Nat → Nat) × Nat × Nat × Nat × Nat
def sN (S : oS) : Nat := S.1
def sK (S : oS) (p : Nat) : Nat := S.2.1 p
def sM (S : oS) (p : Nat) : Nat := S.2.2.1 p
def sE (S : oS) (p : Nat) : Nat := S.2.2.2.1 p
def sW (S : oS) : Nat := S.2.2.2.2.1
def sP (S : oS) : Nat := S.2.2.2.2.2.1
def sQ (S : oS) : Nat := S.2.2.2.2.2.2.1
def sB (S : oS) : Nat := S.2.2.2.2.2.2.2
def sOk (S : oS) : Prop := sN S ≤ 6 ∧ (∀ p, p < 6 → sK S p ≤ 6 ∧ sM S p ≤ 9 ∧ sE S p < 64) ∧ sW S < 2 ^ sN S ∧ sP S < 2 ^ (2 ^ sN S) ∧ sQ S < 2 ^ sN S ∧ sB S < 1000
/-- the scene at o of the class -/
def cSc (h : oh_St) (o : Nat) (S : oS) : Prop := h.1 o 0 = nI (sN S) ∧ (∀ p, p < 6 → h.1 (o + 1) p = nI (sK S p) ∧ h.1 (o + 2) p = nI (sM S p) ∧ h.1 (o + 3) p = nI (sE S p)) ∧ h.1 o 5 = nI (sW S) ∧ h.2 o 8 = lN (sP S) ∧ h.1 o 9 = nI (sQ S) ∧ h.1 o 10 = nI (sB S) ∧ sOk S
theorem sPow {S : oS} (h : sOk S) : 2 ^ sN S ≤ 64 := by
  have : 2 ^ sN S ≤ 2 ^ 6 := Nat.pow_le_pow_right (by omega) h.1
  omega
theorem sP_lt {S : oS} (h : sOk S) : sP S < 2 ^ 64 := Nat.lt_of_lt_of_le h.2.2.2.1 (Nat.pow_le_pow_right (by omega) (sPow h))
theorem sW_lt {S : oS} (h : sOk S) : sW S < 64 := Nat.lt_of_lt_of_le h.2.2.1 (sPow h)
theorem sQ_lt {S : oS} (h : sOk S) : sQ S < 64 := Nat.lt_of_lt_of_le h.2.2.2.2.1 (sPow h)
def sCell (S : oS) (p x : Nat) : Nat := ob_m (fun y => (sP S).testBit y && decide (y &&& sE S p = x &&& sE S p)) 64
theorem sCell_lt (S : oS) (p x : Nat) : sCell S p x < 2 ^ 64 := ob_m_lt _ _
theorem ob_ao : ∀ a, a < 64 → ∀ b, b < 64 → a &&& b = 0 → a + b = a ||| b := by decide +kernel
theorem ob_as : ∀ y, y < 64 → ∀ s, s < 64 → (y - (y &&& s)) &&& s = 0 := by decide +kernel
theorem sCell_k (s : Nat) (hs : s < 64) (y : Nat) (hy : y < 64) (x : Nat) (hx : x < 64) : (decide ((x &&& s) ≤ y) && decide ((y - (x &&& s)) &&& s = 0)) = decide (y &&& s = x &&& s) := by
  rw [Bool.eq_iff_iff]
  simp only [Bool.and_eq_true, decide_eq_true_eq]
  constructor
  · rintro ⟨h1, h2⟩
    have ht : (x &&& s) < 64 := Nat.lt_of_le_of_lt Nat.and_le_left hx
    have h0 : (x &&& s) &&& (y - (x &&& s)) = 0 := by
      rw [Nat.and_assoc, Nat.and_comm s, h2, Nat.and_zero]
    have h3 := ob_ao _ ht _ (by omega : y - (x &&& s) < 64) h0
    have h4 : y = (x &&& s) ||| (y - (x &&& s)) := by rw [← h3]; omega
    generalize y - (x &&& s) = r at h2 h4
    subst h4
    have h5 := (oAW_0 r s).mp h2
    apply ob_ext
    intro j
    rw [Nat.testBit_and, Nat.testBit_or, Nat.testBit_and]
    have h6 := h5 j
    clear h5 h2 h0 h3 h1
    generalize x.testBit j = a
    generalize s.testBit j = b at h6 ⊢
    generalize r.testBit j = c at h6 ⊢
    revert h6
    cases a <;> cases b <;> cases c <;> decide
  · intro h
    rw [← h]
    exact ⟨Nat.and_le_left, ob_as y hy s hs⟩
theorem sX4_worldCount {d : Nat} {K : Int32 → oh_St → Prop} {h : oh_St} {o : Nat} {S : oS} (ho : o = 2 ∨ o = 37) (hc : cSc h o S) (q : K (nI (2 ^ sN S)) h) : CM (d + 1) jX4_worldCount [.ref o] h (oh_r1 K) := by
  refine mX4_worldCount ho ?_
  show K _ h
  have := hc.2.2.2.2.2.2.1
  rw [hc.1, ob_pow (by omega)]
  exact q
theorem sX4_thought {d : Nat} {K : Int64 → oh_St → Prop} {h : oh_St} {o p x : Nat} {S : oS} (ho : o = 2 ∨ o = 37) (hc : cSc h o S) (hp : p < 6) (hx : x < 64) (q : K (lN (sCell S p x)) h) : CM (d + 3) jX4_thought [.ref o, .int (nI p), .int (nI x)] h (oh_r2 K) := by
  refine mX4_thought ho (br_f (nI_pos (by omega)) (br_t (nI_lt (b := 6) hp (by omega)) ⟨oh_in hp (by omega), ?_⟩))
  obtain ⟨h1, h2, h3, h4, h5, h6, hok⟩ := hc
  have hs := (hok.2.1 p hp).2.2
  rw [oh_cl (by omega), (h2 p hp).2.2]
  refine sX7_allWhite hs ⟨oh_in hp (by omega), ?_⟩
  show K _ h
  rw [h4, (h2 p hp).2.2, ob_and, wb_shl _ (Nat.lt_of_le_of_lt Nat.and_le_left hx), ob_land]
  have e : sP S &&& (oAW (sE S p) * 2 ^ (x &&& sE S p)) = sCell S p x := by
    apply ob_ext
    intro y
    rw [Nat.testBit_and, Nat.testBit_mul_two_pow, sCell, ob_m_bit]
    by_cases hy : y < 64
    · have k := sCell_k (sE S p) hs y hy x hx
      rw [← k]
      simp only [hy, decide_true, Bool.true_and, oAW, ob_m_bit]
      have : y - (x &&& sE S p) < 64 := by omega
      simp [this]
    · have := ob_hi (sP_lt hok) (by omega : 64 ≤ y)
      simp [hy, this]
  rw [e]
  exact q
theorem sX4_hasSpoken {d : Nat} {K : Int32 → oh_St → Prop} {h : oh_St} {o p : Nat} {S : oS} (ho : o = 2 ∨ o = 37) (hc : cSc h o S) (hp : p < 6) (q : K (oh_b ((sQ S).testBit p)) h) : CM (d + 2) jX4_hasSpoken [.ref o, .int (nI p)] h (oh_r1 K) := by
  refine mX4_hasSpoken ho ?_
  rw [hc.2.2.2.2.1]
  have := sQ_lt hc.2.2.2.2.2.2
  refine sX7_bit (by omega) (by omega) ?_
  cases hb : (sQ S).testBit p
  · rw [hb] at q
    exact oh_nt (by decide) ⟨oh_i0, q⟩
  · rw [hb] at q
    exact oh_nf (by decide) ⟨oh_i1, q⟩
theorem om_sub {a b : Nat} (h : b ≤ a) : nI a - nI b = nI (a - b) := by
  have := nI_add (a - b) b
  rw [Nat.sub_add_cancel h] at this
  rw [← this]
  exact Int32.add_sub_cancel _ _
theorem bl_wh (p A : Nat) : ∀ n, fb_ct (fun y => A.testBit y && y.testBit p) n + fb_ct (fun y => A.testBit y && !y.testBit p) n = ob_ct A n
  | 0 => rfl
  | n + 1 => by
    have ih := bl_wh p A n
    rw [ob_ct] at ih ⊢
    rw [fb_ct_succ, fb_ct_succ, fb_ct_succ, ← ih]
    cases A.testBit n <;> cases n.testBit p <;> simp <;> omega
def sHs (S : oS) (p A : Nat) : Bool := oKn p A || (decide (sM S p * oWh p A < oBl p A) || decide (sM S p * oBl p A < oWh p A))
theorem sX4_isSure {d : Nat} {K : Int32 → oh_St → Prop} {h : oh_St} {o p A : Nat} {S : oS} (ho : o = 2 ∨ o = 37) (hc : cSc h o S) (hp : p < 6) (hA : A < 2 ^ 64) (q : K (oh_b (sHs S p A)) h) : CM (d + 3) jX4_isSure [.ref o, .int (nI p), .long (lN A)] h (oh_r1 K) := by
  refine mX4_isSure ho (br_f (nI_pos (by omega)) (br_t (nI_lt (b := 6) hp (by omega)) ⟨oh_in hp (by omega), ?_⟩))
  rw [oh_cl (by omega), oB_tab p hp, ob_land]
  refine sJ13_bitCount (oAnd_lt hA) (sJ13_bitCount hA ⟨oh_in hp (by omega), ?_⟩)
  have eB : ob_ct (A &&& oB p) 64 = oBl p A := fb_ct_cong (fun y hy => by rw [Nat.testBit_and, oB, ob_m_bit]; simp [hy])
  have eA : ob_ct A 64 = oBl p A + oWh p A := (bl_wh p A 64).symm
  have eW : nI (oBl p A + oWh p A) - nI (oBl p A) = nI (oWh p A) := by rw [om_sub (Nat.le_add_right _ _), Nat.add_sub_cancel_left]
  rw [eB, eA, eW]
  obtain ⟨h1, h2, h3, h4, h5, h6, hok⟩ := hc
  have hm := (hok.2.1 p hp).2.1
  rw [(h2 p hp).2.1, pk_mul, pk_mul]
  have b1 := oBl_le p A
  have b2 := oWh_le p A
  have m1 : sM S p * oWh p A ≤ 9 * 64 := Nat.mul_le_mul hm b2
  have m2 : sM S p * oBl p A ≤ 9 * 64 := Nat.mul_le_mul hm b1
  unfold sHs oKn at q
  by_cases c1 : oBl p A = 0
  · rw [c1] at q ⊢
    simp only [decide_true, Bool.true_or] at q
    exact br_t rfl ⟨oh_i1, q⟩
  · refine br_f (nI_ne0 (by omega) (by omega)) ?_
    by_cases c2 : oWh p A = 0
    · rw [c2] at q ⊢
      simp only [decide_true, Bool.or_true, Bool.true_or] at q
      exact br_t rfl ⟨oh_i1, q⟩
    · refine br_f (nI_ne0 (by omega) (by omega)) ?_
      simp only [c1, c2, decide_false, Bool.or_self, Bool.false_or] at q
      by_cases c3 : sM S p * oWh p A < oBl p A
      · simp only [c3, decide_true, Bool.true_or] at q
        exact br_t (nI_lt c3 (by omega)) ⟨oh_i1, q⟩
      · refine br_f (nI_nlt (by omega) (by omega)) ?_
        simp only [c3, decide_false, Bool.false_or] at q
        by_cases c4 : sM S p * oBl p A < oWh p A
        · simp only [c4, decide_true] at q
          exact br_f (nI_ge c4 (by omega)) ⟨oh_i1, q⟩
        · simp only [c4, decide_false] at q
          exact br_t (nI_le (by omega) (by omega)) ⟨oh_i0, q⟩
/-- whether a man speaks who thinks A -/
def sSp (S : oS) (p A : Nat) : Bool := !(sQ S).testBit p && (match sK S p with
  | 1 => sHs S p A
  | 2 => decide (sM S p ≤ sB S) && oKn p A
  | 3 => false
  | 4 => decide (sM S p ≤ sB S) || sHs S p A
  | 5 => decide (sM S p ≤ sB S) && (decide (sE S p &&& sQ S = sE S p) && oKn p A)
  | 6 => oKn p (sP S)
  | _ => oKn p A)
theorem sSub : ∀ a, a < 64 → ∀ b, b < 64 → ((nI a &&& (nI b ^^^ (-1 : Int32))) = 0 ↔ a &&& b = a) := by decide +kernel
theorem sX4_speaks {d : Nat} {K : Int32 → oh_St → Prop} {h : oh_St} {o p A : Nat} {S : oS} (ho : o = 2 ∨ o = 37) (hc : cSc h o S) (hp : p < 6) (hA : A < 2 ^ 64) (q : K (oh_b (sSp S p A)) h) : CM (d + 4) jX4_speaks [.ref o, .int (nI p), .long (lN A)] h (oh_r1 K) := by
  refine mX4_speaks ho (br_f (nI_pos (by omega)) (br_f (nI_ge (b := 6) hp (by omega)) (sX4_hasSpoken ho hc hp ?_)))
  obtain ⟨h1, h2, h3, h4, h5, h6, hok⟩ := id hc
  obtain ⟨hk, hm, hs⟩ := hok.2.1 p hp
  have hq := sQ_lt hok
  have hbe := hok.2.2.2.2.2
  unfold sSp at q
  refine oh_bz (fun c => ?_) (fun c => ?_)
  · rw [c] at q
    simp only [Bool.not_false, Bool.true_and] at q
    refine ⟨oh_in hp (by omega), oh_in hp (by omega), ?_⟩
    rw [oh_cl (by omega), (h2 p hp).1, (h2 p hp).2.1, (h2 p hp).2.2, h5, h6, h4]
    have kne : ∀ {k j : Nat}, k ≤ 6 → j ≤ 6 → k ≠ j → ¬ nI k = nI j := fun a b c z => c ((nI_eq (by omega) (by omega)).mp z)
    have bell : ∀ {B : Prop} {C : Prop}, (¬ sM S p ≤ sB S → B) → (sM S p ≤ sB S → C) → (nI (sB S) < nI (sM S p) → B) ∧ (¬ nI (sB S) < nI (sM S p) → C) := fun f g => ⟨fun z => f (by have := (nI_ltI (by omega) (by omega)).mp z; omega), fun z => g (by have := mt (nI_ltI (by omega) (by omega)).mpr z; omega)⟩
    by_cases k1 : sK S p = 1
    · rw [k1] at q ⊢
      exact br_t rfl (sX4_isSure ho hc hp hA ⟨oh_b_01 _, q⟩)
    refine br_f (kne (j := 1) hk (by omega) k1) ?_
    by_cases k2 : sK S p = 2
    · rw [k2] at q ⊢
      refine br_t rfl (bell (fun c => ?_) (fun c => sX7_knows hA hp ?_))
      · simp only [c, decide_false, Bool.false_and] at q
        exact ⟨oh_i0, q⟩
      · simp only [c, decide_true, Bool.true_and] at q
        exact oh_bz (fun c => ⟨oh_i0, by rw [c] at q; exact q⟩) (fun c => ⟨oh_i1, by rw [c] at q; exact q⟩)
    refine br_f (kne (j := 2) hk (by omega) k2) ?_
    by_cases k3 : sK S p = 3
    · rw [k3] at q ⊢
      exact br_t rfl ⟨oh_i0, q⟩
    refine br_f (kne (j := 3) hk (by omega) k3) ?_
    by_cases k4 : sK S p = 4
    · rw [k4] at q ⊢
      refine br_t rfl ⟨fun z => ?_, fun z => ?_⟩
      · have z := (nI_leI (by omega) (by omega)).mp z
        simp only [z, decide_true, Bool.true_or] at q
        exact ⟨oh_i1, q⟩
      · have z := mt (nI_leI (by omega) (by omega)).mpr z
        simp only [z, decide_false, Bool.false_or] at q
        exact sX4_isSure ho hc hp hA (oh_bz (fun c => ⟨oh_i0, by rw [c] at q; exact q⟩) (fun c => ⟨oh_i1, by rw [c] at q; exact q⟩))
    refine br_f (kne (j := 4) hk (by omega) k4) ?_
    by_cases k5 : sK S p = 5
    · rw [k5] at q ⊢
      refine br_t rfl (bell (fun c => ?_) (fun c => ⟨oh_in hp (by omega), ?_⟩))
      · simp only [c, decide_false, Bool.false_and] at q
        exact ⟨oh_i0, q⟩
      · simp only [c, decide_true, Bool.true_and] at q
        have e := sSub (sE S p) hs (sQ S) hq
        refine ⟨fun z => ?_, fun z => ?_⟩
        · have z := mt e.mpr z
          simp only [z, decide_false, Bool.false_and] at q
          exact ⟨oh_i0, q⟩
        · have z := e.mp z
          simp only [z, decide_true, Bool.true_and] at q
          exact sX7_knows hA hp (oh_bz (fun c => ⟨oh_i0, by rw [c] at q; exact q⟩) (fun c => ⟨oh_i1, by rw [c] at q; exact q⟩))
    refine br_f (kne (j := 5) hk (by omega) k5) ?_
    by_cases k6 : sK S p = 6
    · rw [k6] at q ⊢
      exact br_t rfl (sX7_knows (sP_lt hok) hp ⟨oh_b_01 _, q⟩)
    refine br_f (kne (j := 6) hk (by omega) k6) ?_
    have k0 : sK S p = 0 := by omega
    rw [k0] at q
    exact sX7_knows hA hp ⟨oh_b_01 _, q⟩
  · rw [c] at q
    simp only [Bool.not_true, Bool.false_and] at q
    exact ⟨oh_i0, q⟩
/-- who speaks in a world; who of them says black -/
def sWho (S : oS) (x : Nat) : Nat := ob_m (fun p => sSp S p (sCell S p x)) (sN S)
def sBlk (S : oS) (x who : Nat) : Nat := ob_m (fun p => who.testBit p && oSay p (sCell S p x)) (sN S)
theorem sX4_speakers {d : Nat} {K : Int32 → oh_St → Prop} {h : oh_St} {o : Nat} {S : oS} (ho : o = 2 ∨ o = 37) (hc : cSc h o S) (q : K (nI (sWho S (sW S))) h) : CM (d + 5) jX4_speakers [.ref o] h (oh_r1 K) := by
  have hok := hc.2.2.2.2.2.2
  have hn := hok.1
  refine mX4_speakers ho ?_
  have key : ∀ i, i ≤ sN S → wX4_speakers_4 (d + 4) (oh_r1 K) o (nI (ob_m (fun p => sSp S p (sCell S p (sW S))) i)) (nI i) h := by
    refine oh_up (fun i hi ih => ?_) ?_
    · refine bX4_speakers_4 ho ?_
      rw [hc.1]
      refine br_f (nI_ge hi (by omega)) ?_
      rw [hc.2.2.1]
      refine sX4_thought ho hc (by omega) (sW_lt hok) (sX4_speaks ho hc (by omega) (sCell_lt _ _ _) ?_)
      rw [show (1 : Int32) = nI 1 from rfl, nI_add]
      refine oh_bz (fun c => ?_) (fun c => ?_)
      · rw [ob_m, if_neg (by rw [c]; decide)] at ih
        exact ih
      · rw [ob_m, if_pos c] at ih
        rw [show nI 1 = (1 : Int32) from rfl, ob_pow (by omega), ob_or]
        exact ih
    · refine bX4_speakers_4 ho ?_
      rw [hc.1]
      exact br_t (nI_le (Nat.le_refl _) (by omega)) q
  exact key 0 (Nat.zero_le _)
theorem ob_bsh (c : Bool) {i : Nat} (hi : i < 31) : oh_b c <<< (nI i &&& 31) = nI (if c then 2 ^ i else 0) := by
  cases c
  · have := pk_shlN (n := 0) (nI i &&& 31) i (s_l i (by omega)) (by rw [Nat.zero_mul]; exact Nat.two_pow_pos 32)
    rw [Nat.zero_mul] at this
    exact this
  · exact ob_pow hi
theorem sX4_sayings {d : Nat} {K : Int32 → oh_St → Prop} {h : oh_St} {o who : Nat} {S : oS} (ho : o = 2 ∨ o = 37) (hc : cSc h o S) (hw : who < 64) (q : K (nI (sBlk S (sW S) who)) h) : CM (d + 4) jX4_sayings [.ref o, .int (nI who)] h (oh_r1 K) := by
  have hok := hc.2.2.2.2.2.2
  have hn := hok.1
  refine mX4_sayings ho ?_
  have key : ∀ i, i ≤ sN S → wX4_sayings_4 (d + 3) (oh_r1 K) o (nI who) (nI (ob_m (fun p => who.testBit p && oSay p (sCell S p (sW S))) i)) (nI i) h := by
    refine oh_up (fun i hi ih => ?_) ?_
    · refine bX4_sayings_4 ho ?_
      rw [hc.1]
      refine br_f (nI_ge hi (by omega)) (sX7_bit (by omega) (by omega) ?_)
      rw [ob_m] at ih
      refine oh_bo (fun c => ?_) (fun c => ?_)
      · rw [c, Bool.false_and, if_neg (by decide)] at ih
        rw [show (1 : Int32) = nI 1 from rfl, nI_add]
        exact ih
      · rw [hc.2.2.1]
        refine sX4_thought ho hc (by omega) (sW_lt hok) (sX7_wouldSay (sCell_lt _ _ _) (by omega) ?_)
        rw [ob_bsh _ (by omega), ob_or, show (1 : Int32) = nI 1 from rfl, nI_add]
        rw [c, Bool.true_and] at ih
        cases hs : oSay i (sCell S i (sW S))
        · rw [hs, if_neg (by decide)] at ih
          rw [if_neg (by decide), Nat.or_zero]
          exact ih
        · rw [hs, if_pos rfl] at ih
          rw [if_pos rfl]
          exact ih
    · refine bX4_sayings_4 ho ?_
      rw [hc.1]
      exact br_t (nI_le (Nat.le_refl _) (by omega)) q
  exact key 0 (Nat.zero_le _)

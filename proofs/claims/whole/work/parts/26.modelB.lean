/-! THE MODEL: what all think, in tables -/
def thP (k : oh_St) (S : oS) (p : Nat) : Prop := (∀ x, x < 64 → k.1 6 (64 * p + (x &&& sE S p)) = nI (oBl p (sCell S p x)) ∧ k.1 7 (64 * p + (x &&& sE S p)) = nI (oWh p (sCell S p x))) ∧ k.1 8 p = nI (oBl p (sP S)) ∧ k.1 9 p = nI (oWh p (sP S))
def mTh (k : oh_St) (S : oS) : Prop := ∀ p, p < sN S → thP k S p
/-- the tables below a man's own are as they were -/
def thLow (k k' : oh_St) (p : Nat) : Prop := (∀ b, b < 64 * p → k'.1 6 b = k.1 6 b ∧ k'.1 7 b = k.1 7 b) ∧ ∀ b, b < p → k'.1 8 b = k.1 8 b ∧ k'.1 9 b = k.1 9 b
theorem thP_low {k k' : oh_St} {S : oS} {p p' : Nat} (h : thLow k k' p) (hp : p' < p) (H : thP k S p') : thP k' S p' := by
  refine ⟨fun x hx => ?_, ?_, ?_⟩
  · have : x &&& sE S p' ≤ x := Nat.and_le_left
    have e := h.1 (64 * p' + (x &&& sE S p')) (by omega)
    rw [e.1, e.2]
    exact H.1 x hx
  · rw [(h.2 p' hp).1]; exact H.2.1
  · rw [(h.2 p' hp).2]; exact H.2.2
theorem thLow_tr {k k' k2 : oh_St} {p : Nat} (h : thLow k k' p) (h2 : thLow k' k2 p) : thLow k k2 p := ⟨fun b hb => ⟨(h2.1 b hb).1.trans (h.1 b hb).1, (h2.1 b hb).2.trans (h.1 b hb).2⟩, fun b hb => ⟨(h2.2 b hb).1.trans (h.2 b hb).1, (h2.2 b hb).2.trans (h.2 b hb).2⟩⟩
def tcB (S : oS) (p v w : Nat) : Nat := fb_ct (fun y => ((sP S).testBit y && decide (y &&& sE S p = v)) && y.testBit p) w
def tcW (S : oS) (p v w : Nat) : Nat := fb_ct (fun y => ((sP S).testBit y && decide (y &&& sE S p = v)) && !y.testBit p) w
def tcb (S : oS) (p w : Nat) : Nat := fb_ct (fun y => (sP S).testBit y && y.testBit p) w
def tcw (S : oS) (p w : Nat) : Nat := fb_ct (fun y => (sP S).testBit y && !y.testBit p) w
theorem tc_end {S : oS} (hok : sOk S) (f : Nat → Bool) (hf : ∀ y, (sP S).testBit y = false → f y = false) : fb_ct f (2 ^ sN S) = fb_ct f 64 := by
  have h64 := sPow hok
  have : 64 = 2 ^ sN S + (64 - 2 ^ sN S) := by omega
  rw [this, fb_ct_split]
  have z : fb_ct (fun k => f (2 ^ sN S + k)) (64 - 2 ^ sN S) = 0 := fb_ct_zero.mpr (fun k _ => hf _ (ob_hi hok.2.2.2.1 (by omega)))
  omega
theorem tcB_end {S : oS} (hok : sOk S) (p x : Nat) : tcB S p (x &&& sE S p) (2 ^ sN S) = oBl p (sCell S p x) := by
  rw [tcB, tc_end hok _ (fun y hy => by simp [hy]), oBl]
  exact fb_ct_cong (fun y hy => by rw [sCell_bit hy])
theorem tcW_end {S : oS} (hok : sOk S) (p x : Nat) : tcW S p (x &&& sE S p) (2 ^ sN S) = oWh p (sCell S p x) := by
  rw [tcW, tc_end hok _ (fun y hy => by simp [hy]), oWh]
  exact fb_ct_cong (fun y hy => by rw [sCell_bit hy])
theorem tcb_end {S : oS} (hok : sOk S) (p : Nat) : tcb S p (2 ^ sN S) = oBl p (sP S) := by
  rw [tcb, tc_end hok _ (fun y hy => by simp [hy]), oBl]
theorem tcw_end {S : oS} (hok : sOk S) (p : Nat) : tcw S p (2 ^ sN S) = oWh p (sP S) := by
  rw [tcw, tc_end hok _ (fun y hy => by simp [hy]), oWh]
theorem om_64 (p v : Nat) : ((64 : Int32) * nI p) + nI v = nI (64 * p + v) := by
  rw [show (64 : Int32) = nI 64 from rfl, pk_mul, nI_add]
theorem om_not (c : Bool) : (1 : Int32) - oh_b c = oh_b (!c) := by cases c <;> decide
def thJ (k k' : oh_St) (S : oS) (p w : Nat) : Prop := oSame k k' [6, 7, 8, 9] ∧ thLow k k' p ∧ (∀ v, v < 64 → k'.1 6 (64 * p + v) = nI (tcB S p v w) ∧ k'.1 7 (64 * p + v) = nI (tcW S p v w)) ∧ k'.1 8 p = nI (tcb S p w) ∧ k'.1 9 p = nI (tcw S p w)
theorem om_ct (f : Nat → Bool) (w : Nat) (c : Bool) (h : f w = c) : nI (fb_ct f w) + oh_b c = nI (fb_ct f (w + 1)) := by
  rw [oh_b_nI, nI_add, fb_ct_succ, h]
  cases c <;> rfl
theorem om_c0 (f : Nat → Bool) (w : Nat) (h : f w = false) : fb_ct f (w + 1) = fb_ct f w := by
  rw [fb_ct_succ, h]; rfl
theorem thJ_no {k k' : oh_St} {S : oS} {p w : Nat} (H : thJ k k' S p w) (h : (sP S).testBit w = false) : thJ k k' S p (w + 1) := by
  obtain ⟨h1, h2, h3, h4, h5⟩ := H
  refine ⟨h1, h2, fun v hv => ?_, ?_, ?_⟩
  · rw [tcB, tcW, om_c0 _ _ (by simp [h]), om_c0 _ _ (by simp [h])]; exact h3 v hv
  · rw [tcb, om_c0 _ _ (by simp [h])]; exact h4
  · rw [tcw, om_c0 _ _ (by simp [h])]; exact h5
theorem sX8_think {d : Nat} {K : oh_St → Prop} {k : oh_St} {S : oS} (hk : mSc k S) (q : ∀ k', oSame k k' [6, 7, 8, 9] → mTh k' S → K k') : MM (d + 2) jX8_think [.ref 0] k (oh_r0 K) := by
  have hok := hk.2.2.2.2.2
  have hn := hok.1
  have h64 := sPow hok
  refine mX8_think ?_
  have key : ∀ p, p ≤ sN S → ∀ k', oSame k k' [6, 7, 8, 9] → (∀ p', p' < p → thP k' S p') → wX8_think_2 (d + 1) (oh_r0 K) (nI p) k' := by
    refine oh_up (fun p hp ih => ?_) ?_
    · intro k1 hs1 ht1
      have hk1 := mSc_same hk hs1 (by simp)
      have hs := (hok.2.1 p (by omega)).2.2
      refine bX8_think_2 ⟨om_in (n := 0) (by omega), ?_⟩
      rw [om_0, hk1.1]
      refine br_f (nI_ge hp (by omega)) (sX8_of (w := 3) (by omega) (by omega) ⟨oh_in (by omega) (by omega), oh_in (by omega) (by omega), ?_⟩)
      rw [(hk1.2.1 p (by omega)).2.2.2, oh_cl (by omega)]
      -- the tables' rows are emptied
      have emp : ∀ i, i ≤ 64 → ∀ k', oSame k1 k' [6, 7, 8, 9] → thLow k1 k' p → k'.1 8 p = 0 → k'.1 9 p = 0 → (∀ v, v < i → k'.1 6 (64 * p + v) = 0 ∧ k'.1 7 (64 * p + v) = 0) → wX8_think_35 (d + 1) (oh_r0 K) (nI p) (nI (sE S p)) (nI i) k' := by
        refine oh_up (fun i hi ih2 => ?_) ?_
        · intro k' s1 s2 s3 s4 s5
          refine bX8_think_35 (br_f (nI_ge (b := 64) hi (by omega)) ?_)
          rw [om_64, oh_cl (by omega), show (1 : Int32) = nI 1 from rfl, nI_add]
          refine ⟨oh_in (by omega) (by omega), oh_in (by omega) (by omega), ih2 _ (oSame_up (oSame_up s1 (by simp)) (by simp)) ⟨fun b hb => ?_, fun b hb => ?_⟩ ?_ ?_ (fun v hv => ?_)⟩
          · have := s2.1 b hb
            simp only [oh_g1]
            rw [if_neg (by omega), if_neg (by omega), if_neg (by omega), if_neg (by omega)]
            exact this
          · have := s2.2 b hb
            simp only [oh_g1]
            rw [if_neg (by omega), if_neg (by omega), if_neg (by omega), if_neg (by omega)]
            exact this
          · simp only [oh_g1]
            rw [if_neg (by omega), if_neg (by omega)]
            exact s3
          · simp only [oh_g1]
            rw [if_neg (by omega), if_neg (by omega)]
            exact s4
          · simp only [oh_g1]
            by_cases hv' : v = i
            · subst hv'
              simp
            · have := s5 v (by omega)
              rw [if_neg (by omega), if_neg (by omega), if_neg (by omega), if_neg (by omega)]
              exact this
        · intro k' s1 s2 s3 s4 s5
          refine bX8_think_35 (br_t (nI_le (Nat.le_refl 64) (by omega)) ?_)
          -- the worlds are counted
          have cnt : ∀ w, w ≤ 2 ^ sN S → ∀ k', thJ k1 k' S p w → wX8_think_73 (d + 1) (oh_r0 K) (nI p) (nI (sE S p)) (nI w) k' := by
            refine oh_up (fun w hw ih3 => ?_) ?_
            · intro k2 hJ
              have hk2 := mSc_same hk1 hJ.1 (by simp)
              refine bX8_think_73 ⟨om_in (n := 0) (by omega), ?_⟩
              rw [om_0, hk2.1, ob_pow (by omega)]
              refine br_f (nI_ge hw (by omega)) (sX8_isPossible hk2.2.2.1 (sP_lt hok) (by omega) ?_)
              rw [show nI w + (1 : Int32) = nI (w + 1) from by rw [show (1 : Int32) = nI 1 from rfl, nI_add]]
              refine oh_bz (fun c => ih3 _ (thJ_no hJ c)) (fun c => ?_)
              have hv0 : w &&& sE S p < 64 := Nat.lt_of_le_of_lt Nat.and_le_right hs
              rw [ob_and, om_64, oh_cl (by omega), oh_cl (by omega), ob_bit (by omega) (by omega), om_not]
              have i1 : vp_in (nI (64 * p + (w &&& sE S p))) 384 := oh_in (by omega) (by omega)
              have i2 : vp_in (nI p) 6 := oh_in (by omega) (by omega)
              refine ⟨i1, i1, i1, i1, i2, i2, i2, i2, ih3 _ ?_⟩
              obtain ⟨j1, j2, j3, j4, j5⟩ := hJ
              refine ⟨oSame_up (oSame_up (oSame_up (oSame_up j1 (by simp)) (by simp)) (by simp)) (by simp), ⟨fun b hb => ?_, fun b hb => ?_⟩, fun v hv => ?_, ?_, ?_⟩
              · have := j2.1 b hb
                simp only [oh_g1]
                have hb' : ¬ b = 64 * p + (w &&& sE S p) := by omega
                simp [hb', this]
              · have := j2.2 b hb
                simp only [oh_g1]
                have hb' : ¬ b = p := by omega
                simp [hb', this]
              · obtain ⟨a1, a2⟩ := j3 v hv
                by_cases hv' : v = w &&& sE S p
                · subst hv'
                  simp only [oh_g1]
                  simp only [and_true, if_true, Nat.reduceEqDiff, if_false, and_self, false_and]
                  rw [a1, a2]
                  exact ⟨om_ct _ _ _ (by simp [c]), om_ct _ _ _ (by simp [c])⟩
                · simp only [oh_g1]
                  have hb' : ¬ v = w &&& sE S p := hv'
                  have hb2 : ¬ 64 * p + v = 64 * p + (w &&& sE S p) := by omega
                  simp only [hb2, and_false, if_false, Nat.reduceEqDiff, false_and]
                  rw [tcB, tcW, om_c0 _ _ (by simp; intro _ z; exact absurd z.symm hb'), om_c0 _ _ (by simp; intro _ z; exact absurd z.symm hb')]
                  exact ⟨a1, a2⟩
              · simp only [oh_g1]
                simp only [Nat.reduceEqDiff, false_and, if_false, and_self, if_true]
                rw [j4]
                exact om_ct _ _ _ (by simp [c])
              · simp only [oh_g1]
                simp only [Nat.reduceEqDiff, false_and, if_false, and_self, if_true]
                rw [j5]
                exact om_ct _ _ _ (by simp [c])
            · intro k2 hJ
              have hk2 := mSc_same hk1 hJ.1 (by simp)
              refine bX8_think_73 ⟨om_in (n := 0) (by omega), ?_⟩
              rw [om_0, hk2.1, ob_pow (by omega)]
              refine br_t (nI_le (Nat.le_refl _) (by omega)) ?_
              rw [show nI p + (1 : Int32) = nI (p + 1) from by rw [show (1 : Int32) = nI 1 from rfl, nI_add]]
              refine ih _ (oSame_tr hs1 hJ.1) (fun p' hp' => ?_)
              by_cases hpp : p' = p
              · subst hpp
                refine ⟨fun x hx => ?_, ?_, ?_⟩
                · have := hJ.2.2.1 (x &&& sE S p') (Nat.lt_of_le_of_lt Nat.and_le_left hx)
                  rw [tcB_end hok, tcW_end hok] at this
                  exact this
                · rw [hJ.2.2.2.1, tcb_end hok]
                · rw [hJ.2.2.2.2, tcw_end hok]
              · exact thP_low hJ.2.1 (by omega) (ht1 p' (by omega))
          exact cnt 0 (Nat.zero_le _) _ ⟨s1, s2, fun v hv => s5 v hv, s3, s4⟩
      refine emp 0 (by omega) _ (oSame_up (oSame_up (oSame_rf _ _) (by simp)) (by simp)) ⟨fun b hb => ?_, fun b hb => ?_⟩ ?_ ?_ (fun v hv => absurd hv (by omega))
      · simp only [oh_g1]
        simp
      · have : ¬ b = p := by omega
        simp only [oh_g1]
        simp [this]
      · simp only [oh_g1]
        simp
      · simp only [oh_g1]
        simp
    · intro k1 hs1 ht1
      have hk1 := mSc_same hk hs1 (by simp)
      refine bX8_think_2 ⟨om_in (n := 0) (by omega), ?_⟩
      rw [om_0, hk1.1]
      exact br_t (nI_le (Nat.le_refl _) (by omega)) (q _ hs1 ht1)
  exact key 0 (Nat.zero_le _) k (oSame_rf _ _) (fun p' hp' => absurd hp' (by omega))

/-! WORLDS that run alike; trick, longest -/
theorem hear_mem {S : oS} (hok : sOk S) (hw : (sP S).testBit (sW S) = true) (y : Nat) : (sP (sHear S (sWho S (sW S)) (sBlk S (sW S) (sWho S (sW S))))).testBit y = ((sP S).testBit y && (decide (sWho S y = sWho S (sW S)) && decide (sBlk S y (sWho S (sW S)) = sBlk S (sW S) (sWho S (sW S))))) := by
  have h64 := sPow hok
  have w1 : sWho S (sW S) < 2 ^ sN S := ob_m_lt _ _
  have w2 : sBlk S (sW S) (sWho S (sW S)) < 2 ^ sN S := ob_m_lt _ _
  have e := mL_end hok w1 w2 (fun p => sBlk_sub) (fun p => sWho_q)
  have bit : ∀ y, (sLf S (sWho S (sW S)) (sBlk S (sW S) (sWho S (sW S))) (sN S)).testBit y = ((sP S).testBit y && (decide (sWho S y = sWho S (sW S)) && decide (sBlk S y (sWho S (sW S)) = sBlk S (sW S) (sWho S (sW S))))) := by
    intro y
    rw [← e, mL, ob_m_bit]
    by_cases hy : y < 2 ^ sN S
    · simp [hy]
    · rw [ob_hi hok.2.2.2.1 (by omega : 2 ^ sN S ≤ y)]
      simp
  have ne : ¬ sLf S (sWho S (sW S)) (sBlk S (sW S) (sWho S (sW S))) (sN S) = 0 := fun z => by
    have := bit (sW S)
    rw [z, Nat.zero_testBit, hw] at this
    simp at this
  show (if sLf S (sWho S (sW S)) (sBlk S (sW S) (sWho S (sW S))) (sN S) = 0 then sP S else sLf S (sWho S (sW S)) (sBlk S (sW S) (sWho S (sW S))) (sN S)).testBit y = _
  rw [if_neg ne]
  exact bit y
theorem hear_mono {S : oS} {who blk y : Nat} (h : (sP (sHear S who blk)).testBit y = true) : (sP S).testBit y = true := by
  have h' : (if sLf S who blk (sN S) = 0 then sP S else sLf S who blk (sN S)).testBit y = true := h
  split at h'
  · exact h'
  · exact sLf_sub S who blk (sN S) y h'
theorem iT_mono {fi : Int32} {c : List Nat} {x : oI} {y m : Nat} : ∀ n, m ≤ n → (sP (iT false fi c x n).1).testBit y = true → (sP (iT false fi c x m).1).testBit y = true
  | 0, hm, h => by
    have : m = 0 := by omega
    rw [this]; exact h
  | n + 1, hm, h => by
    by_cases e : m = n + 1
    · rw [e]; exact h
    · exact iT_mono n (by omega) (hear_mono h)
theorem iT_own {fi : Int32} {c : List Nat} {x : oI} (hok : sOk x.1) (hw : (sP x.1).testBit (sW x.1) = true) : ∀ n, sB x.1 + n < 1000 → (sP (iT false fi c x n).1).testBit (sW x.1) = true
  | 0, _ => hw
  | n + 1, hb => by
    have ih := iT_own (fi := fi) (c := c) hok hw n (by omega)
    have ok := iT_ok (l := false) (fi := fi) (c := c) hok n (by omega)
    have eW := iT_W false fi c x n
    have := hear_mem ok (by rw [eW]; exact ih) (sW x.1)
    show (sP (sHear (iT false fi c x n).1 (sWho (iT false fi c x n).1 (sW (iT false fi c x n).1)) (sBlk (iT false fi c x n).1 (sW (iT false fi c x n).1) (sWho (iT false fi c x n).1 (sW (iT false fi c x n).1))))).testBit (sW x.1) = true
    rw [this, ih, eW]
    simp
/-- the scene with another world -/
def xW (x : oI) (w : Nat) : oI := (sSetW x.1 w, x.2.1, x.2.2)
theorem xW_ok {x : oI} (hok : sOk x.1) {w : Nat} (hw : w < 2 ^ sN x.1) : sOk (xW x w).1 := ⟨hok.1, hok.2.1, hw, hok.2.2.2⟩
theorem alike {fi : Int32} {c : List Nat} {x : oI} (hok : sOk x.1) {w y n : Nat} (hb : sB x.1 + n < 1000) (hw : (sP x.1).testBit w = true) (hw2 : w < 2 ^ sN x.1) (hy : (sP (iT false fi c (xW x w) n).1).testBit y = true) : ∀ j, j ≤ n → (iT false fi c (xW x y) j).1 = sSetW (iT false fi c (xW x w) j).1 y
  | 0, _ => rfl
  | j + 1, hj => by
    have ih := alike hok hb hw hw2 hy j (by omega)
    have okw := xW_ok hok hw2
    have ok := iT_ok (l := false) (fi := fi) (c := c) okw j (by show sB x.1 + j < 1000; omega)
    have eW := iT_W false fi c (xW x w) j
    have own := iT_own (fi := fi) (c := c) okw hw j (by show sB x.1 + j < 1000; omega)
    have m := hear_mem ok (by rw [eW]; exact own) y
    have hy1 := iT_mono (m := j + 1) n hj hy
    have hy1 : (sP (sHear (iT false fi c (xW x w) j).1 (sWho (iT false fi c (xW x w) j).1 (sW (iT false fi c (xW x w) j).1)) (sBlk (iT false fi c (xW x w) j).1 (sW (iT false fi c (xW x w) j).1) (sWho (iT false fi c (xW x w) j).1 (sW (iT false fi c (xW x w) j).1))))).testBit y = true := hy1
    rw [m] at hy1
    simp only [Bool.and_eq_true, decide_eq_true_eq] at hy1
    obtain ⟨_, e1, e2⟩ := hy1
    show sHear (iT false fi c (xW x y) j).1 (sWho (iT false fi c (xW x y) j).1 (sW (iT false fi c (xW x y) j).1)) (sBlk (iT false fi c (xW x y) j).1 (sW (iT false fi c (xW x y) j).1) (sWho (iT false fi c (xW x y) j).1 (sW (iT false fi c (xW x y) j).1))) = sSetW (sHear (iT false fi c (xW x w) j).1 (sWho (iT false fi c (xW x w) j).1 (sW (iT false fi c (xW x w) j).1)) (sBlk (iT false fi c (xW x w) j).1 (sW (iT false fi c (xW x w) j).1) (sWho (iT false fi c (xW x w) j).1 (sW (iT false fi c (xW x w) j).1)))) y
    rw [ih]
    generalize (iT false fi c (xW x w) j).1 = S at *
    have a1 : sWho (sSetW S y) (sW (sSetW S y)) = sWho S y := rfl
    rw [a1]
    have a2 : sBlk (sSetW S y) (sW (sSetW S y)) (sWho S y) = sBlk S y (sWho S y) := rfl
    rw [a2, e1, e2]
    rfl
def vQ (fi : Int32) (c : List Nat) (x : oI) (n w : Nat) : Nat := ob_ct (sQ (iT false fi c (xW x w) n).1) 6
theorem vQ_alike {fi : Int32} {c : List Nat} {x : oI} (hok : sOk x.1) {w y n : Nat} (hb : sB x.1 + n < 1000) (hw : (sP x.1).testBit w = true) (hw2 : w < 2 ^ sN x.1) (hy : (sP (iT false fi c (xW x w) n).1).testBit y = true) : vQ fi c x n y = vQ fi c x n w := by
  unfold vQ
  rw [alike hok hb hw hw2 hy n (Nat.le_refl n)]
  rfl
theorem lastSp_alike {fi : Int32} {c : List Nat} {x : oI} (hok : sOk x.1) {w y n : Nat} (hb : sB x.1 + n < 1000) (hw : (sP x.1).testBit w = true) (hw2 : w < 2 ^ sN x.1) (hy : (sP (iT false fi c (xW x w) n).1).testBit y = true) : ∀ j, j ≤ n → lastSp fi c (xW x y) j = lastSp fi c (xW x w) j
  | 0, _ => rfl
  | j + 1, hj => by
    unfold lastSp
    rw [lastSp_alike hok hb hw hw2 hy j (by omega), alike hok hb hw hw2 hy (j + 1) hj, alike hok hb hw hw2 hy j (by omega)]
    rfl
/-- the first of the least -/
def tf (P : Nat) (v : Nat → Nat) : Nat → Option (Nat × Nat)
  | 0 => none
  | w + 1 => if P.testBit w then (match tf P v w with
      | none => some (w, v w)
      | some r => if v w < r.2 then some (w, v w) else some r) else tf P v w
theorem tf_min {P : Nat} {v : Nat → Nat} : ∀ w, (∀ r, tf P v w = some r → ∀ x, x < w → P.testBit x = true → r.2 ≤ v x) ∧ (tf P v w = none → ∀ x, x < w → P.testBit x = false)
  | 0 => ⟨fun _ _ x hx => absurd hx (by omega), fun _ x hx => absurd hx (by omega)⟩
  | w + 1 => by
    obtain ⟨i1, i2⟩ := tf_min (P := P) (v := v) w
    unfold tf
    by_cases c : P.testBit w = true
    · rw [if_pos c]
      cases h : tf P v w with
      | none =>
        refine ⟨fun r hr x hx hP => ?_, fun hr => by cases hr⟩
        cases hr
        by_cases e : x = w
        · rw [e]; exact Nat.le_refl _
        · have := i2 h x (by omega); rw [hP] at this; cases this
      | some r =>
        dsimp only
        split
        · refine ⟨fun r' hr x hx hP => ?_, fun hr => by cases hr⟩
          cases hr
          by_cases e : x = w
          · rw [e]; exact Nat.le_refl _
          · have := i1 r h x (by omega) hP
            show v w ≤ v x
            omega
        · refine ⟨fun r' hr x hx hP => ?_, fun hr => by cases hr⟩
          cases hr
          by_cases e : x = w
          · rw [e]; omega
          · exact i1 _ h x (by omega) hP
    · rw [if_neg c]
      refine ⟨fun r hr x hx hP => ?_, fun hr x hx => ?_⟩
      · by_cases e : x = w
        · rw [e] at hP; exact absurd hP c
        · exact i1 r hr x (by omega) hP
      · by_cases e : x = w
        · rw [e]; simpa using c
        · exact i2 hr x (by omega)
theorem tf_bd {P : Nat} {v : Nat → Nat} (hv : ∀ w, v w ≤ 6) : ∀ w r, tf P v w = some r → r.1 < w ∧ r.2 ≤ 6
  | 0, r, h => by cases h
  | w + 1, r, h => by
    unfold tf at h
    split at h
    · cases h2 : tf P v w with
      | none =>
        rw [h2] at h
        cases h
        exact ⟨by show w < w + 1; omega, hv w⟩
      | some r2 =>
        rw [h2] at h
        have ih := tf_bd hv w r2 h2
        dsimp only at h
        split at h
        · cases h
          exact ⟨by show w < w + 1; omega, hv w⟩
        · cases h
          exact ⟨by omega, ih.2⟩
    · have ih := tf_bd hv w r h
      exact ⟨by omega, ih.2⟩
/-- which worlds still want a run of their own -/
def lfI (P : Nat) (v : Nat → Nat) (L w : Nat) : Prop := L < 2 ^ 64 ∧ (∀ y, w ≤ y → L.testBit y = true → P.testBit y = true) ∧ ∀ y, w ≤ y → P.testBit y = true → L.testBit y = false → ∃ x, x < w ∧ P.testBit x = true ∧ v y = v x
theorem lfI_0 {P : Nat} {v : Nat → Nat} (h : P < 2 ^ 64) : lfI P v P 0 := ⟨h, fun _ _ h => h, fun y _ h1 h2 => by rw [h1] at h2; cases h2⟩
theorem lfI_no {P : Nat} {v : Nat → Nat} {L w : Nat} (h : lfI P v L w) : lfI P v L (w + 1) := ⟨h.1, fun y hy => h.2.1 y (by omega), fun y hy h1 h2 => by
  obtain ⟨x, a, b, c⟩ := h.2.2 y (by omega) h1 h2
  exact ⟨x, by omega, b, c⟩⟩
theorem lfI_yes {P : Nat} {v : Nat → Nat} {L w A : Nat} (h : lfI P v L w) (hw : P.testBit w = true) (hA : ∀ y, A.testBit y = true → v y = v w) (hA2 : A < 2 ^ 64) : lfI P v (L &&& ob_m (fun j => !A.testBit j) 64) (w + 1) := by
  refine ⟨oAnd_lt h.1, fun y hy hL => ?_, fun y hy h1 h2 => ?_⟩
  · rw [Nat.testBit_and] at hL
    simp only [Bool.and_eq_true] at hL
    exact h.2.1 y (by omega) hL.1
  · rw [Nat.testBit_and, ob_m_bit] at h2
    cases hL : L.testBit y
    · obtain ⟨x, a, b, c⟩ := h.2.2 y (by omega) h1 hL
      exact ⟨x, by omega, b, c⟩
    · rw [hL, Bool.true_and] at h2
      have hy64 : y < 64 := by
        rcases Nat.lt_or_ge y 64 with z | z
        · exact z
        · rw [ob_hi h.1 z] at hL; cases hL
      simp only [hy64, decide_true, Bool.true_and, Bool.not_eq_false'] at h2
      exact ⟨w, by omega, hw, hA y h2⟩
theorem tf_skip {P : Nat} {v : Nat → Nat} {L w : Nat} (h : lfI P v L w) (hL : L.testBit w = false) : tf P v (w + 1) = tf P v w := by
  rw [tf]
  by_cases c : P.testBit w = true
  · rw [if_pos c]
    obtain ⟨x, a, b, e⟩ := h.2.2 w (Nat.le_refl w) c hL
    cases h2 : tf P v w with
    | none =>
      have := (tf_min w).2 h2 x a
      rw [b] at this; cases this
    | some r =>
      have := (tf_min w).1 r h2 x a b
      dsimp only
      rw [if_neg (by omega)]
  · rw [if_neg c]
theorem ob_ct6 (a : Nat) : ob_ct a 6 ≤ 6 := fb_ct_le _ _
/-- the hats of the scene ahead -/
theorem cI_w {h : oh_St} {x : oI} {w : Nat} (hc : cI h 37 x) (hw : w < 2 ^ sN x.1) : cI (oh_upi h 37 5 (nI w)) 37 (xW x w) := by
  obtain ⟨⟨h1, h2, h3, h4, h5, h6, h7⟩, c2, c3⟩ := hc
  refine ⟨⟨?_, fun i hi => ⟨?_, ?_, ?_⟩, ?_, h4, ?_, ?_, xW_ok h7 hw⟩, fun i hi => ?_, ?_⟩
  · rw [oh_g1, if_neg (by omega)]; exact h1
  · rw [oh_g1, if_neg (by omega)]; exact (h2 i hi).1
  · rw [oh_g1, if_neg (by omega)]; exact (h2 i hi).2.1
  · rw [oh_g1, if_neg (by omega)]; exact (h2 i hi).2.2
  · rw [oh_g1, if_pos ⟨rfl, rfl⟩]; rfl
  · rw [oh_g1, if_neg (by omega)]; exact h5
  · rw [oh_g1, if_neg (by omega)]; exact h6
  · rw [oh_g1, if_neg (by omega)]; exact c2 i hi
  · rw [oh_g1, if_neg (by omega)]; exact c3
theorem sX8_hatsBecome {d w : Nat} {K : oh_St → Prop} {k : oh_St} {x : oI} (hk : mI k x) (hw : w < 2 ^ sN x.1) (q : ∀ k', oSame k k' [1] → (∀ b, (∀ j, j < 6 → b ≠ 8 + 5 * j + 2) → k'.1 1 b = k.1 1 b) → mI k' (xW x w) → K k') : MM (d + 2) jX8_hatsBecome [.ref 0, .int (nI w)] k (oh_r0 K) := by
  obtain ⟨S, pd, z⟩ := x
  obtain ⟨m, c2, c3⟩ := hk
  have m : mSc k S := m
  have hok := m.2.2.2.2.2
  have hn := hok.1
  have h64 := sPow hok
  have hw : w < 2 ^ sN S := hw
  refine mX8_hatsBecome ?_
  have key : ∀ i, i ≤ sN S → ∀ k', oSame k k' [1] → (∀ b, (∀ j, j < 6 → b ≠ 8 + 5 * j + 2) → k'.1 1 b = k.1 1 b) → (∀ j, j < 6 → k'.1 1 (8 + 5 * j + 2) = oh_b (if j < i then w.testBit j else (sW S).testBit j)) → wX8_hatsBecome_2 (d + 1) (oh_r0 K) (nI w) (nI i) k' := by
    refine oh_up (fun i hi ih => ?_) ?_
    · intro k' s e t
      refine bX8_hatsBecome_2 ⟨om_in (n := 0) (by omega), ?_⟩
      rw [om_0, e 0 (by omega), m.1, ob_bit (by omega) (by omega), nI_1]
      refine br_f (nI_ge hi (by omega)) (sX8_becomes (w := 2) (by omega) (by omega) (ih _ (oSame_up s (by simp)) (fun b hb => ?_) (fun j hj => ?_)))
      · rw [oh_g1, if_neg (fun y => hb i (by omega) y.2)]; exact e b hb
      · rw [oh_g1]
        by_cases y : j = i
        · subst y
          rw [if_pos ⟨rfl, rfl⟩, if_pos (by omega)]
        · rw [if_neg (by omega), t j hj]
          by_cases y2 : j < i
          · rw [if_pos y2, if_pos (by omega)]
          · rw [if_neg y2, if_neg (by omega)]
    · intro k' s e t
      refine bX8_hatsBecome_2 ⟨om_in (n := 0) (by omega), ?_⟩
      rw [om_0, e 0 (by omega), m.1]
      refine br_t (nI_le (Nat.le_refl _) (by omega)) (q k' s e ⟨⟨?_, fun i hi => ⟨?_, ?_, ?_, ?_⟩, ?_, ?_, ?_, xW_ok (x := (S, pd, z)) hok hw⟩, fun i hi => ?_, ?_⟩)
      · exact (e 0 (by omega)).trans m.1
      · exact (e _ (by omega)).trans (m.2.1 i hi).1
      · exact (e _ (by omega)).trans (m.2.1 i hi).2.1
      · rw [t i hi]
        show oh_b _ = oh_b (w.testBit i)
        by_cases y : i < sN S
        · rw [if_pos y]
        · rw [if_neg y, ob_hi hok.2.2.1 (by omega : sN S ≤ i), ob_hi hw (by omega : sN S ≤ i)]
      · exact (e _ (by omega)).trans (m.2.1 i hi).2.2.2
      · rw [s.2]; exact m.2.2.1
      · exact (e 3 (by omega)).trans m.2.2.2.1
      · exact (e 2 (by omega)).trans m.2.2.2.2.1
      · exact (e _ (by omega)).trans (c2 i hi)
      · exact (e 5 (by omega)).trans c3
  exact key 0 (Nat.zero_le _) k (oSame_rf _ _) (fun _ _ => rfl) (fun j hj => by rw [if_neg (by omega)]; exact (m.2.1 j hj).2.2.1)

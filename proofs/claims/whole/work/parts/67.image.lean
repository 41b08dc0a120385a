/-! BOTH SIDES: image, restore, check -/
theorem sX0_takeA {d : Nat} {K : oh_St → Prop} {h : oh_St} {B : oBk} (b : cB h 19 B) (q : ∀ h', cB h' 1 B → (∀ a b, ¬ (1 ≤ a ∧ a ≤ 1 + 17) → h'.1 a b = h.1 a b) → (∀ a b, ¬ (a = 1 + 1 ∧ b = 8) → h'.2 a b = h.2 a b) → (h'.1 (1 + 6) 0 = h.1 (1 + 6) 0 ∧ h'.1 (1 + 10) 0 = h.1 (1 + 10) 0) → K h') : CM (d + 4) jX0_take [.ref 1, .ref 19] h (oh_r0 K) := by
  obtain ⟨b1, b2, b3, b4, b5, b6, b7, b8, b9⟩ := b
  refine mX0_take (by omega) (sX4_take (by omega) ⟨bO B, b2⟩ (fun h1 f1 c1 cc1 s1 ss1 => ?_))
  have E1 : ∀ a e, ¬ (1 + 1 ≤ a ∧ a ≤ 1 + 5) → h1.1 a e = h.1 a e := fun a e x => f1 a e (by simp; omega)
  refine sX3_take (by unfold oTake; omega) (rowIs_c b5 (fun a e x => E1 a e (by omega))) (fun h2 r2 s2 => ?_)
  have E2 : ∀ a e, ¬ (1 + 7 ≤ a ∧ a ≤ 1 + 8) → h2.1 a e = h1.1 a e := fun a e x => s2.1 a e (by simp; omega)
  refine sX3_take (by unfold oTake; omega) (rowIs_c b6 (fun a e x => (E2 a e (by omega)).trans (E1 a e (by omega)))) (fun h3 r3 s3 => ?_)
  have E3 : ∀ a e, ¬ (1 + 11 ≤ a ∧ a ≤ 1 + 12) → h3.1 a e = h2.1 a e := fun a e x => s3.1 a e (by simp; omega)
  refine sX3_take (by unfold oTake; omega) (rowIs_c b7 (fun a e x => (E3 a e (by omega)).trans ((E2 a e (by omega)).trans (E1 a e (by omega))))) (fun h4 r4 s4 => ?_)
  have E4 : ∀ a e, ¬ (1 + 14 ≤ a ∧ a ≤ 1 + 15) → h4.1 a e = h3.1 a e := fun a e x => s4.1 a e (by simp; omega)
  refine sX3_take (by unfold oTake; omega) (rowIs_c b8 (fun a e x => (E4 a e (by omega)).trans ((E3 a e (by omega)).trans ((E2 a e (by omega)).trans (E1 a e (by omega)))))) (fun h5 r5 s5 => ?_)
  have E5 : ∀ a e, ¬ (1 + 16 ≤ a ∧ a ≤ 1 + 17) → h5.1 a e = h4.1 a e := fun a e x => s5.1 a e (by simp; omega)
  have sc : ∀ a e, 1 + 1 ≤ a ∧ a ≤ 1 + 5 → (oh_upi h5 1 5 (h5.1 19 5)).1 a e = h1.1 a e := fun a e x => by
    rw [oh_g1, if_neg (by omega), E5 a e (by omega), E4 a e (by omega), E3 a e (by omega), E2 a e (by omega)]
  have L2 : (oh_upi h5 1 5 (h5.1 19 5)).2 = h1.2 := by
    show h5.2 = h1.2
    rw [s5.2, s4.2, s3.2, s2.2]
  refine q _ ⟨⟨?_, fun p hp => ⟨?_, ?_, ?_⟩, ?_, ?_, ?_, ?_, b1.2.2.2.2.2.2⟩, ?_, ?_, fun i hi => ?_, ?_, ?_, ?_, ?_, ?_⟩ (fun a e x => ?_) (fun a e x => ?_) ⟨?_, ?_⟩
  · rw [sc _ _ (by omega), c1 0 (by omega)]; exact b1.1
  · rw [sc _ _ (by omega), cc1 1 p (by omega) (by omega) hp]; exact (b1.2.1 p hp).1
  · rw [sc _ _ (by omega), cc1 2 p (by omega) (by omega) hp]; exact (b1.2.1 p hp).2.1
  · rw [sc _ _ (by omega), cc1 3 p (by omega) (by omega) hp]; exact (b1.2.1 p hp).2.2
  · rw [sc _ _ (by omega), c1 5 (by omega)]; exact b1.2.2.1
  · rw [L2, s1]; exact b1.2.2.2.1
  · rw [sc _ _ (by omega), c1 9 (by omega)]; exact b1.2.2.2.2.1
  · rw [sc _ _ (by omega), c1 10 (by omega)]; exact b1.2.2.2.2.2.1
  · rw [sc _ _ (by omega), c1 7 (by omega)]; exact b2
  · rw [sc _ _ (by omega), c1 6 (by omega)]; exact b3
  · have := cc1 4 i (by omega) (by omega) hi
    rw [show 1 + 5 = 1 + 1 + 4 by omega, sc _ _ (by omega), this]; exact b4 i hi
  · exact rowIs_c r2 (fun a e x => by rw [oh_g1, if_neg (by omega), E5 a e (by omega), E4 a e (by omega), E3 a e (by omega)])
  · exact rowIs_c r3 (fun a e x => by rw [oh_g1, if_neg (by omega), E5 a e (by omega), E4 a e (by omega)])
  · exact rowIs_c r4 (fun a e x => by rw [oh_g1, if_neg (by omega), E5 a e (by omega)])
  · exact rowIs_c r5 (fun a e x => by rw [oh_g1, if_neg (by omega)])
  · rw [oh_g1, if_pos ⟨rfl, rfl⟩, E5 _ _ (by omega), E4 _ _ (by omega), E3 _ _ (by omega), E2 _ _ (by omega), E1 _ _ (by omega)]; exact b9
  · rw [oh_g1, if_neg (by omega), E5 _ _ (by omega), E4 _ _ (by omega), E3 _ _ (by omega), E2 _ _ (by omega), E1 _ _ (by omega)]
  · rw [L2]; exact ss1 a e x
  · rw [oh_g1, if_neg (by omega), E5 _ _ (by omega), E4 _ _ (by omega), E3 _ _ (by omega), E2 _ _ (by omega), E1 _ _ (by omega)]
  · rw [oh_g1, if_neg (by omega), E5 _ _ (by omega), E4 _ _ (by omega), E3 _ _ (by omega), E2 _ _ (by omega), E1 _ _ (by omega)]
theorem sX0_takeB {d : Nat} {K : oh_St → Prop} {h : oh_St} {B : oBk} (b : cB h 1 B) (q : ∀ h', cB h' 19 B → (∀ a b, ¬ (19 ≤ a ∧ a ≤ 19 + 17) → h'.1 a b = h.1 a b) → (∀ a b, ¬ (a = 19 + 1 ∧ b = 8) → h'.2 a b = h.2 a b) → (h'.1 (19 + 6) 0 = h.1 (19 + 6) 0 ∧ h'.1 (19 + 10) 0 = h.1 (19 + 10) 0) → K h') : CM (d + 4) jX0_take [.ref 19, .ref 1] h (oh_r0 K) := by
  obtain ⟨b1, b2, b3, b4, b5, b6, b7, b8, b9⟩ := b
  refine mX0_take (by omega) (sX4_take (by omega) ⟨bO B, b2⟩ (fun h1 f1 c1 cc1 s1 ss1 => ?_))
  have E1 : ∀ a e, ¬ (19 + 1 ≤ a ∧ a ≤ 19 + 5) → h1.1 a e = h.1 a e := fun a e x => f1 a e (by simp; omega)
  refine sX3_take (by unfold oTake; omega) (rowIs_c b5 (fun a e x => E1 a e (by omega))) (fun h2 r2 s2 => ?_)
  have E2 : ∀ a e, ¬ (19 + 7 ≤ a ∧ a ≤ 19 + 8) → h2.1 a e = h1.1 a e := fun a e x => s2.1 a e (by simp; omega)
  refine sX3_take (by unfold oTake; omega) (rowIs_c b6 (fun a e x => (E2 a e (by omega)).trans (E1 a e (by omega)))) (fun h3 r3 s3 => ?_)
  have E3 : ∀ a e, ¬ (19 + 11 ≤ a ∧ a ≤ 19 + 12) → h3.1 a e = h2.1 a e := fun a e x => s3.1 a e (by simp; omega)
  refine sX3_take (by unfold oTake; omega) (rowIs_c b7 (fun a e x => (E3 a e (by omega)).trans ((E2 a e (by omega)).trans (E1 a e (by omega))))) (fun h4 r4 s4 => ?_)
  have E4 : ∀ a e, ¬ (19 + 14 ≤ a ∧ a ≤ 19 + 15) → h4.1 a e = h3.1 a e := fun a e x => s4.1 a e (by simp; omega)
  refine sX3_take (by unfold oTake; omega) (rowIs_c b8 (fun a e x => (E4 a e (by omega)).trans ((E3 a e (by omega)).trans ((E2 a e (by omega)).trans (E1 a e (by omega)))))) (fun h5 r5 s5 => ?_)
  have E5 : ∀ a e, ¬ (19 + 16 ≤ a ∧ a ≤ 19 + 17) → h5.1 a e = h4.1 a e := fun a e x => s5.1 a e (by simp; omega)
  have sc : ∀ a e, 19 + 1 ≤ a ∧ a ≤ 19 + 5 → (oh_upi h5 19 5 (h5.1 1 5)).1 a e = h1.1 a e := fun a e x => by
    rw [oh_g1, if_neg (by omega), E5 a e (by omega), E4 a e (by omega), E3 a e (by omega), E2 a e (by omega)]
  have L2 : (oh_upi h5 19 5 (h5.1 1 5)).2 = h1.2 := by
    show h5.2 = h1.2
    rw [s5.2, s4.2, s3.2, s2.2]
  refine q _ ⟨⟨?_, fun p hp => ⟨?_, ?_, ?_⟩, ?_, ?_, ?_, ?_, b1.2.2.2.2.2.2⟩, ?_, ?_, fun i hi => ?_, ?_, ?_, ?_, ?_, ?_⟩ (fun a e x => ?_) (fun a e x => ?_) ⟨?_, ?_⟩
  · rw [sc _ _ (by omega), c1 0 (by omega)]; exact b1.1
  · rw [sc _ _ (by omega), cc1 1 p (by omega) (by omega) hp]; exact (b1.2.1 p hp).1
  · rw [sc _ _ (by omega), cc1 2 p (by omega) (by omega) hp]; exact (b1.2.1 p hp).2.1
  · rw [sc _ _ (by omega), cc1 3 p (by omega) (by omega) hp]; exact (b1.2.1 p hp).2.2
  · rw [sc _ _ (by omega), c1 5 (by omega)]; exact b1.2.2.1
  · rw [L2, s1]; exact b1.2.2.2.1
  · rw [sc _ _ (by omega), c1 9 (by omega)]; exact b1.2.2.2.2.1
  · rw [sc _ _ (by omega), c1 10 (by omega)]; exact b1.2.2.2.2.2.1
  · rw [sc _ _ (by omega), c1 7 (by omega)]; exact b2
  · rw [sc _ _ (by omega), c1 6 (by omega)]; exact b3
  · have := cc1 4 i (by omega) (by omega) hi
    rw [show 19 + 5 = 19 + 1 + 4 by omega, sc _ _ (by omega), this]; exact b4 i hi
  · exact rowIs_c r2 (fun a e x => by rw [oh_g1, if_neg (by omega), E5 a e (by omega), E4 a e (by omega), E3 a e (by omega)])
  · exact rowIs_c r3 (fun a e x => by rw [oh_g1, if_neg (by omega), E5 a e (by omega), E4 a e (by omega)])
  · exact rowIs_c r4 (fun a e x => by rw [oh_g1, if_neg (by omega), E5 a e (by omega)])
  · exact rowIs_c r5 (fun a e x => by rw [oh_g1, if_neg (by omega)])
  · rw [oh_g1, if_pos ⟨rfl, rfl⟩, E5 _ _ (by omega), E4 _ _ (by omega), E3 _ _ (by omega), E2 _ _ (by omega), E1 _ _ (by omega)]; exact b9
  · rw [oh_g1, if_neg (by omega), E5 _ _ (by omega), E4 _ _ (by omega), E3 _ _ (by omega), E2 _ _ (by omega), E1 _ _ (by omega)]
  · rw [L2]; exact ss1 a e x
  · rw [oh_g1, if_neg (by omega), E5 _ _ (by omega), E4 _ _ (by omega), E3 _ _ (by omega), E2 _ _ (by omega), E1 _ _ (by omega)]
  · rw [oh_g1, if_neg (by omega), E5 _ _ (by omega), E4 _ _ (by omega), E3 _ _ (by omega), E2 _ _ (by omega), E1 _ _ (by omega)]
theorem p_image {h k : oh_St} (H : R h k) : Both jX7_image jX8_image [] h k := by
  intro d
  obtain ⟨B, b1, b2, b3, h1, h2, h3, h4, h5, h6⟩ := id H
  have hl := cB_len (Or.inl rfl) b1
  refine mX7_image (sX0_takeB b1 (fun h' c f f2 _ => mX8_image (sX8_copies (by omega) (fun k1 e s => ?_))))
  have f : ∀ a b, ¬ (19 ≤ a ∧ a ≤ 36) → h'.1 a b = h.1 a b := f
  have f2 : ∀ a b, ¬ (a = 20 ∧ b = 8) → h'.2 a b = h.2 a b := f2
  have c : cB h' 19 B := c
  rw [oh_g3, oh_g1, if_pos ⟨rfl, rfl⟩, oh_g1, if_pos ⟨rfl, rfl⟩, f 0 7 (by omega), s.1 0 6 (by simp), h2]
  generalize eh : oh_upi h' 0 7 (h.1 0 7 + 1) = H'
  generalize ek : oh_upi (oh_upl k1 0 5 (k1.2 0 3)) 0 6 (h.1 0 7 + 1) = K'
  have E : ∀ a b, ¬ (19 ≤ a ∧ a ≤ 36) → ¬ (a = 0 ∧ b = 7) → H'.1 a b = h.1 a b := fun a b x y => by
    rw [← eh, oh_g1, if_neg y]; exact f a b x
  have E19 : ∀ a b, 19 ≤ a ∧ a ≤ 36 → H'.1 a b = h'.1 a b := fun a b x => by
    rw [← eh, oh_g1, if_neg (by omega)]
  have EL : H'.2 = h'.2 := by rw [← eh]; rfl
  have F : ∀ a b, a ≠ 3 → ¬ (a = 0 ∧ b = 6) → K'.1 a b = k.1 a b := fun a b x y => by
    rw [← ek, oh_g1, if_neg y, oh_g3]; exact s.1 a b (by simp [x])
  have F3 : ∀ b, b < 210 → K'.1 3 b = k.1 1 b := fun b hb => by
    rw [← ek, oh_g1, if_neg (by omega), oh_g3]; exact e b hb
  have G3 : K'.2 0 3 = k.2 0 3 := by rw [← ek, oh_g2, oh_g4, if_neg (by omega), s.2]
  have G5 : K'.2 0 5 = k.2 0 3 := by rw [← ek, oh_g2, oh_g4, if_pos ⟨rfl, rfl⟩, s.2]
  refine ⟨rfl, B, cB_c b1 (fun a b x => E a b (by omega) (by omega)) (by rw [EL]; exact f2 _ _ (by omega)), mB_c b2 (fun b _ => F 1 b (by omega) (by omega)) G3 hl.1 hl.2, b3, ⟨?_, ?_⟩, ?_, fun _ => ⟨B, cB_c c (fun a b x => E19 a b (by omega)) (by rw [EL]), mB_c b2 (fun b hb => ?_) ?_ hl.1 hl.2, b3⟩, fun i hi => ?_, ?_, fun t ht => ?_⟩
  · rw [E _ _ (by omega) (by omega)]; exact h1.1
  · rw [E _ _ (by omega) (by omega)]; exact h1.2
  · rw [← ek, ← eh, oh_g1, if_pos ⟨rfl, rfl⟩, oh_g1, if_pos ⟨rfl, rfl⟩]
  · rw [kp_1]; exact F3 b hb
  · rw [kp_3]; exact G5
  · rw [E _ _ (by omega) (by omega), F _ _ (by omega) (by omega)]; exact h4 i hi
  · obtain ⟨tr, t1, t2, t3⟩ := h5
    exact ⟨tr, rowIs_c t1 (fun a b x => E a b (by omega) (by omega)), (F _ _ (by omega) (by omega)).trans t2, fun i hi => (F _ _ (by omega) (by omega)).trans (t3 i hi)⟩
  · obtain ⟨⟨s1, s2⟩, ⟨n, s3, s4, s5⟩, s6⟩ := h6 t ht
    refine ⟨⟨?_, ?_⟩, ⟨n, s3, (E _ _ (by omega) (by omega)).trans s4, (F _ _ (by omega) (by omega)).trans s5⟩, fun i hi => ?_⟩
    · rw [E _ _ (by omega) (by omega), F _ _ (by omega) (by omega)]; exact s1
    · rw [F _ _ (by omega) (by omega)]; exact s2
    · rw [E _ _ (by omega) (by omega), F _ _ (by omega) (by omega)]; exact s6 i hi
theorem p_restore {h k : oh_St} (H : R h k) : Both jX7_restore jX8_restore [] h k := by
  intro d
  obtain ⟨B0, b10, b20, b30, r⟩ := id H
  have h2 := r.2.1
  by_cases c0 : h.1 0 7 = 0
  · exact mX7_restore (oh_nf c0 (sX7_failed 2 (by decide) (by omega) (by omega) (mX8_restore (oh_nf (by rw [h2]; exact c0) (sX8_finds 2 (by omega) ⟨by decide, R_fail H (by omega)⟩)))))
  · obtain ⟨B, b1, b2, b3⟩ := r.2.2.1 c0
    have hl := cB_len (Or.inr rfl) b1
    refine mX7_restore (oh_nt c0 (sX0_takeA b1 (fun h' c f f2 u => mX8_restore (oh_nt (by rw [h2]; exact c0) (sX8_copies (by omega) (fun k1 e s => ⟨om_in (n := 2) (by omega), ?_⟩))))))
    have f : ∀ a b, ¬ (1 ≤ a ∧ a ≤ 18) → h'.1 a b = h.1 a b := f
    have f2 : ∀ a b, ¬ (a = 2 ∧ b = 8) → h'.2 a b = h.2 a b := f2
    have c : cB h' 1 B := c
    have m : mB (oh_upl k1 0 3 (k1.2 0 5)) B := by
      refine mB_c b2 (fun b hb => ?_) ?_ hl.1 hl.2
      · rw [oh_g3, kp_1]; exact e b hb
      · rw [oh_g4, if_pos ⟨rfl, rfl⟩, kp_3, s.2]
    have e10 : h'.1 2 10 = nI (sB (bS B)) := c.1.2.2.2.2.2.1
    refine ⟨?_, B, c, m, b3, rest_c r ⟨fun a b x => f a b (by omega), u.1, u.2, f2 20 8 (by omega)⟩ ⟨fun a b x => ?_, ?_⟩⟩
    · rw [e10, om_2, m.1.2.2.2]
    · rw [oh_g3]; exact s.1 a b (by simp; omega)
    · rw [oh_g4, if_neg (by omega), s.2]
/-! check -/
def chk (fi : Int32) (c : List Nat) (x : oI) (l : List Int32) : Nat → Nat → Nat
  | 0, _ => 0
  | f + 1, i => if l.getD i 0 = nI (sQ (iT false fi c x (i + 1)).1) then chk fi c x l f (i + 1) else i + 1
theorem ahF_17 {h h' : oh_St} (f : ahF h h') : ahF (oh_upi h 17 1 0) (oh_upi h' 17 1 0) := ⟨fun a b x y => by
  rw [oh_g1, oh_g1]
  split
  · rfl
  · exact f.1 a b x y, fun a b x => f.2 a b x⟩
theorem cCheck {d : Nat} {K : Int32 → oh_St → Prop} {h : oh_St} {B : oBk} (b1 : cB h 1 B) (r : h.1 7 0 = 0 ∧ h.1 11 0 = 1) (b3 : bOk B) (q : ∀ h', ahF h h' → K (nI (chk (bF B) (cOf 1 (bX B 1)) (bS B, bD B, bZ B) (bW B) (bW B).length 0)) (oh_upi h' 17 1 0)) : CM (d + 9) jX7_startAhead [.ref 0] h (oh_r0 (fun h1 => wX7_check_38 (d + 9) (oh_r1 K) (0 : Int32) (0 : Int32) h1)) := by
  generalize eT : chk (bF B) (cOf 1 (bX B 1)) (bS B, bD B, bZ B) (bW B) (bW B).length 0 = T at q
  have hl := cB_law (u := 1) b1 r (by omega)
  have b39 := b3.1
  have hw := (cB_len (Or.inl rfl) b1).2
  have ro : oRow 17 := by unfold oRow; omega
  refine sX7_startAhead b1 (fun h1 f1 f2 c hf => ?_)
  have key : ∀ f i, f + i = (bW B).length → ∀ h', chk (bF B) (cOf 1 (bX B 1)) (bS B, bD B, bZ B) (bW B) f i = T → cI h' 37 (iT false (bF B) (cOf 1 (bX B 1)) (bS B, bD B, bZ B) i) → ahF h h' → h'.1 37 6 = bF B → wX7_check_38 (d + 9) (oh_r1 K) 0 (nI i) h' := by
    intro f
    induction f with
    | zero =>
      intro i hi h' e c1 a1 hf1
      have r17 : rowIs h' 17 (bW B) := (cB_ah b1 a1).2.2.2.2.2.2.2.1
      have e17 : h'.1 17 1 = nI (bW B).length := r17.1
      have Q := q h' a1
      rw [← e] at Q
      refine bX7_check_38 ?_
      rw [e17]
      exact br_t (nI_le (by omega) (by omega)) (sX3_clear ro Q)
    | succ f ih =>
      intro i hi h' e c1 a1 hf1
      have r17 : rowIs h' 17 (bW B) := (cB_ah b1 a1).2.2.2.2.2.2.2.1
      have e17 : h'.1 17 1 = nI (bW B).length := r17.1
      refine bX7_check_38 ?_
      rw [e17]
      refine br_f (nI_ge (by omega) (by omega)) (oh_nf rfl (cRing (Or.inr rfl) c1 hf1 (lawIs_ah hl a1) (by rw [iT_B]; show sB (bS B) + i + 1 < 1000; omega) (fun h2 c2 fr => ?_)))
      have a2 := ahF_tr a1 (ahF_o fr)
      have r17' : rowIs h2 17 (bW B) := (cB_ah b1 a2).2.2.2.2.2.2.2.1
      have e9 : h2.1 37 9 = nI (sQ (iT false (bF B) (cOf 1 (bX B 1)) (bS B, bD B, bZ B) (i + 1)).1) := c2.1.2.2.2.2.1
      refine sX3_get ro r17' (by omega) ?_
      rw [e9, nI_1]
      unfold chk at e
      refine ⟨fun y => ?_, fun y => ?_⟩
      · rw [if_pos y] at e
        exact ih (i + 1) (by omega) h2 e c2 a2 ((fr.2.1 6 (by omega) (by omega)).trans hf1)
      · rw [if_neg y] at e
        have Q := q h2 a2
        rw [← e] at Q
        exact bX7_check_38 ⟨fun _ => sX3_clear ro Q, fun _ => oh_nt (nI_ne0 (by omega) (by omega)) (sX3_clear ro Q)⟩
  exact key (bW B).length 0 rfl h1 eT c (ahF_s f1 f2) hf
theorem mI_c {k k' : oh_St} {x : oI} (H : mI k x) (e : ∀ b, b < 38 → b ≠ 7 → k'.1 1 b = k.1 1 b) (e2 : k'.2 0 3 = k.2 0 3) : mI k' x := by
  obtain ⟨⟨h1, h2, h3, h4, h5, h6⟩, c2, c3⟩ := H
  exact ⟨⟨(e _ (by omega) (by omega)).trans h1, fun p hp => ⟨(e _ (by omega) (by omega)).trans (h2 p hp).1, (e _ (by omega) (by omega)).trans (h2 p hp).2.1, (e _ (by omega) (by omega)).trans (h2 p hp).2.2.1, (e _ (by omega) (by omega)).trans (h2 p hp).2.2.2⟩, e2.trans h3, (e _ (by omega) (by omega)).trans h4, (e _ (by omega) (by omega)).trans h5, h6⟩, fun i hi => (e _ (by omega) (by omega)).trans (c2 i hi), (e _ (by omega) (by omega)).trans c3⟩
theorem mCheck {d : Nat} {K : Int32 → oh_St → Prop} {h k : oh_St} {B : oBk} (b1 : cB h 1 B) (b2 : mB k B) (b3 : bOk B) (op : bO B = true) (q : ∀ k', back (oh_upi k 1 7 0) k' → K (nI (chk (bF B) (cOf 1 (bX B 1)) (bS B, bD B, bZ B) (bW B) (bW B).length 0)) k') : MM (d + 49) jX8_begins [.ref 0] (oh_upi k 1 7 0) (oh_r0 (fun h3 => wX8_check_37 (d + 49) (oh_r1 K) (nI (bW B).length) (0 : Int32) (0 : Int32) h3)) := by
  generalize eT : chk (bF B) (cOf 1 (bX B 1)) (bS B, bD B, bZ B) (bW B) (bW B).length 0 = T at q
  have b39 := b3.1
  have hw := (cB_len (Or.inl rfl) b1).2
  have mi := mI_B b1 b2 op
  have tx := b2.2.2.2.2.2.2.1
  have wt := b2.2.2.2.2.2.2.2.2.1
  refine sX8_begins (fun k1 sv bk => ?_)
  have E : ∀ b, b < 210 → b ≠ 7 → k1.1 1 b = k.1 1 b := fun b x y => by
    rw [bk.1 b x, oh_g1, if_neg (fun z => y z.2)]
  have m1 : mI k1 (bS B, bD B, bZ B) := mI_c mi (fun b x y => E b (by omega) y) bk.2.1
  have tx1 : txIs k1 1 1 (bX B 1) := txIs_1 (by omega) tx (fun b x y => E b (by omega) (by omega))
  have f1 : k1.1 1 4 = bF B := (E 4 (by omega) (by omega)).trans b2.2.2.2.1
  have key : ∀ f i, f + i = (bW B).length → ∀ k', chk (bF B) (cOf 1 (bX B 1)) (bS B, bD B, bZ B) (bW B) f i = T → mI k' (iT false (bF B) (cOf 1 (bX B 1)) (bS B, bD B, bZ B) i) → rF k1 k' → wX8_check_37 (d + 49) (oh_r1 K) (nI (bW B).length) 0 (nI i) k' := by
    intro f
    induction f with
    | zero =>
      intro i hi k' e m rk
      refine bX8_check_37 (br_t (nI_le (by omega) (by omega)) (sX8_ends (saved_r sv rk) (fun k2 bk2 => ?_)))
      have Q := q k2 bk2
      rw [← e] at Q
      exact Q
    | succ f ih =>
      intro i hi k' e m rk
      refine bX8_check_37 (br_f (nI_ge (by omega) (by omega)) (oh_nf rfl (mRing (l := false) m (txIs_r (by omega) tx1 rk) ((rk.2.1 4 (by omega) (by omega) (by omega) (by omega)).trans f1) (by rw [iT_B]; show sB (bS B) + i + 1 < 1000; omega) (fun k2 r2 m2 => ?_))))
      have rk2 := rF_tr rk r2
      have e3 : k2.1 1 3 = nI (sQ (iT false (bF B) (cOf 1 (bX B 1)) (bS B, bD B, bZ B) (i + 1)).1) := m2.1.2.2.2.1
      have e4 : k2.1 1 (40 + i) = (bW B).getD i 0 := by
        rw [rk2.2.1 _ (by omega) (by omega) (by omega) (by omega), E _ (by omega) (by omega)]
        exact wt.2 i (by omega)
      rw [show (40 : Int32) = nI 40 from rfl, nI_add, oh_cl (by omega), om_3, e3, e4, nI_1, Int32.add_comm, nI_1]
      refine ⟨om_in (n := 3) (by omega), om_in (by omega), ?_⟩
      unfold chk at e
      refine oh_nc (fun y => ?_) (fun y => ?_)
      · rw [if_neg (fun z => y z.symm)] at e
        have Q : ∀ k3, back (oh_upi k 1 7 0) k3 → K (nI (i + 1)) k3 := fun k3 bk3 => by
          have := q k3 bk3
          rw [← e] at this
          exact this
        exact bX8_check_37 ⟨fun _ => sX8_ends (saved_r sv rk2) (fun k3 bk3 => Q k3 bk3), fun _ => oh_nt (nI_ne0 (by omega) (by omega)) (sX8_ends (saved_r sv rk2) (fun k3 bk3 => Q k3 bk3))⟩
      · rw [if_pos y.symm] at e
        exact ih (i + 1) (by omega) k2 e m2 rk2
  exact key (bW B).length 0 rfl k1 eT m1 (rF_rf k1)
theorem p_check {h k : oh_St} (H : R h k) : Both jX7_check jX8_check [] h k := by
  intro d
  obtain ⟨B, b1, b2, b3, r⟩ := id H
  have h27 : h.1 2 7 = oh_b (bO B) := b1.2.1
  have k3 := b2.2.2.1
  have wt := b2.2.2.2.2.2.2.2.2.1
  have R0 : R (oh_upi h 17 1 0) (oh_upi k 1 7 0) := by
    refine R_wt b1 b2 b3 r [] ⟨?_, fun i hi => absurd hi (by simp), by simp⟩ (fun a b x y => ?_) (fun _ _ => rfl) ⟨?_, fun i hi => absurd hi (by simp)⟩ (fun b x y z => ?_) rfl (kF_up k 7 0)
    · rw [oh_g1, if_pos ⟨rfl, rfl⟩]; rfl
    · rw [oh_g1, if_neg (by omega)]
    · rw [oh_g1, if_pos ⟨rfl, rfl⟩]; rfl
    · rw [oh_g1, if_neg (fun w => y w.2)]
  have op1 : (oh_upi k 1 7 0).1 1 1 = oh_b (bO B) := by rw [oh_g1, if_neg (by omega)]; exact k3
  refine mX7_check ?_
  rw [h27]
  have pre : ∀ (K : Int32 → oh_St → Prop), _ → MM (d + 100) jX8_check [.ref 0] k (oh_r1 K) := fun K q => mX8_check ⟨om_in (n := 7) (by omega), om_in (n := 7) (by omega), sX8_isOpen op1 q⟩
  rw [om_7, wt.1] at pre
  refine oh_bn (fun op => cCheck (d := d + 90) b1 r.1 b3 (fun h' f => pre _ ?_)) (fun z => sX3_clear (by unfold oRow; omega) (sX7_failed 3 (by decide) (by omega) (by omega) (pre _ ?_)))
  · rw [op]
    exact oh_nt (by decide) (mCheck (d := d + 50) b1 b2 b3 op (fun k' bk => ⟨rfl, R_ah R0 (ahF_17 f) bk⟩))
  · rw [z]
    exact oh_nf rfl (sX8_finds 3 (by omega) ⟨by decide, R_fail R0 (by omega)⟩)

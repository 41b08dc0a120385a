/-! BOTH SIDES: loose; THE CLASS: a scene taken from another -/
theorem sX0_drawn {d : Nat} {K : Int32 → oh_St → Prop} {h : oh_St} {z : Int32} (hz : h.1 1 5 = z) (q : K (dr (nz z)) (oh_upi h 1 5 (nz z))) : CM (d + 1) jX0_drawn [.ref 1] h (oh_r1 K) := by
  refine mX0_drawn ?_
  rw [hz, oh_g1, if_pos ⟨rfl, rfl⟩]
  exact q
theorem cLoose {d : Nat} {K : oh_St → Prop} {h : oh_St} {x : oI} {fi : Int32} {c : List Nat} (hc : cI h 2 x) (hf : h.1 2 6 = fi) (hl : lawIs h 11 1 c) (hbe : sB x.1 + 1 < 1000)
    (q : ∀ h', cI h' 2 (iSt true fi c x) → (∀ a b, a ≠ 2 → a ≠ 6 → a ≠ 14 → ¬ (a = 1 ∧ b = 5) → h'.1 a b = h.1 a b) → (∀ b, b ≠ 9 → b ≠ 10 → h'.1 2 b = h.1 2 b) → (∀ a b, ¬ (a = 2 ∧ b = 8) → h'.2 a b = h.2 a b) → K h') : CM (d + 7) jX0_ringLoosely [.ref 1] h (oh_r0 K) := by
  obtain ⟨S, pd, z⟩ := x
  obtain ⟨c1, c2, c3⟩ := hc
  have c1 : cSc h 2 S := c1
  have c2 : ∀ i, i < 6 → h.1 6 i = pd i := c2
  have c3 : h.1 1 5 = z := c3
  have hbe : sB S + 1 < 1000 := hbe
  have hok := c1.2.2.2.2.2.2
  have hn := hok.1
  have h64 := sPow hok
  have w1 : sWho S (sW S) < 2 ^ sN S := ob_m_lt _ _
  have w2 : sBlk S (sW S) (sWho S (sW S)) < 2 ^ sN S := ob_m_lt _ _
  refine mX0_ringLoosely (sX4_speakers (Or.inl rfl) c1 (sX4_sayings (Or.inl rfl) c1 (by omega) ?_))
  have key : ∀ i, i ≤ sN S → ∀ h', oSame h h' [1] → (∀ b, b ≠ 5 → h'.1 1 b = h.1 1 b) → h'.1 1 5 = (lsZ (sWho S (sW S)) z (sBlk S (sW S) (sWho S (sW S))) i).1 → wX0_ringLoosely_19 (d + 6) (oh_r0 K) (nI (sWho S (sW S))) (nI (lsZ (sWho S (sW S)) z (sBlk S (sW S) (sWho S (sW S))) i).2) (nI i) h' := by
    refine oh_up (fun i hi ih => ?_) ?_
    · intro h' hs e e5
      have h20 : h'.1 2 0 = nI (sN S) := (hs.1 2 0 (by simp)).trans c1.1
      refine bX0_ringLoosely_19 ?_
      rw [h20, nI_1]
      refine br_f (nI_ge hi (by omega)) (sX7_bit (by omega) (by omega) ?_)
      rw [lsZ] at ih
      refine oh_bo (fun y => ?_) (fun y => sX0_drawn e5 ⟨by decide, ?_⟩)
      · rw [if_neg (by rw [y]; decide)] at ih
        exact ih h' hs e e5
      · rw [if_pos y] at ih
        have I := ih (oh_upi h' 1 5 (nz (lsZ (sWho S (sW S)) z (sBlk S (sW S) (sWho S (sW S))) i).1)) (oSame_up hs (by simp)) (fun b hb => by rw [oh_g1, if_neg (fun z => hb z.2)]; exact e b hb) (by rw [oh_g1, if_pos ⟨rfl, rfl⟩])
        refine oh_nc (fun u => ?_) (fun u => ?_)
        · rw [if_neg u] at I
          exact I
        · rw [if_pos u] at I
          rw [ob_pow (by omega), ob_xor]
          exact I
    · intro h' hs e e5
      have h20 : h'.1 2 0 = nI (sN S) := (hs.1 2 0 (by simp)).trans c1.1
      refine bX0_ringLoosely_19 ?_
      rw [h20]
      have hc' : cSc h' 2 S := cSc_same c1 hs (by simp) (by simp) (by simp) (by simp)
      have hb : (lsZ (sWho S (sW S)) z (sBlk S (sW S) (sWho S (sW S))) (sN S)).2 < 2 ^ sN S := ob_sub_lt (fun p => lsZ_sub (fun p => sBlk_sub) _ p) w1
      refine br_t (nI_le (Nat.le_refl _) (by omega)) (sX4_hear (pd := pd) (Or.inl rfl) hc' ((hs.1 2 6 (by simp)).trans hf) (fun i hi => (hs.1 6 i (by simp)).trans (c2 i hi)) (lawIs_same hl hs (by simp) (by simp) (by simp)) w1 (by omega) hbe (fun h2 a b p => q h2 ⟨a, p, ?_⟩ (fun x y x1 x2 x3 x4 => ?_) (fun b' y1 y2 => ?_) (fun x y x1 => ?_)))
      · rw [b.1 1 5 (by omega) (by omega) (by omega)]; exact e5
      · rw [b.1 x y x1 (by omega) x3]
        by_cases x5 : x = 1
        · subst x5
          exact e y (fun z => x4 ⟨rfl, z⟩)
        · exact hs.1 x y (by simp [x5])
      · rw [b.2.1 b' y1 y2]; exact hs.1 2 b' (by simp)
      · rw [b.2.2 x y x1, hs.2]
  exact key 0 (Nat.zero_le _) h (oSame_rf _ _) (fun _ _ => rfl) c3
theorem p_loose {h k : oh_St} {v : Int32} (H : R h k) : Both jX7_loose jX8_loose [.int v] h k := by
  intro d
  obtain ⟨B, b1, b2, b3, r⟩ := id H
  have b39 := b3.1
  refine mX7_loose (rung2 (l := true) H b1 b2 b3 jX8_loose (fun K q => mX8_loose q) (fun Q v3 h => wX7_loose_18 (d + 99) Q v v3 h) ?_)
  rintro n rfl n1 n30 op hb mst
  have hl := cB_law (u := 1) b1 r.1 (by omega)
  have key : ∀ i, i ≤ n → ∀ h', (∀ a b, a ≠ 2 → a ≠ 6 → a ≠ 14 → ¬ (a = 1 ∧ b = 5) → h'.1 a b = h.1 a b) → (∀ b, b ≠ 9 → b ≠ 10 → h'.1 2 b = h.1 2 b) → (∀ a b, ¬ (a = 2 ∧ b = 8) → h'.2 a b = h.2 a b) → cI h' 2 (iT true (bF B) (cOf 1 (bX B 1)) (bS B, bD B, bZ B) i) → wX7_loose_18 (d + 99) (oh_r1 (fun x h' => MM (d + 100) jX8_loose [.ref 0, .int (nI n)] k (oh_r1 (fun y k' => x = y ∧ R h' k')))) (nI n) (nI i) h' := by
    refine oh_up (fun i hi ih => ?_) ?_
    · intro h' f1 f2 f3 c
      have hl' : lawIs h' 11 1 (cOf 1 (bX B 1)) := ⟨(f1 11 0 (by omega) (by omega) (by omega) (by omega)).trans hl.1, hl.2.1, rowIs_c hl.2.2.1 (fun a b x => f1 a b (by omega) (by omega) (by omega) (by omega)), hl.2.2.2⟩
      refine bX7_loose_18 (br_f (nI_ge hi (by omega)) (cLoose c ((f2 6 (by omega) (by omega)).trans b1.2.2.1) hl' (by rw [iT_B]; show sB (bS B) + i + 1 < 1000; omega) (fun h2 c2 g1 g2 g3 => ?_)))
      rw [nI_1]
      exact ih h2 (fun a b x y z w => (g1 a b x y z w).trans (f1 a b x y z w)) (fun b x y => (g2 b x y).trans (f2 b x y)) (fun a b x => (g3 a b x).trans (f3 a b x)) c2
    · intro h' f1 f2 f3 c
      refine bX7_loose_18 (br_t (nI_le (Nat.le_refl _) (by omega)) (mst _ (sX8_goesOn (l := true) (mI_B b1 b2 op) b2.2.2.2.2.2.2.1 b2.2.2.2.1 (by show sB (bS B) + n < 1000; omega) (fun k' rk m => ⟨om_in (n := 3) (by omega), ?_⟩))))
      rw [om_3]
      have e : h'.1 2 9 = nI (sQ (iT true (bF B) (cOf 1 (bX B 1)) (bS B, bD B, bZ B) n).1) := c.1.2.2.2.2.1
      exact ⟨e.trans m.1.2.2.2.1.symm, R_it b1 b2 b3 r op hb c f1 f2 f3 m rk⟩
  exact key 0 (Nat.zero_le _) h (fun _ _ _ _ _ _ => rfl) (fun _ _ _ => rfl) (fun _ _ _ => rfl) (cI_B b1)
theorem sX4_take {d : Nat} {K : oh_St → Prop} {h : oh_St} {o o2 : Nat} (ho : (o = 2 ∧ o2 = 20) ∨ (o = 20 ∧ o2 = 2) ∨ (o = 37 ∧ o2 = 2)) (hb : ∃ b, h.1 o2 7 = oh_b b)
    (q : ∀ h', (∀ a b, a ∉ [o, o + 1, o + 2, o + 3, o + 4] → h'.1 a b = h.1 a b) → (∀ b, b = 0 ∨ b = 5 ∨ b = 6 ∨ b = 7 ∨ b = 9 ∨ b = 10 → h'.1 o b = h.1 o2 b) → (∀ j i, 1 ≤ j → j ≤ 4 → i < 6 → h'.1 (o + j) i = h.1 (o2 + j) i) → h'.2 o 8 = h.2 o2 8 → (∀ a b, ¬ (a = o ∧ b = 8) → h'.2 a b = h.2 a b) → K h') : CM (d + 1) jX4_take [.ref o, .ref o2] h (oh_r0 K) := by
  have dis : ∀ j j', j ≤ 4 → j' ≤ 4 → o + j ≠ o2 + j' := by omega
  refine mX4_take ho ?_
  have key : ∀ i, i ≤ 6 → ∀ h', (∀ a b, a ∉ [o, o + 1, o + 2, o + 3, o + 4] → h'.1 a b = h.1 a b) → h'.1 o 0 = h.1 o2 0 → (∀ j t, 1 ≤ j → j ≤ 4 → t < i → h'.1 (o + j) t = h.1 (o2 + j) t) → h'.2 = h.2 → wX4_take_10 d (oh_r0 K) o o2 (nI i) h' := by
    refine oh_up (fun i hi ih => ?_) ?_
    · intro h' f c0 cc s
      have i6 : vp_in (nI i) 6 := oh_in hi (by omega)
      refine bX4_take_10 ho (br_f (nI_ge (b := 6) hi (by omega)) ⟨i6, i6, i6, i6, i6, i6, i6, i6, ?_⟩)
      rw [oh_cl (by omega), nI_1]
      have s1 : ∀ j, 1 ≤ j → j ≤ 4 → h'.1 (o2 + j) i = h.1 (o2 + j) i := fun j a b => f _ _ (by
        have := dis 0 j (by omega) b; have := dis 1 j (by omega) b; have := dis 2 j (by omega) b; have := dis 3 j (by omega) b; have := dis 4 j (by omega) b
        simp; omega)
      refine ih _ (fun a b x => ?_) ?_ (fun j t j1 j4 ht => ?_) s
      · simp at x
        simp only [oh_g1]
        rw [if_neg (by omega), if_neg (by omega), if_neg (by omega), if_neg (by omega)]
        exact f a b (by simp; omega)
      · simp only [oh_g1]
        rw [if_neg (by omega), if_neg (by omega), if_neg (by omega), if_neg (by omega)]
        exact c0
      · simp only [oh_g1]
        have d1 := dis 1 2 (by omega) (by omega)
        have d2 := dis 1 3 (by omega) (by omega)
        have d3 := dis 1 4 (by omega) (by omega)
        have d4 := dis 2 3 (by omega) (by omega)
        have d5 := dis 2 4 (by omega) (by omega)
        have d6 := dis 3 4 (by omega) (by omega)
        have : j = 1 ∨ j = 2 ∨ j = 3 ∨ j = 4 := by omega
        by_cases z : t = i
        · subst z
          rcases this with rfl | rfl | rfl | rfl
          · rw [if_neg (by omega), if_neg (by omega), if_neg (by omega), if_pos ⟨rfl, rfl⟩]; exact s1 1 (by omega) (by omega)
          · rw [if_neg (by omega), if_neg (by omega), if_pos ⟨rfl, rfl⟩, if_neg (by omega)]; exact s1 2 (by omega) (by omega)
          · rw [if_neg (by omega), if_pos ⟨rfl, rfl⟩, if_neg (by omega), if_neg (by omega)]; exact s1 3 (by omega) (by omega)
          · rw [if_pos ⟨rfl, rfl⟩, if_neg (by omega), if_neg (by omega), if_neg (by omega)]; exact s1 4 (by omega) (by omega)
        · rw [if_neg (by omega), if_neg (by omega), if_neg (by omega), if_neg (by omega)]
          exact cc j t j1 j4 (by omega)
    · intro h' f c0 cc s
      have no : o ≠ o2 := by omega
      have g : ∀ b, h'.1 o2 b = h.1 o2 b := fun b => f _ _ (by
        have := dis 0 0 (by omega) (by omega); have := dis 1 0 (by omega) (by omega); have := dis 2 0 (by omega) (by omega); have := dis 3 0 (by omega) (by omega); have := dis 4 0 (by omega) (by omega)
        simp; omega)
      refine bX4_take_10 ho (br_t (nI_le (Nat.le_refl 6) (by omega)) ⟨?_, q _ (fun a b x => ?_) (fun b x => ?_) (fun j i j1 j4 hi => ?_) ?_ (fun a b x => ?_)⟩)
      · obtain ⟨b, hb⟩ := hb
        simp only [oh_g1]
        rw [if_neg (by omega), if_neg (by omega), g, hb]
        exact oh_b_01 b
      · simp at x
        simp only [oh_g1, oh_g3]
        rw [if_neg (by omega), if_neg (by omega), if_neg (by omega), if_neg (by omega), if_neg (by omega)]
        exact f a b (by simp; omega)
      · have no' : ¬ o2 = o := fun e => no e.symm
        simp only [oh_g1, oh_g3, no', false_and, if_false, true_and]
        rcases x with rfl | rfl | rfl | rfl | rfl | rfl
        · simp; exact c0
        · simp; exact g 5
        · simp; exact g 6
        · simp; exact g 7
        · simp; exact g 9
        · simp; exact g 10
      · simp only [oh_g1, oh_g3]
        rw [if_neg (by omega), if_neg (by omega), if_neg (by omega), if_neg (by omega), if_neg (by omega)]
        exact cc j i j1 j4 hi
      · rw [oh_g2, oh_g2, oh_g4, if_pos ⟨rfl, rfl⟩, oh_g2, oh_g2, oh_g2, s]
      · rw [oh_g2, oh_g2, oh_g4, if_neg x, oh_g2, oh_g2, oh_g2, s]
  refine key 0 (by omega) _ (fun a b x => ?_) ?_ (fun j t _ _ ht => absurd ht (by omega)) rfl
  · simp at x
    rw [oh_g1, if_neg (by omega)]
  · rw [oh_g1, if_pos ⟨rfl, rfl⟩]
/-- the scene ahead begins as it is now -/
theorem sX7_startAhead {d : Nat} {K : oh_St → Prop} {h : oh_St} {B : oBk} (b1 : cB h 1 B) (q : ∀ h', (∀ a b, ¬ (37 ≤ a ∧ a ≤ 41) → h'.1 a b = h.1 a b) → (∀ a b, ¬ (a = 37 ∧ b = 8) → h'.2 a b = h.2 a b) → cI h' 37 (bS B, bD B, bZ B) → h'.1 37 6 = bF B → K h') : CM (d + 2) jX7_startAhead [.ref 0] h (oh_r0 K) := by
  obtain ⟨h1, h2, h3, h4, h5, h6, h7, h8, h9⟩ := id b1
  refine mX7_startAhead (sX4_take (by omega) ⟨_, h2⟩ (fun h' f c cc s ss => q h' (fun a b x => f a b (by simp; omega)) ss ⟨⟨?_, fun p hp => ⟨?_, ?_, ?_⟩, ?_, ?_, ?_, ?_, h1.2.2.2.2.2.2⟩, fun i hi => ?_, ?_⟩ ?_))
  · rw [c 0 (by omega)]; exact h1.1
  · rw [cc 1 p (by omega) (by omega) hp]; exact (h1.2.1 p hp).1
  · rw [cc 2 p (by omega) (by omega) hp]; exact (h1.2.1 p hp).2.1
  · rw [cc 3 p (by omega) (by omega) hp]; exact (h1.2.1 p hp).2.2
  · rw [c 5 (by omega)]; exact h1.2.2.1
  · rw [s]; exact h1.2.2.2.1
  · rw [c 9 (by omega)]; exact h1.2.2.2.2.1
  · rw [c 10 (by omega)]; exact h1.2.2.2.2.2.1
  · rw [cc 4 i (by omega) (by omega) hi]; exact h4 i hi
  · rw [f 1 5 (by simp)]; exact h9
  · rw [c 6 (by omega)]; exact h3

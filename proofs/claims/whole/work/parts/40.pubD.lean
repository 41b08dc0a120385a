/-! BOTH SIDES: man -/
def sNewE (S : oS) (i : Nat) : Nat := if i = sN S then 2 ^ sN S - 1 else if i < sN S then sE S i ||| 2 ^ sN S else sE S i
def sNew (S : oS) (a b : Nat) : oS := (sN S + 1, fun i => if i = sN S then a else sK S i, fun i => if i = sN S then b else sM S i, sNewE S, sW S, sP S, sQ S, sB S)
theorem sNew_ok {S : oS} (h : sOk S) (hn : sN S < 6) {a b : Nat} (ha : a ≤ 6) (hb : b ≤ 9) : sOk (sNew S a b) := by
  obtain ⟨h1, h2, h3, h4, h5, h6⟩ := h
  have p1 : 2 ^ sN S ≤ 2 ^ 5 := Nat.pow_le_pow_right (by omega) (by omega)
  have p2 : 2 ^ (sN S + 1) = 2 * 2 ^ sN S := by rw [Nat.pow_succ, Nat.mul_comm]
  have p0 := Nat.two_pow_pos (sN S)
  refine ⟨by show sN S + 1 ≤ 6; omega, fun i hi => ⟨?_, ?_, ?_⟩, ?_, ?_, ?_, h6⟩
  · have := (h2 i hi).1
    show (if i = sN S then a else sK S i) ≤ 6
    split <;> omega
  · have := (h2 i hi).2.1
    show (if i = sN S then b else sM S i) ≤ 9
    split <;> omega
  · have := (h2 i hi).2.2
    show sNewE S i < 64
    unfold sNewE
    split
    · omega
    · split
      · exact Nat.or_lt_two_pow (n := 6) (by omega) (by omega)
      · exact this
  · show sW S < 2 ^ (sN S + 1)
    omega
  · show sP S < 2 ^ 2 ^ (sN S + 1)
    exact Nat.lt_of_lt_of_le h4 (Nat.pow_le_pow_right (by omega) (by omega))
  · show sQ S < 2 ^ (sN S + 1)
    omega
theorem sX4_addMan {d : Nat} {K : Int32 → oh_St → Prop} {h : oh_St} {S : oS} {a : Nat} (hc : cSc h 2 S) (hn : sN S < 6) (ha : a < 70) (q : ∀ h', (∀ x y, ¬ (x = 2 ∧ y = 0) → x ≠ 3 → x ≠ 4 → x ≠ 5 → h'.1 x y = h.1 x y) → h'.2 = h.2 → cSc h' 2 (sNew S (a / 10) (a % 10)) → K (nI (sN S)) h') : CM (d + 2) jX4_addMan [.ref 2, .int (nI a)] h (oh_r1 K) := by
  obtain ⟨e1, e2⟩ := om_div a ha
  refine mX4_addMan ?_
  rw [hc.1]
  have hok := hc.2.2.2.2.2.2
  have p1 : 2 ^ sN S ≤ 2 ^ 5 := Nat.pow_le_pow_right (by omega) (by omega)
  have p0 := Nat.two_pow_pos (sN S)
  have key : ∀ i, i ≤ sN S → ∀ h', oSame h h' [5] → (∀ j, j < 6 → h'.1 5 j = nI (if j < i then sE S j ||| 2 ^ sN S else sE S j)) → wX4_addMan_11 (d + 1) (oh_r1 K) (nI a) (nI (sN S)) (nI i) h' := by
    refine oh_up (fun i hi ih => ?_) ?_
    · intro h' hs hE
      refine bX4_addMan_11 (br_f (nI_ge hi (by omega)) ⟨oh_in (by omega) (by omega), oh_in (by omega) (by omega), ?_⟩)
      have hEi := hE i (by omega)
      rw [if_neg (by omega)] at hEi
      rw [oh_cl (by omega), hEi, ob_pow (by omega), ob_or, nI_1]
      refine ih _ (oSame_up hs (by simp)) (fun j hj => ?_)
      rw [oh_g1]
      by_cases z : j = i
      · subst z
        rw [if_pos ⟨rfl, rfl⟩, if_pos (by omega)]
      · rw [if_neg (fun y => z y.2), hE j hj]
        by_cases z2 : j < i
        · rw [if_pos z2, if_pos (by omega)]
        · rw [if_neg z2, if_neg (by omega)]
    · intro h' hs hE
      have iN : vp_in (nI (sN S)) 6 := oh_in hn (by omega)
      refine bX4_addMan_11 (br_t (nI_le (Nat.le_refl _) (by omega)) ⟨by decide, iN, by decide, iN, iN, ?_⟩)
      rw [oh_cl (by omega), e2, e1, ob_pow (by omega), show (1 : Int32) = nI 1 from rfl, om_sub (by omega), nI_add]
      obtain ⟨c1, c2, c3, c4, c5, c6, c7⟩ := id hc
      have o : ∀ x y, x ≠ 5 → h'.1 x y = h.1 x y := fun x y z => hs.1 x y (by simp [z])
      refine q _ (fun x y z1 z2 z3 z4 => ?_) hs.2 ⟨?_, fun j hj => ⟨?_, ?_, ?_⟩, ?_, ?_, ?_, ?_, sNew_ok hok hn (by omega) (by omega)⟩
      · rw [oh_g1, if_neg z1, oh_g1, if_neg (fun w => z4 w.1), oh_g1, if_neg (fun w => z3 w.1), oh_g1, if_neg (fun w => z2 w.1)]
        exact o x y z4
      · rw [oh_g1, if_pos ⟨rfl, rfl⟩]; rfl
      · show _ = nI (if j = sN S then a / 10 else sK S j)
        rw [oh_g1, if_neg (by omega), oh_g1, if_neg (by omega), oh_g1, if_neg (by omega), oh_g1]
        by_cases z : j = sN S
        · rw [if_pos ⟨rfl, z⟩, if_pos z]
        · rw [if_neg (fun y => z y.2), if_neg z, o _ _ (by omega)]; exact (c2 j hj).1
      · show _ = nI (if j = sN S then a % 10 else sM S j)
        rw [oh_g1, if_neg (by omega), oh_g1, if_neg (by omega), oh_g1]
        by_cases z : j = sN S
        · rw [if_pos ⟨rfl, z⟩, if_pos z]
        · rw [if_neg (fun y => z y.2), if_neg z, oh_g1, if_neg (by omega), o _ _ (by omega)]; exact (c2 j hj).2.1
      · show _ = nI (sNewE S j)
        unfold sNewE
        rw [oh_g1, if_neg (by omega), oh_g1]
        by_cases z : j = sN S
        · rw [if_pos ⟨rfl, z⟩, if_pos z]
        · rw [if_neg (fun y => z y.2), if_neg z, oh_g1, if_neg (by omega), oh_g1, if_neg (by omega)]; exact hE j hj
      · rw [oh_g1, if_neg (by omega), oh_g1, if_neg (by omega), oh_g1, if_neg (by omega), oh_g1, if_neg (by omega), o _ _ (by omega)]; exact c3
      · show h'.2 2 8 = _
        rw [hs.2]; exact c4
      · rw [oh_g1, if_neg (by omega), oh_g1, if_neg (by omega), oh_g1, if_neg (by omega), oh_g1, if_neg (by omega), o _ _ (by omega)]; exact c5
      · rw [oh_g1, if_neg (by omega), oh_g1, if_neg (by omega), oh_g1, if_neg (by omega), oh_g1, if_neg (by omega), o _ _ (by omega)]; exact c6
  have go := key 0 (Nat.zero_le _) h (oSame_rf _ _) (fun j hj => by rw [if_neg (by omega)]; exact (hc.2.1 j hj).2.2)
  exact mJ9_min_7cf53 ⟨fun z => absurd z (nI_nlt (a := 5) (by omega) (by omega)), fun _ => go⟩
theorem mMan {d : Nat} {K : Int32 → oh_St → Prop} {k : oh_St} {S : oS} {a : Nat} (hk : mS0 k S) (hok : sOk S) (hn : sN S < 6) (ha : a < 70) (q : ∀ k', (∀ x y, x ≠ 1 → k'.1 x y = k.1 x y) → (∀ y, y ≠ 0 → ¬ (8 ≤ y ∧ y < 38) → k'.1 1 y = k.1 1 y) → (∀ j, j < 6 → k'.1 1 (8 + 5 * j + 4) = if j = sN S then 0 else k.1 1 (8 + 5 * j + 4)) → k'.2 = k.2 → mS0 k' (sNew S (a / 10) (a % 10)) → K (nI (sN S)) k') : wX8_man_57 (d + 1) (oh_r1 K) (nI a) (nI (sN S)) (0 : Int32) k := by
  obtain ⟨e1, e2⟩ := om_div a ha
  have p1 : 2 ^ sN S ≤ 2 ^ 5 := Nat.pow_le_pow_right (by omega) (by omega)
  have p0 := Nat.two_pow_pos (sN S)
  have key : ∀ i, i ≤ sN S → ∀ k', oSame k k' [1] → (∀ b, (∀ j, j < 6 → b ≠ 8 + 5 * j + 3) → k'.1 1 b = k.1 1 b) → (∀ j, j < 6 → k'.1 1 (8 + 5 * j + 3) = nI (if j < i then sE S j ||| 2 ^ sN S else sE S j)) → wX8_man_57 (d + 1) (oh_r1 K) (nI a) (nI (sN S)) (nI i) k' := by
    refine oh_up (fun i hi ih => ?_) ?_
    · intro k' hs hb hE
      have hEi := hE i (by omega)
      rw [if_neg (by omega)] at hEi
      refine bX8_man_57 (br_f (nI_ge hi (by omega)) (sX8_of (w := 3) (by omega) (by omega) ?_))
      rw [hEi, ob_pow (by omega), ob_or, nI_1]
      refine sX8_becomes (w := 3) (by omega) (by omega) (ih _ (oSame_up hs (by simp)) (fun b z => ?_) (fun j hj => ?_))
      · rw [oh_g1, if_neg (fun y => z i (by omega) y.2)]; exact hb b z
      · rw [oh_g1]
        by_cases z : j = i
        · subst z
          rw [if_pos ⟨rfl, rfl⟩, if_pos (by omega)]
        · rw [if_neg (by omega), hE j hj]
          by_cases z2 : j < i
          · rw [if_pos z2, if_pos (by omega)]
          · rw [if_neg z2, if_neg (by omega)]
    · intro k' hs hb hE
      refine bX8_man_57 (br_t (nI_le (Nat.le_refl _) (by omega)) ⟨by decide, ?_⟩)
      rw [e2, ob_pow (by omega), show (1 : Int32) = nI 1 from rfl, om_sub (by omega)]
      refine sX8_becomes (w := 0) hn (by omega) ⟨by decide, sX8_becomes (w := 1) hn (by omega) (sX8_becomes (w := 2) hn (by omega) (sX8_becomes (w := 3) hn (by omega) (sX8_becomes (w := 4) hn (by omega) ⟨om_in (n := 0) (by omega), om_in (n := 0) (by omega), ?_⟩)))⟩
      rw [om_0, e1]
      have o : ∀ b, (∀ j, j < 6 → b ≠ 8 + 5 * j + 3) → k'.1 1 b = k.1 1 b := hb
      obtain ⟨m1, m2, m3, m4⟩ := hk
      have r0 : (oh_upi (oh_upi (oh_upi (oh_upi (oh_upi k' 1 (8 + 5 * sN S + 0) (nI (a / 10))) 1 (8 + 5 * sN S + 1) (nI (a % 10))) 1 (8 + 5 * sN S + 2) 0) 1 (8 + 5 * sN S + 3) (nI (2 ^ sN S - 1))) 1 (8 + 5 * sN S + 4) 0).1 1 0 = nI (sN S) := by
        simp only [oh_g1]
        rw [if_neg (by omega), if_neg (by omega), if_neg (by omega), if_neg (by omega), if_neg (by omega), o 0 (by omega)]
        exact m1
      rw [r0, nI_add]
      refine q _ (fun x y z => ?_) (fun y z1 z2 => ?_) (fun j hj => ?_) ?_ ⟨?_, fun j hj => ⟨?_, ?_, ?_, ?_⟩, ?_, ?_⟩
      · simp only [oh_g1]
        simp only [z, false_and, if_false]
        exact hs.1 x y (by simp [z])
      · simp only [oh_g1]
        rw [if_neg (by omega), if_neg (by omega), if_neg (by omega), if_neg (by omega), if_neg (by omega), if_neg (by omega)]
        exact o y (by omega)
      · simp only [oh_g1]
        rw [if_neg (by omega)]
        by_cases z : j = sN S
        · rw [if_pos ⟨trivial, by omega⟩, if_pos z]
        · rw [if_neg (by omega), if_neg (by omega), if_neg (by omega), if_neg (by omega), if_neg (by omega), if_neg z]
          exact o _ (by omega)
      · exact hs.2
      · rw [oh_g1, if_pos ⟨rfl, rfl⟩]; rfl
      · show _ = nI (if j = sN S then a / 10 else sK S j)
        simp only [oh_g1]
        rw [if_neg (by omega), if_neg (by omega), if_neg (by omega), if_neg (by omega), if_neg (by omega)]
        by_cases z : j = sN S
        · rw [if_pos ⟨trivial, by omega⟩, if_pos z]
        · rw [if_neg (by omega), if_neg z, o _ (by omega)]; exact (m2 j hj).1
      · show _ = nI (if j = sN S then a % 10 else sM S j)
        simp only [oh_g1]
        rw [if_neg (by omega), if_neg (by omega), if_neg (by omega), if_neg (by omega)]
        by_cases z : j = sN S
        · rw [if_pos ⟨trivial, by omega⟩, if_pos z]
        · rw [if_neg (by omega), if_neg (by omega), if_neg z, o _ (by omega)]; exact (m2 j hj).2.1
      · show _ = oh_b ((sW S).testBit j)
        simp only [oh_g1]
        rw [if_neg (by omega), if_neg (by omega), if_neg (by omega)]
        by_cases z : j = sN S
        · rw [if_pos ⟨trivial, by omega⟩, z, ob_hi hok.2.2.1 (Nat.le_refl _)]; rfl
        · rw [if_neg (by omega), if_neg (by omega), if_neg (by omega), o _ (by omega)]; exact (m2 j hj).2.2.1
      · show _ = nI (sNewE S j)
        unfold sNewE
        simp only [oh_g1]
        rw [if_neg (by omega), if_neg (by omega)]
        by_cases z : j = sN S
        · rw [if_pos ⟨trivial, by omega⟩, if_pos z]
        · rw [if_neg (by omega), if_neg (by omega), if_neg (by omega), if_neg (by omega), if_neg z]; exact hE j hj
      · simp only [oh_g1]
        rw [if_neg (by omega), if_neg (by omega), if_neg (by omega), if_neg (by omega), if_neg (by omega), if_neg (by omega), o _ (by omega)]; exact m3
      · simp only [oh_g1]
        rw [if_neg (by omega), if_neg (by omega), if_neg (by omega), if_neg (by omega), if_neg (by omega), if_neg (by omega), o _ (by omega)]; exact m4
  exact key 0 (Nat.zero_le _) k (oSame_rf _ _) (fun b _ => rfl) (fun j hj => by rw [if_neg (by omega)]; exact (hk.2.1 j hj).2.2.2)
theorem p_man {h k : oh_St} {v : Int32} (H : R h k) : Both jX7_man jX8_man [.int v] h k := by
  intro d
  obtain ⟨B, b1, b2, b3, r⟩ := id H
  obtain ⟨h1, h2, h3, h4, h5, h6, h7, h8, h9⟩ := id b1
  obtain ⟨k1, k2, k3, k4, k5, k6, k7, k8, k9, k10⟩ := id b2
  have hok := h1.2.2.2.2.2.2
  have hn := hok.1
  have h27 : h.1 2 7 = oh_b (bO B) := h2
  have h20 : h.1 2 0 = nI (sN (bS B)) := h1.1
  by_cases c2 : oIn 70 v
  · obtain ⟨a, ha, rfl⟩ := c2
    refine mX7_man (mX7_isKindWithNumber (br_f (nI_pos (by omega)) (br_f (nI_nlt (a := 69) (by omega) (by omega)) ⟨oh_i1, oh_nt (by decide) ?_⟩)))
    rw [h27, h20]
    have pre : ∀ (K : Int32 → oh_St → Prop), MM (d + 99) jX8_isOpen [.ref 0] k (oh_r1 (fun x4 h3 => ((x4 = 0 → (vp_in (0 : Int32) 210 ∧ ((¬ (h3.1 1 (0 : Int32).toNatClampNeg) = (6 : Int32) → (vp_in (0 : Int32) 210 ∧ wX8_man_57 (d + 99) (oh_r1 K) (nI a) (h3.1 1 (0 : Int32).toNatClampNeg) (0 : Int32) h3)) ∧ ((h3.1 1 (0 : Int32).toNatClampNeg) = (6 : Int32) → MM (d + 99) jX8_finds [.ref 0, .int (4 : Int32)] h3 (oh_r1 (fun x6 h5 => oh_r1 K (some (.int x6)) h5)))))) ∧ (¬ x4 = 0 → MM (d + 99) jX8_finds [.ref 0, .int (3 : Int32)] h3 (oh_r1 (fun x8 h7 => oh_r1 K (some (.int x8)) h7)))))) → MM (d + 100) jX8_man [.ref 0, .int (nI a)] k (oh_r1 K) := fun K q => mX8_man (sX8_inT 0 69 (by decide) (by decide) (nI_pos (by omega)) (nI_nlt (a := 69) (by omega) (by omega)) (oh_nt (by decide) q))
    refine oh_bz (fun z => ?_) (fun z => sX7_failed 3 (by decide) (by omega) (by omega) (pre _ (sX8_isOpen k3 ?_)))
    · by_cases n6 : sN (bS B) < 6
      · refine br_t (nI_lt (b := 6) n6 (by omega)) (sX4_addMan h1 n6 ha (fun h' o o2 c => pre _ (sX8_isOpen k3 ?_)))
        rw [z]
        refine br_t rfl ⟨om_in (n := 0) (by omega), ?_⟩
        rw [om_0, k1.1]
        refine oh_nt (fun y => by have := (nI_eq (b := 6) (by omega) (by omega)).mp y; omega) ⟨om_in (n := 0) (by omega), mMan k1 hok n6 ha (fun k' o3 o4 o5 o6 m => ⟨rfl, ?_⟩)⟩
        refine R_sc b1 b2 b3 r (sNew (bS B) (a / 10) (a % 10)) (bO B) (bF B) (bD B) (bZ B) ⟨c, ?_, ?_, fun i hi => ?_, ?_⟩ (fun a b x => ?_) ⟨m, (fun y => by rw [z] at y; cases y), ?_, ?_, fun i hi => ?_, ?_⟩ (fun b x => ?_) ⟨b3.1, fun i hi hi6 => b3.2.2.1 i (by show sN (bS B) ≤ i; have : sN (bS B) + 1 ≤ i := hi; omega) hi6, b3.2.2.2⟩ ⟨fun a b x => o a b (by omega) (by omega) (by omega) (by omega), o 7 0 (by omega) (by omega) (by omega) (by omega), o 11 0 (by omega) (by omega) (by omega) (by omega), by rw [o2]⟩ ⟨fun a b x => o3 a b (by omega), by rw [o6]⟩
        · rw [o 2 7 (by omega) (by omega) (by omega) (by omega)]; exact h2
        · rw [o 2 6 (by omega) (by omega) (by omega) (by omega)]; exact h3
        · rw [o 6 i (by omega) (by omega) (by omega) (by omega)]; exact h4 i hi
        · rw [o 1 5 (by omega) (by omega) (by omega) (by omega)]; exact h9
        · exact o a b (by omega) (by omega) (by omega) (by omega)
        · rw [o4 1 (by omega) (by omega)]; exact k3
        · rw [o4 4 (by omega) (by omega)]; exact k4
        · rw [o5 i hi]
          by_cases y : i = sN (bS B)
          · rw [if_pos y]; exact (b3.2.2.1 i (by omega) hi).symm
          · rw [if_neg y]; exact k5 i hi
        · rw [o4 5 (by omega) (by omega)]; exact k10
        · exact o4 b (by omega) (by omega)
      · have e6 : sN (bS B) = 6 := by omega
        refine br_f (nI_nlt (b := 6) (by omega) (by omega)) (sX7_failed 4 (by decide) (by omega) (by omega) (pre _ (sX8_isOpen k3 ?_)))
        rw [z]
        refine br_t rfl ⟨om_in (n := 0) (by omega), ?_⟩
        rw [om_0, k1.1, e6]
        exact oh_nf rfl (sX8_finds 4 (by omega) ⟨by decide, R_fail H (by omega)⟩)
    · rw [z]
      exact br_f (by decide) (sX8_finds 3 (by omega) ⟨by decide, R_fail H (by omega)⟩)
  · have c3 := oIn_out (n := 69) (by omega) c2
    have M : MM (d + 100) jX8_man [.ref 0, .int v] k (oh_r1 (fun y k' => (-1000000001 : Int32) = y ∧ R (oh_upi h 59 1 (h.1 59 1 + 1)) k')) := mX8_man (sX8_inF 0 69 (by decide) (by decide) c3 (oh_nf rfl (sX8_finds 1 (by omega) ⟨by decide, R_fail H (by omega)⟩)))
    refine mX7_man (mX7_isKindWithNumber ⟨fun _ => ⟨oh_i0, oh_nf rfl (sX7_failed 1 (by decide) (by omega) (by omega) M)⟩, fun y => ⟨fun _ => ⟨oh_i0, oh_nf rfl (sX7_failed 1 (by decide) (by omega) (by omega) M)⟩, fun y2 => ?_⟩⟩)
    rcases c3 with z | z
    · exact absurd z y
    · exact absurd z y2

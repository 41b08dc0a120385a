/-! BOTH SIDES: count, close, possible, thinks -/
theorem sX8_whyN {d : Nat} {K : Int32 → oh_St → Prop} {k : oh_St} (q : K 1 k) : MM (d + 2) jX8_why [.ref 0, .int (0 : Int32)] k (oh_r1 K) := mX8_why (oh_nf rfl q)
theorem sX8_whyY {d : Nat} {K : Int32 → oh_St → Prop} {k : oh_St} {b : Bool} (hb : k.1 1 1 = oh_b b) (q1 : b = true → K 0 k) (q0 : b = false → K 3 k) : MM (d + 2) jX8_why [.ref 0, .int (1 : Int32)] k (oh_r1 K) := mX8_why (oh_nt (by decide) (sX8_isOpen hb (oh_bn q1 q0)))
theorem p_count {h k : oh_St} {v : Int32} (H : R h k) : Both jX7_count jX8_count [.int v] h k := by
  intro d
  obtain ⟨B, b1, b2, b3, r⟩ := id H
  obtain ⟨h1, h2, h3, h4, h5, h6, h7, h8, h9⟩ := id b1
  obtain ⟨k1, k2, k3, k4, k5, k6, k7, k8, k9, k10⟩ := id b2
  obtain ⟨tr, t1, t2, t3⟩ := r.2.2.2.2.1
  have hok := h1.2.2.2.2.2.2
  have h27 : h.1 2 7 = oh_b (bO B) := h2
  have h28 : h.2 2 8 = lN (sP (bS B)) := h1.2.2.2.1
  have e0 : h.1 2 0 = k.1 1 0 := h1.1.trans k1.1.symm
  have e2 : h.1 2 10 = k.1 1 2 := h1.2.2.2.2.2.1.trans k1.2.2.2.symm
  have e3 : h.1 2 9 = k.1 1 3 := h1.2.2.2.2.1.trans k1.2.2.1.symm
  have e5 : h.1 2 6 = k.1 1 4 := h3.trans k4.symm
  have e6 : h.1 15 1 = k.1 1 6 := by
    have := h7.1
    rw [List.length_map] at this
    exact this.trans k8.1.symm
  have e7 : h.1 17 1 = k.1 1 7 := h8.1.trans k9.1.symm
  have e8 : h.1 48 1 = k.1 0 20 := t1.1.trans t2.symm
  have e9 : h.1 1 5 = k.1 1 5 := h9.trans k10.symm
  by_cases c : oIn 10 v
  · obtain ⟨n, hn, rfl⟩ := c
    have ne : ∀ {j : Nat}, j < 10 → n ≠ j → ¬ nI n = nI j := fun x y z => y ((nI_eq (by omega) (by omega)).mp z)
    have : n = 0 ∨ n = 1 ∨ n = 2 ∨ n = 3 ∨ n = 4 ∨ n = 5 ∨ n = 6 ∨ n = 7 ∨ n = 8 ∨ n = 9 := by omega
    rcases this with rfl | rfl | rfl | rfl | rfl | rfl | rfl | rfl | rfl | rfl
    · exact mX7_count (br_t rfl (mX8_count (br_t rfl ⟨om_in (n := 0) (by omega), e0, H⟩)))
    · refine mX7_count (br_f (by decide) (br_t rfl ?_))
      rw [h27]
      refine oh_bz (fun z => mX8_count (br_f (by decide) (br_t rfl ⟨om_in (n := 1) (by omega), ?_, H⟩))) (fun z => mX8_count (br_f (by decide) (br_t rfl ⟨om_in (n := 1) (by omega), ?_, H⟩)))
      · rw [om_1, k3, z]; rfl
      · rw [om_1, k3, z]; rfl
    · exact mX7_count (br_f (by decide) (br_f (by decide) (br_t rfl (mX8_count (br_f (by decide) (br_f (by decide) (br_t rfl ⟨om_in (n := 2) (by omega), e2, H⟩)))))))
    · exact mX7_count (br_f (by decide) (br_f (by decide) (br_f (by decide) (br_t rfl (mX8_count (br_f (by decide) (br_f (by decide) (br_f (by decide) (br_t rfl ⟨om_in (n := 3) (by omega), e3, H⟩)))))))))
    · refine mX7_count (br_f (by decide) (br_f (by decide) (br_f (by decide) (br_f (by decide) (br_t rfl ?_)))))
      rw [h28]
      refine sJ13_bitCount (sP_lt hok) (mX8_count (br_f (by decide) (br_f (by decide) (br_f (by decide) (br_f (by decide) (br_t rfl (sX8_isOpen k3 (oh_bz (fun z => ⟨?_, H⟩) (fun z => ?_)))))))))
      · rw [b3.2.2.2.1 z]
        decide
      · rw [k2 z]
        exact sX8_manyOf (sP_lt hok) ⟨rfl, H⟩
    · exact mX7_count (br_f (by decide) (br_f (by decide) (br_f (by decide) (br_f (by decide) (br_f (by decide) (br_t rfl (mX8_count (br_f (by decide) (br_f (by decide) (br_f (by decide) (br_f (by decide) (br_f (by decide) (br_t rfl ⟨om_in (n := 4) (by omega), e5, H⟩)))))))))))))
    · exact mX7_count (br_f (by decide) (br_f (by decide) (br_f (by decide) (br_f (by decide) (br_f (by decide) (br_f (by decide) (br_t rfl (mX8_count (br_f (by decide) (br_f (by decide) (br_f (by decide) (br_f (by decide) (br_f (by decide) (br_f (by decide) (br_t rfl ⟨om_in (n := 6) (by omega), e6, H⟩)))))))))))))))
    · exact mX7_count (br_f (by decide) (br_f (by decide) (br_f (by decide) (br_f (by decide) (br_f (by decide) (br_f (by decide) (br_f (by decide) (br_t rfl (mX8_count (br_f (by decide) (br_f (by decide) (br_f (by decide) (br_f (by decide) (br_f (by decide) (br_f (by decide) (br_f (by decide) (br_t rfl ⟨om_in (n := 7) (by omega), e7, H⟩)))))))))))))))))
    · exact mX7_count (br_f (by decide) (br_f (by decide) (br_f (by decide) (br_f (by decide) (br_f (by decide) (br_f (by decide) (br_f (by decide) (br_f (by decide) (br_t rfl (mX8_count (br_f (by decide) (br_f (by decide) (br_f (by decide) (br_f (by decide) (br_f (by decide) (br_f (by decide) (br_f (by decide) (br_f (by decide) (br_t rfl ⟨e8, H⟩)))))))))))))))))))
    · exact mX7_count (br_f (by decide) (br_f (by decide) (br_f (by decide) (br_f (by decide) (br_f (by decide) (br_f (by decide) (br_f (by decide) (br_f (by decide) (br_f (by decide) (br_t rfl (mX8_count (br_f (by decide) (br_f (by decide) (br_f (by decide) (br_f (by decide) (br_f (by decide) (br_f (by decide) (br_f (by decide) (br_f (by decide) (br_f (by decide) (br_t rfl ⟨om_in (n := 5) (by omega), e9, H⟩)))))))))))))))))))))
  · have ne : ∀ {j : Nat}, j < 10 → ¬ v = nI j := fun x y => c ⟨_, x, y⟩
    exact mX7_count (br_f (ne (j := 0) (by omega)) (br_f (ne (j := 1) (by omega)) (br_f (ne (j := 2) (by omega)) (br_f (ne (j := 3) (by omega)) (br_f (ne (j := 4) (by omega)) (br_f (ne (j := 5) (by omega)) (br_f (ne (j := 6) (by omega)) (br_f (ne (j := 7) (by omega)) (br_f (ne (j := 8) (by omega)) (br_f (ne (j := 9) (by omega)) (sX7_failed 1 (by decide) (by omega) (by omega) (mX8_count (br_f (ne (j := 0) (by omega)) (br_f (ne (j := 1) (by omega)) (br_f (ne (j := 2) (by omega)) (br_f (ne (j := 3) (by omega)) (br_f (ne (j := 4) (by omega)) (br_f (ne (j := 5) (by omega)) (br_f (ne (j := 6) (by omega)) (br_f (ne (j := 7) (by omega)) (br_f (ne (j := 8) (by omega)) (br_f (ne (j := 9) (by omega)) (sX8_finds 1 (by omega) ⟨by decide, R_fail H (by omega)⟩)))))))))))))))))))))))
theorem p_close {h k : oh_St} (H : R h k) : Both jX7_close jX8_close [] h k := by
  intro d
  obtain ⟨B, b1, b2, b3, r⟩ := id H
  obtain ⟨h1, h2, h3, h4, h5, h6, h7, h8, h9⟩ := id b1
  obtain ⟨k1, k2, k3, k4, k5, k6, k7, k8, k9, k10⟩ := id b2
  have hok := h1.2.2.2.2.2.2
  have h27 : h.1 2 7 = oh_b (bO B) := h2
  have h29 : h.1 2 9 = nI (sQ (bS B)) := h1.2.2.2.2.1
  have hq := sQ_lt hok
  refine mX7_close ?_
  rw [h27]
  refine oh_bn (fun z => ⟨oh_i0, ?_⟩) (fun z => sX7_failed 3 (by decide) (by omega) (by omega) (mX8_close (sX8_isOpen k3 ?_)))
  · have e9 : (oh_upl (oh_upi h 2 7 0) 2 8 0).1 2 9 = nI (sQ (bS B)) := by rw [oh_g3, oh_g1, if_neg (by omega)]; exact h29
    rw [e9]
    refine sJ6_bitCount hq (mX8_close (sX8_isOpen k3 ?_))
    rw [z]
    refine oh_nt (by decide) ⟨om_in (n := 1) (by omega), om_in (n := 3) (by omega), ?_⟩
    rw [om_1, om_3, oh_g1, if_neg (by omega), k1.2.2.1]
    refine sX8_ones (by omega) ⟨rfl, ?_⟩
    have p0 : sOk (sWith (bS B) 0) := ⟨hok.1, hok.2.1, hok.2.2.1, Nat.two_pow_pos _, hok.2.2.2.2⟩
    refine R_sc b1 b2 b3 r (sWith (bS B) 0) false (bF B) (bD B) (bZ B) ⟨⟨?_, fun i hi => ?_, ?_, ?_, ?_, ?_, p0⟩, ?_, ?_, fun i hi => ?_, ?_⟩ (fun a b x => ?_) ⟨⟨?_, fun i hi => ?_, ?_, ?_⟩, (fun y => by cases y), ?_, ?_, fun i hi => ?_, ?_⟩ (fun b x => ?_) ⟨b3.1, b3.2.2.1, fun _ => rfl, (fun y => by cases y)⟩ ⟨fun a b x => ?_, ?_, ?_, ?_⟩ (kF_up k 1 0)
    · rw [oh_g3, oh_g1, if_neg (by omega)]; exact h1.1
    · rw [oh_g3, oh_g1, if_neg (by omega), oh_g1, if_neg (by omega), oh_g1, if_neg (by omega)]; exact h1.2.1 i hi
    · rw [oh_g3, oh_g1, if_neg (by omega)]; exact h1.2.2.1
    · rw [oh_g4, if_pos ⟨rfl, rfl⟩]; rfl
    · rw [oh_g3, oh_g1, if_neg (by omega)]; exact h1.2.2.2.2.1
    · rw [oh_g3, oh_g1, if_neg (by omega)]; exact h1.2.2.2.2.2.1
    · rw [oh_g3, oh_g1, if_pos ⟨rfl, rfl⟩]; rfl
    · rw [oh_g3, oh_g1, if_neg (by omega)]; exact h3
    · rw [oh_g3, oh_g1, if_neg (by omega)]; exact h4 i hi
    · rw [oh_g3, oh_g1, if_neg (by omega)]; exact h9
    · rw [oh_g3, oh_g1, if_neg (by omega)]
    · rw [oh_g1, if_neg (by omega)]; exact k1.1
    · rw [oh_g1, if_neg (by omega), oh_g1, if_neg (by omega), oh_g1, if_neg (by omega), oh_g1, if_neg (by omega)]; exact k1.2.1 i hi
    · rw [oh_g1, if_neg (by omega)]; exact k1.2.2.1
    · rw [oh_g1, if_neg (by omega)]; exact k1.2.2.2
    · rw [oh_g1, if_pos ⟨rfl, rfl⟩]; rfl
    · rw [oh_g1, if_neg (by omega)]; exact k4
    · rw [oh_g1, if_neg (by omega)]; exact k5 i hi
    · rw [oh_g1, if_neg (by omega)]; exact k10
    · rw [oh_g1, if_neg (by omega)]
    · rw [oh_g3, oh_g1, if_neg (by omega)]
    · rw [oh_g3, oh_g1, if_neg (by omega)]
    · rw [oh_g3, oh_g1, if_neg (by omega)]
    · rw [oh_g4, if_neg (by omega)]; rfl
  · rw [z]
    exact oh_nf rfl (sX8_finds 3 (by omega) ⟨by decide, R_fail H (by omega)⟩)
theorem p_possible {h k : oh_St} {v : Int32} (H : R h k) : Both jX7_possible jX8_possible [.int v] h k := by
  intro d
  obtain ⟨B, b1, b2, b3, r⟩ := id H
  obtain ⟨h1, h2, h3, h4, h5, h6, h7, h8, h9⟩ := id b1
  obtain ⟨k1, k2, k3, k4, k5, k6, k7, k8, k9, k10⟩ := id b2
  have hok := h1.2.2.2.2.2.2
  have hn := hok.1
  have h64 := sPow hok
  have h27 : h.1 2 7 = oh_b (bO B) := h2
  have h28 : h.2 2 8 = lN (sP (bS B)) := h1.2.2.2.1
  have pw : 0 < 2 ^ sN (bS B) := Nat.two_pow_pos _
  by_cases g : oIn (2 ^ sN (bS B)) v
  · obtain ⟨a, ha, rfl⟩ := g
    have a1 : ¬ nI a < 0 := nI_pos (by omega)
    have a2 : ¬ nI (2 ^ sN (bS B) - 1) < nI a := nI_nlt (by omega) (by omega)
    refine mX7_possible (mX7_isWorld (br_f a1 (sX4_worldCount (Or.inl rfl) h1 (br_f (nI_ge ha (by omega)) ⟨oh_i1, oh_nt (by decide) ?_⟩))))
    rw [h27]
    refine oh_bn (fun z => ?_) (fun z => sX7_failed 3 (by decide) (by omega) (by omega) (mX8_possible (sX8_allMen k1.1 hn (sX8_inT 0 (nI (2 ^ sN (bS B) - 1)) (by decide) rfl a1 a2 (sX8_whyY k3 (fun y => by rw [z] at y; cases y) (fun _ => br_f (by decide) (sX8_finds 3 (by omega) ⟨by decide, R_fail H (by omega)⟩)))))))
    rw [h28]
    have M : ∀ (x : Int32), x = oh_b ((sP (bS B)).testBit a) → MM (d + 100) jX8_possible [.ref 0, .int (nI a)] k (oh_r1 (fun y k' => x = y ∧ R h k')) := by
      intro x hx
      refine mX8_possible (sX8_allMen k1.1 hn (sX8_inT 0 (nI (2 ^ sN (bS B) - 1)) (by decide) rfl a1 a2 (sX8_whyY k3 (fun _ => br_t rfl (sX8_isPossible (k2 z) (sP_lt hok) (by omega) (oh_bz (fun y => ⟨?_, H⟩) (fun y => ⟨?_, H⟩)))) (fun y => by rw [z] at y; cases y))))
      · rw [hx, y]; rfl
      · rw [hx, y]; rfl
    refine sX7_holds (sP_lt hok) (by omega) (oh_bz (fun y => M _ ?_) (fun y => M _ ?_))
    · rw [y]; rfl
    · rw [y]; rfl
  · have go : v < 0 ∨ nI (2 ^ sN (bS B) - 1) < v := oIn_out (by omega) (by rw [show 2 ^ sN (bS B) - 1 + 1 = 2 ^ sN (bS B) by omega]; exact g)
    have M : MM (d + 100) jX8_possible [.ref 0, .int v] k (oh_r1 (fun y k' => (-1000000001 : Int32) = y ∧ R (oh_upi h 59 1 (h.1 59 1 + 1)) k')) := mX8_possible (sX8_allMen k1.1 hn (sX8_inF 0 (nI (2 ^ sN (bS B) - 1)) (by decide) rfl go (sX8_whyN (br_f (by decide) (sX8_finds 1 (by omega) ⟨by decide, R_fail H (by omega)⟩)))))
    exact mX7_possible (mX7_isWorld ⟨fun _ => ⟨oh_i0, oh_nf rfl (sX7_failed 1 (by decide) (by omega) (by omega) M)⟩, fun y => sX4_worldCount (Or.inl rfl) h1 ⟨fun _ => ⟨oh_i0, oh_nf rfl (sX7_failed 1 (by decide) (by omega) (by omega) M)⟩, fun y2 => absurd (oIn_of (by omega) y y2) g⟩⟩)
/-- the model only thought -/
theorem R_th {h k k' : oh_St} (H : R h k) (s : oSame k k' [6, 7, 8, 9]) : R h k' := R_scr H (fun _ _ _ => rfl) (fun _ _ => rfl) (fun b => s.1 1 b (by simp)) (by rw [s.2]) (kF_r (rF_th s))
theorem p_thinks {h k : oh_St} {v w : Int32} (H : R h k) : Both jX7_thinks jX8_thinks [.int v, .int w] h k := by
  intro d
  obtain ⟨B, b1, b2, b3, r⟩ := id H
  obtain ⟨h1, h2, h3, h4, h5, h6, h7, h8, h9⟩ := id b1
  obtain ⟨k1, k2, k3, k4, k5, k6, k7, k8, k9, k10⟩ := id b2
  have hok := h1.2.2.2.2.2.2
  have hn := hok.1
  have hw := sW_lt hok
  have h27 : h.1 2 7 = oh_b (bO B) := h2
  have h25 : h.1 2 5 = nI (sW (bS B)) := h1.2.2.1
  by_cases c : oIn (sN (bS B)) v
  · obtain ⟨p, hp, rfl⟩ := c
    have hp6 : p < 6 := by omega
    by_cases c2 : oIn 5 w
    · obtain ⟨a, ha, rfl⟩ := c2
      refine mX7_thinks (sX7_isManT h1.1 hn hp (br_f (by decide) (br_f (nI_pos (by omega)) (br_t (nI_le (b := 4) (by omega) (by omega)) ?_))))
      rw [h27]
      have pre : ∀ (K : Int32 → oh_St → Prop), _ → MM (d + 100) jX8_thinks [.ref 0, .int (nI p), .int (nI a)] k (oh_r1 K) := fun K q => mX8_thinks (sX8_isManT k1.1 hn hp (br_f (by decide) (sX8_inT 0 4 (by decide) (by decide) (nI_pos (by omega)) (nI_nlt (a := 4) (by omega) (by omega)) (br_f (by decide) q))))
      refine oh_bn (fun z => ?_) (fun z => sX7_failed 3 (by decide) (by omega) (by omega) (pre _ (sX8_whyY k3 (fun y => by rw [z] at y; cases y) (fun _ => br_f (by decide) (sX8_finds 3 (by omega) ⟨by decide, R_fail H (by omega)⟩)))))
      have hm := mSc_0 k1 (k2 z) hok
      rw [h25]
      have go : ∀ (x : Int32), (∀ k', mSc k' (bS B) → mTh k' (bS B) → oSame k k' [6, 7, 8, 9] → ((nI a = (0 : Int32) → MM (d + 99) jX8_blackOf [.ref 0, .int (nI p), .int (nI (sW (bS B)))] k' (oh_r1 (fun x53 h52 => oh_r1 (fun y k' => x = y ∧ R h k') (some (.int x53)) h52))) ∧ (¬ nI a = (0 : Int32) → ((nI a = (1 : Int32) → MM (d + 99) jX8_whiteOf [.ref 0, .int (nI p), .int (nI (sW (bS B)))] k' (oh_r1 (fun x51 h50 => oh_r1 (fun y k' => x = y ∧ R h k') (some (.int x51)) h50))) ∧ (¬ nI a = (1 : Int32) → ((nI a = (2 : Int32) → MM (d + 99) jX8_knows [.ref 0, .int (nI p), .int (nI (sW (bS B)))] k' (oh_r1 (fun x49 h48 => ((x49 = 0 → oh_r1 (fun y k' => x = y ∧ R h k') (some (.int (0 : Int32))) h48) ∧ (¬ x49 = 0 → oh_r1 (fun y k' => x = y ∧ R h k') (some (.int (1 : Int32))) h48))))) ∧ (¬ nI a = (2 : Int32) → ((nI a = (3 : Int32) → MM (d + 99) jX8_wouldSay [.ref 0, .int (nI p), .int (nI (sW (bS B)))] k' (oh_r1 (fun x47 h46 => oh_r1 (fun y k' => x = y ∧ R h k') (some (.int x47)) h46))) ∧ (¬ nI a = (3 : Int32) → MM (d + 99) jX8_speaks [.ref 0, .int (nI p), .int (nI (sW (bS B)))] k' (oh_r1 (fun x45 h44 => ((x45 = 0 → oh_r1 (fun y k' => x = y ∧ R h k') (some (.int (0 : Int32))) h44) ∧ (¬ x45 = 0 → oh_r1 (fun y k' => x = y ∧ R h k') (some (.int (1 : Int32))) h44))))))))))))) → MM (d + 100) jX8_thinks [.ref 0, .int (nI p), .int (nI a)] k (oh_r1 (fun y k' => x = y ∧ R h k')) := by
        intro x q
        exact pre _ (sX8_whyY k3 (fun _ => br_t rfl (sX8_think hm (fun k' s t => sX8_hats (mSc_same hm s (by simp)) (q k' (mSc_same hm s (by simp)) t s)))) (fun y => by rw [z] at y; cases y))
      refine sX4_thought (Or.inl rfl) h1 hp6 hw ?_
      have cl := sCell_lt (bS B) p (sW (bS B))
      have : a = 0 ∨ a = 1 ∨ a = 2 ∨ a = 3 ∨ a = 4 := by omega
      rcases this with rfl | rfl | rfl | rfl | rfl
      · exact br_t rfl (sX7_blacks cl hp6 (go _ (fun k' m t s => br_t rfl (sX8_blackOf m t hp hw ⟨rfl, R_th H s⟩))))
      · exact br_f (by decide) (br_t rfl (sX7_whites cl hp6 (go _ (fun k' m t s => br_f (by decide) (br_t rfl (sX8_whiteOf m t hp hw ⟨rfl, R_th H s⟩))))))
      · refine br_f (by decide) (br_f (by decide) (br_t rfl (sX7_knows cl hp6 (oh_bz (fun y => go _ (fun k' m t s => br_f (by decide) (br_f (by decide) (br_t rfl (sX8_knows m t hp hw ?_))))) (fun y => go _ (fun k' m t s => br_f (by decide) (br_f (by decide) (br_t rfl (sX8_knows m t hp hw ?_)))))))))
        · rw [y]; exact br_t rfl ⟨rfl, R_th H s⟩
        · rw [y]; exact br_f (by decide) ⟨rfl, R_th H s⟩
      · exact br_f (by decide) (br_f (by decide) (br_f (by decide) (br_t rfl (sX7_wouldSay cl hp6 (go _ (fun k' m t s => br_f (by decide) (br_f (by decide) (br_f (by decide) (br_t rfl (sX8_wouldSay m t hp hw ⟨rfl, R_th H s⟩))))))))))
      · refine br_f (by decide) (br_f (by decide) (br_f (by decide) (br_f (by decide) (sX4_speaks (Or.inl rfl) h1 hp6 cl (oh_bz (fun y => go _ (fun k' m t s => br_f (by decide) (br_f (by decide) (br_f (by decide) (br_f (by decide) (sX8_speaks m t hp hw ?_)))))) (fun y => go _ (fun k' m t s => br_f (by decide) (br_f (by decide) (br_f (by decide) (br_f (by decide) (sX8_speaks m t hp hw ?_)))))))))))
        · rw [y]; exact br_t rfl ⟨rfl, R_th H s⟩
        · rw [y]; exact br_f (by decide) ⟨rfl, R_th H s⟩
    · have c3 := oIn_out (n := 4) (by omega) c2
      have M : MM (d + 100) jX8_thinks [.ref 0, .int (nI p), .int w] k (oh_r1 (fun y k' => (-1000000001 : Int32) = y ∧ R (oh_upi h 59 1 (h.1 59 1 + 1)) k')) := mX8_thinks (sX8_isManT k1.1 hn hp (br_f (by decide) (sX8_inF 0 4 (by decide) (by decide) c3 (br_t rfl (sX8_whyN (br_f (by decide) (sX8_finds 1 (by omega) ⟨by decide, R_fail H (by omega)⟩)))))))
      refine mX7_thinks (sX7_isManT h1.1 hn hp (br_f (by decide) ⟨fun _ => sX7_failed 1 (by decide) (by omega) (by omega) M, fun y => ⟨fun y2 => ?_, fun _ => sX7_failed 1 (by decide) (by omega) (by omega) M⟩⟩))
      exact absurd ((oIn_le (n := 4) (by omega)).mp ⟨y, Int32.not_lt.mpr y2⟩) c2
  · exact mX7_thinks (sX7_isManF h1.1 hn c (br_t rfl (sX7_failed 1 (by decide) (by omega) (by omega) (mX8_thinks (sX8_isManF k1.1 hn c (br_t rfl (sX8_whyN (br_f (by decide) (sX8_finds 1 (by omega) ⟨by decide, R_fail H (by omega)⟩)))))))))

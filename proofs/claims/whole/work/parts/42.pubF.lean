/-! BOTH SIDES: feed, tell, told, count, trace, close, possible -/
theorem ob_sbyte {P k : Nat} (hk : k ≤ 56) : (lN P >>> ((nI k).toInt64 &&& 63)) &&& 255 = lN (P / 2 ^ k % 256) := by
  rw [wb_c k (by omega)]
  apply wb_inj
  apply BitVec.eq_of_getLsbD_eq
  intro i hi
  rw [Int64.toBitVec_and, Int64.toBitVec_shiftRight, BitVec.getLsbD_and]
  show (((lN P).toBitVec.sshiftRight ((BitVec.ofNat 64 k).smod 64).toNat).getLsbD i && (BitVec.ofNat 64 255).getLsbD i) = (BitVec.ofNat 64 (P / 2 ^ k % 256)).getLsbD i
  rw [wb_sm k (by omega)]
  have hkn : (BitVec.ofNat 64 k).toNat = k := by rw [BitVec.toNat_ofNat]; exact Nat.mod_eq_of_lt (by omega)
  rw [hkn, BitVec.getLsbD_sshiftRight, BitVec.getLsbD_ofNat, BitVec.getLsbD_ofNat]
  have e255 : Nat.testBit 255 i = decide (i < 8) := by
    rw [show 255 = 2 ^ 8 - 1 from rfl, Nat.testBit_two_pow_sub_one]
  rw [e255, show 256 = 2 ^ 8 from rfl, Nat.testBit_mod_two_pow, Nat.testBit_div_two_pow]
  have e : (lN P).toBitVec.getLsbD (k + i) = (decide (k + i < 64) && P.testBit (k + i)) := by
    show (BitVec.ofNat 64 P).getLsbD (k + i) = _
    rw [BitVec.getLsbD_ofNat]
  by_cases h8 : i < 8
  · rw [if_pos (by omega), e]
    have h1 : ¬ 64 ≤ i := by omega
    have h2 : k + i < 64 := by omega
    simp [h8, h1, h2, hi, Nat.add_comm]
  · simp [h8]
def byt (P i : Nat) : Nat := P / 2 ^ (8 * i) % 256
theorem byt_c {P i : Nat} (hP : P < 2 ^ 64) (hi : i < 8) : ((((lN P).toUInt64 >>> (((8 : Int32) * nI i).toInt64.toUInt64 &&& Int64.toUInt64 63)).toInt64).toInt32 &&& (255 : Int32)) = nI (byt P i) := by
  rw [show (8 : Int32) = nI 8 from rfl, pk_mul, wb_shr hP (by omega), lN_i, show (255 : Int32) = nI 255 from rfl, ob_and]
  congr 1
  exact Nat.and_two_pow_sub_one_eq_mod _ 8
theorem byt_m {P i : Nat} (hi : i < 8) : (((lN P >>> (((8 : Int32) * nI i).toInt64 &&& 63)) &&& (255 : Int64)).toInt32) = nI (byt P i) := by
  rw [show (8 : Int32) = nI 8 from rfl, pk_mul, ob_sbyte (by omega), lN_i]
  rfl
theorem nb_app {t x : List Nat} {j : Nat} (h : j < t.length) : nb (t ++ x) j = nb t j := by
  unfold nb
  simp [List.getD, List.getElem?_append_left h]
theorem nb_last (t : List Nat) (b : Nat) : nb (t ++ [b]) t.length = b := by
  unfold nb
  simp [List.getD]
theorem R_tp {h k h' k' : oh_St} {B : oBk} (b1 : cB h 1 B) (b2 : mB k B) (b3 : bOk B) (r : rest h k) (t : List Nat) (c : rowIs h' 15 (t.map nI)) (hs : oSame h h' [15, 16]) (m : tpIs k' t) (o : ∀ x ∈ t, x < 256) (ms : oSame k k' [1]) (me : ∀ b, b ≠ 6 → ¬ (160 ≤ b) → k'.1 1 b = k.1 1 b) : R h' k' := by
  have hl := cB_len (Or.inl rfl) b1
  obtain ⟨h1, h2, h3, h4, h5, h6, h7, h8, h9⟩ := b1
  obtain ⟨k1, k2, k3, k4, k5, k6, k7, k8, k9, k10⟩ := b2
  have t0 := k6.2.2.2.1
  have t1 := k7.2.2.2.1
  have e : ∀ a b, a ≠ 15 → a ≠ 16 → h'.1 a b = h.1 a b := fun a b x y => hs.1 a b (by simp [x, y])
  have x6 : txIs k' 1 0 (bX B 0) := ⟨(me _ (by omega) (by omega)).trans k6.1, fun i hi => (me _ (by omega) (by omega)).trans (k6.2.1 i hi), k6.2.2⟩
  have x7 : txIs k' 1 1 (bX B 1) := ⟨(me _ (by omega) (by omega)).trans k7.1, fun i hi => (me _ (by omega) (by omega)).trans (k7.2.1 i hi), k7.2.2⟩
  have x9 : wtIs k' (bW B) := ⟨(me _ (by omega) (by omega)).trans k9.1, fun i hi => (me _ (by omega) (by omega)).trans (k9.2 i hi)⟩
  exact ⟨(bS B, bO B, bF B, bD B, t, bW B, bX B, bZ B), ⟨cSc_c h1 (fun a b x => e a b (by omega) (by omega)) (by rw [hs.2]), (e _ _ (by omega) (by omega)).trans h2, (e _ _ (by omega) (by omega)).trans h3, fun i hi => (e _ _ (by omega) (by omega)).trans (h4 i hi), rowIs_c h5 (fun a b x => e a b (by omega) (by omega)), rowIs_c h6 (fun a b x => e a b (by omega) (by omega)), c, rowIs_c h8 (fun a b x => e a b (by omega) (by omega)), (e _ _ (by omega) (by omega)).trans h9⟩, ⟨mS0_d k1 (fun b x => me b (by omega) (by omega)), fun z => by rw [ms.2]; exact k2 z, (me _ (by omega) (by omega)).trans k3, (me _ (by omega) (by omega)).trans k4, fun i hi => (me _ (by omega) (by omega)).trans (k5 i hi), x6, x7, m, x9, (me _ (by omega) (by omega)).trans k10⟩, ⟨b3.1, o, b3.2.2.1, b3.2.2.2⟩, rest_c r (hF_same hs (by simp)) ⟨fun a b x => ms.1 a b (by simp; omega), by rw [ms.2]⟩⟩
theorem R_wt {h k h' k' : oh_St} {B : oBk} (b1 : cB h 1 B) (b2 : mB k B) (b3 : bOk B) (r : rest h k) (l : List Int32) (c : rowIs h' 17 l) (hs : ∀ a b, (a ≤ 13 ∨ a = 15 ∨ a = 16 ∨ (19 ≤ a ∧ a ≤ 36) ∨ 48 ≤ a) → a ≠ 10 → h'.1 a b = h.1 a b) (hs2 : ∀ a, a ≤ 36 → h'.2 a 8 = h.2 a 8) (m : wtIs k' l) (me : ∀ b, b < 210 → b ≠ 7 → ¬ (40 ≤ b ∧ b < 60) → k'.1 1 b = k.1 1 b) (m3 : k'.2 0 3 = k.2 0 3) (kf : kF k k') : R h' k' := by
  have hl := cB_len (Or.inl rfl) b1
  obtain ⟨h1, h2, h3, h4, h5, h6, h7, h8, h9⟩ := b1
  obtain ⟨k1, k2, k3, k4, k5, k6, k7, k8, k9, k10⟩ := b2
  have t0 := k6.2.2.2.1
  have t1 := k7.2.2.2.1
  have x6 : txIs k' 1 0 (bX B 0) := ⟨(me _ (by omega) (by omega) (by omega)).trans k6.1, fun i hi => (me _ (by omega) (by omega) (by omega)).trans (k6.2.1 i hi), k6.2.2⟩
  have x7 : txIs k' 1 1 (bX B 1) := ⟨(me _ (by omega) (by omega) (by omega)).trans k7.1, fun i hi => (me _ (by omega) (by omega) (by omega)).trans (k7.2.1 i hi), k7.2.2⟩
  have x8 : tpIs k' (bT B) := ⟨(me _ (by omega) (by omega) (by omega)).trans k8.1, fun i hi => (me _ (by omega) (by omega) (by omega)).trans (k8.2 i hi)⟩
  exact ⟨(bS B, bO B, bF B, bD B, bT B, l, bX B, bZ B), ⟨cSc_c h1 (fun a b x => hs a b (by omega) (by omega)) (hs2 _ (by omega)), (hs _ _ (by omega) (by omega)).trans h2, (hs _ _ (by omega) (by omega)).trans h3, fun i hi => (hs _ _ (by omega) (by omega)).trans (h4 i hi), rowIs_c h5 (fun a b x => hs a b (by omega) (by omega)), rowIs_c h6 (fun a b x => hs a b (by omega) (by omega)), rowIs_c h7 (fun a b x => hs a b (by omega) (by omega)), c, (hs _ _ (by omega) (by omega)).trans h9⟩, ⟨mS0_d k1 (fun b x => me b (by omega) (by omega) (by omega)), fun z => m3.trans (k2 z), (me _ (by omega) (by omega) (by omega)).trans k3, (me _ (by omega) (by omega) (by omega)).trans k4, fun i hi => (me _ (by omega) (by omega) (by omega)).trans (k5 i hi), x6, x7, x8, m, (me _ (by omega) (by omega) (by omega)).trans k10⟩, ⟨b3.1, b3.2.1, b3.2.2.1, b3.2.2.2⟩, rest_c r ⟨fun a b x => hs a b (by omega) (by omega), hs 7 0 (by omega) (by omega), hs 11 0 (by omega) (by omega), hs2 20 (by omega)⟩ kf⟩
theorem p_feed {h k : oh_St} {w : Int64} {v : Int32} (H : R h k) : Both jX7_feed jX8_feed [.long w, .int v] h k := by
  intro d
  obtain ⟨B, b1, b2, b3, r⟩ := id H
  obtain ⟨h1, h2, h3, h4, h5, h6, h7, h8, h9⟩ := id b1
  obtain ⟨k1, k2, k3, k4, k5, k6, k7, k8, k9, k10⟩ := id b2
  have hl := cB_len (Or.inl rfl) b1
  obtain ⟨P, hP, rfl⟩ := wb_of w
  have h15 : h.1 15 1 = nI (bT B).length := by have := h7.1; rw [List.length_map] at this; exact this
  by_cases c1 : v < 1
  · exact mX7_feed (br_t c1 (sX7_failed 1 (by decide) (by omega) (by omega) (mX8_feed (sX8_inF 1 8 (by decide) (by decide) (Or.inl c1) (oh_nf rfl (sX8_finds 1 (by omega) ⟨by decide, R_fail H (by omega)⟩))))))
  · by_cases c2 : 8 < v
    · exact mX7_feed (br_f c1 (br_f (Int32.not_le.mpr c2) (sX7_failed 1 (by decide) (by omega) (by omega) (mX8_feed (sX8_inF 1 8 (by decide) (by decide) (Or.inr c2) (oh_nf rfl (sX8_finds 1 (by omega) ⟨by decide, R_fail H (by omega)⟩)))))))
    · obtain ⟨n, hn, rfl⟩ : oIn 9 v := (oIn_le (n := 8) (by omega)).mp ⟨fun z => c1 (Int32.lt_trans z (by decide)), c2⟩
      refine mX7_feed (br_f c1 (br_t (Int32.not_lt.mp c2) ?_))
      rw [h15, show (50 : Int32) = nI 50 from rfl, om_sub (by omega)]
      have pre : ∀ (K : Int32 → oh_St → Prop), ((nI (bT B).length + nI n ≤ (50 : Int32) → wX8_feed_41 (d + 99) (oh_r1 K) (lN P) (nI n) (0 : Int32) k) ∧ (¬ nI (bT B).length + nI n ≤ (50 : Int32) → MM (d + 99) jX8_finds [.ref 0, .int (4 : Int32)] k (oh_r1 (fun x4 h3 => oh_r1 K (some (.int x4)) h3)))) → MM (d + 100) jX8_feed [.ref 0, .long (lN P), .int (nI n)] k (oh_r1 K) := by
        intro K q
        refine mX8_feed (sX8_inT 1 8 (by decide) (by decide) c1 c2 (oh_nt (by decide) ⟨om_in (n := 6) (by omega), ?_⟩))
        rw [om_6, k8.1]
        exact q
      by_cases c3 : (bT B).length ≤ 50 - n
      · refine br_t (nI_le c3 (by omega)) ?_
        -- the list behind i bytes
        let tl : Nat → List Nat := fun i => bT B ++ (List.range i).map (byt P)
        have tl_len : ∀ i, (tl i).length = (bT B).length + i := fun i => by simp [tl]
        have tl_s : ∀ i, tl (i + 1) = tl i ++ [byt P i] := fun i => by simp [tl, List.range_succ]
        have tl_b : ∀ i, ∀ x ∈ tl i, x < 256 := by
          intro i x hx
          simp only [tl, List.mem_append, List.mem_map] at hx
          rcases hx with hx | ⟨j, _, rfl⟩
          · exact b3.2.1 x hx
          · exact Nat.mod_lt _ (by omega)
        -- the model's loop
        have mod : ∀ (h' : oh_St), rowIs h' 15 ((tl n).map nI) → oSame h h' [15, 16] → MM (d + 100) jX8_feed [.ref 0, .long (lN P), .int (nI n)] k (oh_r1 (fun y k' => nI (tl n).length = y ∧ R h' k')) := by
          intro h' r' s'
          refine pre _ (br_t (by rw [nI_add]; exact nI_le (b := 50) (by omega) (by omega)) ?_)
          have key : ∀ i, i ≤ n → ∀ k', oSame k k' [1] → (∀ b, b ≠ 6 → ¬ (160 ≤ b) → k'.1 1 b = k.1 1 b) → tpIs k' (tl i) → wX8_feed_41 (d + 99) (oh_r1 (fun y k' => nI (tl n).length = y ∧ R h' k')) (lN P) (nI n) (nI i) k' := by
            refine oh_up (fun i hi ih => ?_) ?_
            · intro k' s e t
              have tli := tl_len i
              refine bX8_feed_41 (br_f (nI_ge hi (by omega)) ⟨om_in (n := 6) (by omega), ?_⟩)
              rw [om_6, t.1, show (160 : Int32) = nI 160 from rfl, nI_add, oh_cl (by omega), byt_m (by omega), oh_g1, if_neg (by omega), t.1, nI_1, nI_1]
              refine ⟨om_in (by omega), om_in (n := 6) (by omega), om_in (n := 6) (by omega), ih _ (oSame_up (oSame_up s (by simp)) (by simp)) (fun b z1 z2 => ?_) ⟨?_, fun j hj => ?_⟩⟩
              · rw [oh_g1, if_neg (fun z => z1 z.2), oh_g1, if_neg (by omega)]; exact e b z1 z2
              · rw [oh_g1, if_pos ⟨rfl, rfl⟩, tl_len, tl_len]; rfl
              · rw [tl_s] at hj ⊢
                simp only [List.length_append, List.length_singleton] at hj
                rw [oh_g1, if_neg (by omega), oh_g1]
                by_cases z : j = (tl i).length
                · subst z
                  rw [if_pos ⟨rfl, rfl⟩, nb_last]
                · rw [if_neg (by omega), nb_app (by omega)]
                  exact t.2 j (by omega)
            · intro k' s e t
              refine bX8_feed_41 (br_t (nI_le (Nat.le_refl _) (by omega)) ⟨om_in (n := 6) (by omega), ?_⟩)
              rw [om_6]
              exact ⟨t.1.symm, R_tp b1 b2 b3 r (tl n) r' s' t (tl_b n) s e⟩
          refine key 0 (Nat.zero_le _) k (oSame_rf _ _) (fun _ _ _ => rfl) ?_
          have : tl 0 = bT B := by simp [tl]
          rw [this]
          exact k8
        have key : ∀ i, i ≤ n → ∀ h', rowIs h' 15 ((tl i).map nI) → oSame h h' [15, 16] → wX7_feed_45 (d + 99) (oh_r1 (fun x h' => MM (d + 100) jX8_feed [.ref 0, .long (lN P), .int (nI n)] k (oh_r1 (fun y k' => x = y ∧ R h' k')))) (lN P) (nI n) (nI i) h' := by
          refine oh_up (fun i hi ih => ?_) ?_
          · intro h' r' s'
            have tli := tl_len i
            refine bX7_feed_45 (br_f (nI_ge hi (by omega)) ?_)
            rw [byt_c hP (by omega), nI_1]
            refine sX3_add (by unfold oRow; omega) r' (by rw [List.length_map]; show _ < 50; omega) (ih _ ?_ (oSame_tr s' (rowAdd_same _ _ _ _)))
            have ee : (tl (i + 1)).map nI = (tl i).map nI ++ [nI (byt P i)] := by rw [tl_s, List.map_append]; rfl
            have := rowAdd_is (v := nI (byt P i)) r' (by rw [List.length_map]; show _ < 50; omega)
            rw [ee]
            exact this
          · intro h' r' s'
            refine bX7_feed_45 (br_t (nI_le (Nat.le_refl _) (by omega)) ?_)
            rw [r'.1, List.length_map]
            exact mod h' r' s'
        refine key 0 (Nat.zero_le _) h ?_ (oSame_rf _ _)
        have : tl 0 = bT B := by simp [tl]
        rw [this]
        exact h7
      · refine br_f (nI_ge (by omega) (by omega)) (sX7_failed 4 (by decide) (by omega) (by omega) (pre _ (br_f ?_ (sX8_finds 4 (by omega) ⟨by decide, R_fail H (by omega)⟩))))
        rw [nI_add]
        exact nI_ge (a := 50) (by omega) (by omega)
theorem p_tell {h k : oh_St} {v : Int32} (H : R h k) : Both jX7_tell jX8_tell [.int v] h k := by
  intro d
  obtain ⟨B, b1, b2, b3, r⟩ := id H
  obtain ⟨h1, h2, h3, h4, h5, h6, h7, h8, h9⟩ := id b1
  obtain ⟨k1, k2, k3, k4, k5, k6, k7, k8, k9, k10⟩ := id b2
  have hl := cB_len (Or.inl rfl) b1
  have h17 : h.1 17 1 = nI (bW B).length := h8.1
  refine mX7_tell ?_
  rw [h17]
  by_cases c : (bW B).length < 20
  · have rr := rowAdd_is (v := v) h8 c
    have ss := rowAdd_same h 17 (bW B).length v
    refine br_t (nI_lt (b := 20) c (by omega)) (sX3_add (o := 17) (by unfold oRow; omega) h8 c (mX8_tell ⟨om_in (n := 7) (by omega), ?_⟩))
    rw [om_7, k9.1, show (40 : Int32) = nI 40 from rfl, nI_add, oh_cl (by omega)]
    refine oh_nt (fun z => by have := (nI_eq (b := 20) (by omega) (by omega)).mp z; omega) ⟨om_in (n := 7) (by omega), om_in (by omega), om_in (n := 7) (by omega), om_in (n := 7) (by omega), om_in (n := 7) (by omega), ?_⟩
    have e7 : (oh_upi k 1 (40 + (bW B).length) v).1 1 7 = nI (bW B).length := by rw [oh_g1, if_neg (by omega)]; exact k9.1
    rw [e7, nI_1, oh_g1, if_pos ⟨rfl, rfl⟩]
    refine ⟨?_, R_wt b1 b2 b3 r (bW B ++ [v]) rr (fun a b x y => ss.1 a b (by simp; omega)) (fun a _ => by rw [ss.2]) ⟨?_, fun i hi => ?_⟩ (fun b z0 z1 z2 => ?_) rfl (kF_tr (kF_up _ _ _) (kF_up _ _ _))⟩
    · have := rr.1
      rw [List.length_append, List.length_singleton] at this
      exact this
    · rw [oh_g1, if_pos ⟨rfl, rfl⟩, List.length_append, List.length_singleton]
    · rw [List.length_append, List.length_singleton] at hi
      rw [oh_g1, if_neg (by omega), oh_g1]
      by_cases z : i = (bW B).length
      · subst z
        rw [if_pos ⟨rfl, rfl⟩]
        simp [List.getD]
      · rw [if_neg (by omega), k9.2 i (by omega)]
        simp [List.getD, List.getElem?_append_left (show i < (bW B).length by omega)]
    · rw [oh_g1, if_neg (fun z => z1 z.2), oh_g1, if_neg (by omega)]
  · have e : (bW B).length = 20 := by omega
    refine br_f (nI_nlt (b := 20) (by omega) (by omega)) (sX7_failed 4 (by decide) (by omega) (by omega) (mX8_tell ⟨om_in (n := 7) (by omega), ?_⟩))
    rw [om_7, k9.1, e]
    exact oh_nf rfl (sX8_finds 4 (by omega) ⟨by decide, R_fail H (by omega)⟩)
theorem p_told {h k : oh_St} {v : Int32} (H : R h k) : Both jX7_told jX8_told [.int v] h k := by
  intro d
  obtain ⟨B, b1, b2, b3, r⟩ := id H
  by_cases c1 : v < 1
  · exact mX7_told (br_t c1 (sX7_failed 1 (by decide) (by omega) (by omega) (mX8_told (sX8_inF 1 5 (by decide) (by decide) (Or.inl c1) (br_t rfl (sX8_finds 1 (by omega) ⟨by decide, R_fail H (by omega)⟩))))))
  · by_cases c2 : 5 < v
    · exact mX7_told (br_f c1 (br_f (Int32.not_le.mpr c2) (sX7_failed 1 (by decide) (by omega) (by omega) (mX8_told (sX8_inF 1 5 (by decide) (by decide) (Or.inr c2) (br_t rfl (sX8_finds 1 (by omega) ⟨by decide, R_fail H (by omega)⟩)))))))
    · obtain ⟨n, hn, rfl⟩ : oIn 6 v := (oIn_le (n := 5) (by omega)).mp ⟨fun z => c1 (Int32.lt_trans z (by decide)), c2⟩
      refine mX7_told (br_f c1 (br_t (Int32.not_lt.mp c2) ⟨oh_in hn (by omega), mX8_told (sX8_inT 1 5 (by decide) (by decide) c1 c2 (br_f (by decide) ⟨oh_in hn (by omega), ?_⟩))⟩))
      rw [oh_cl (by omega)]
      exact ⟨r.2.2.2.1 n hn, H⟩
theorem p_trace {h k : oh_St} {v : Int32} (H : R h k) : Both jX7_trace jX8_trace [.int v] h k := by
  intro d
  obtain ⟨B, b1, b2, b3, r⟩ := id H
  obtain ⟨tr, t1, t2, t3⟩ := r.2.2.2.2.1
  have h48 : h.1 48 1 = nI tr.length := t1.1
  have hc : tr.length ≤ 40 := t1.2.2
  by_cases c : oIn tr.length v
  · obtain ⟨i, hi, rfl⟩ := c
    refine mX7_trace (br_f (nI_pos (by omega)) ?_)
    rw [h48]
    refine br_t (nI_lt hi (by omega)) (sX3_get (o := 48) (by unfold oRow; omega) t1 hi (mX8_trace ?_))
    rw [t2]
    obtain ⟨m, hm⟩ : ∃ m, tr.length = m + 1 := ⟨tr.length - 1, by omega⟩
    refine sX8_inT 0 (nI tr.length - 1) (by decide) rfl (nI_pos (by omega)) (by rw [hm, nI_pred]; exact nI_nlt (by omega) (by omega)) (br_f (by decide) ⟨oh_in (by omega) (by omega), ?_⟩)
    rw [oh_cl (by omega)]
    exact ⟨(t3 i hi).symm, H⟩
  · have M : MM (d + 100) jX8_trace [.ref 0, .int v] k (oh_r1 (fun y k' => (-1000000002 : Int32) = y ∧ R (oh_upi h 59 2 (h.1 59 2 + 1)) k')) := by
      refine mX8_trace ?_
      rw [t2]
      refine sX8_inF 0 (nI tr.length - 1) (by decide) rfl ?_ (br_t rfl (sX8_finds 2 (by omega) ⟨by decide, R_fail H (by omega)⟩))
      rcases oIn_no (by omega) c with z | z
      · exact Or.inl z
      · by_cases z0 : v < 0
        · exact Or.inl z0
        · obtain ⟨j, hj, rfl⟩ := nI_of z0
          refine Or.inr ?_
          have := (nI_leI (by omega) hj).mp z
          cases hm : tr.length with
          | zero => exact Int32.lt_of_lt_of_le (by decide) (nI_pos' hj)
          | succ m => rw [nI_pred]; exact nI_lt (by omega) hj
    refine mX7_trace ⟨fun _ => sX7_failed 2 (by decide) (by omega) (by omega) M, fun y => ⟨fun y2 => ?_, fun _ => sX7_failed 2 (by decide) (by omega) (by omega) M⟩⟩
    rw [h48] at y2
    exact absurd ((oh_rng (by omega)).mp ⟨y, y2⟩) c

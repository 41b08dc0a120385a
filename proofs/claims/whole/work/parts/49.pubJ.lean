/-! BOTH SIDES: silence -/
theorem oth_i : ∀ w, w < 64 → ∀ p, p < 6 → nI w &&& (((1 : Int32) <<< (nI p &&& 31)) ^^^ (-1 : Int32)) = nI (setb w p false) := by decide +kernel
theorem setb_64 (w p : Nat) (b : Bool) : setb w p b < 64 := ob_m_lt _ 6
def sSil (S : oS) (p : Nat) : oS := sSetK S p 3 (sM S p)
theorem sSil_M (S : oS) (p i : Nat) : sM (sSil S p) i = sM S i := by
  show (if i = p then sM S p else sM S i) = sM S i
  split
  · rename_i h; rw [h]
  · rfl
theorem cSc_sil {h : oh_St} {o : Nat} {S : oS} {p : Nat} (hp : p < 6) (H : cSc h o S) : cSc (oh_upi h (o + 1) p 3) o (sSil S p) := by
  obtain ⟨h1, h2, h3, h4, h5, h6, h7⟩ := H
  refine ⟨?_, fun i hi => ⟨?_, ?_, ?_⟩, ?_, h4, ?_, ?_, sSetK_ok h7 (by omega) (h7.2.1 p hp).2.1⟩
  · rw [oh_g1, if_neg (by omega)]; exact h1
  · show _ = nI (if i = p then 3 else sK S i)
    rw [oh_g1]
    by_cases z : i = p
    · rw [if_pos ⟨rfl, z⟩, if_pos z]; rfl
    · rw [if_neg (fun y => z y.2), if_neg z]; exact (h2 i hi).1
  · rw [oh_g1, if_neg (by omega), sSil_M]; exact (h2 i hi).2.1
  · rw [oh_g1, if_neg (by omega)]; exact (h2 i hi).2.2
  · rw [oh_g1, if_neg (by omega)]; exact h3
  · rw [oh_g1, if_neg (by omega)]; exact h5
  · rw [oh_g1, if_neg (by omega)]; exact h6
theorem mSc_sil {k : oh_St} {S : oS} {p : Nat} (hp : p < 6) (H : mSc k S) : mSc (oh_upi k 1 (8 + 5 * p + 0) 3) (sSil S p) := by
  obtain ⟨h1, h2, h3, h4, h5, h6⟩ := H
  refine ⟨?_, fun i hi => ⟨?_, ?_, ?_, ?_⟩, h3, ?_, ?_, sSetK_ok h6 (by omega) (h6.2.1 p hp).2.1⟩
  · rw [oh_g1, if_neg (by omega)]; exact h1
  · show _ = nI (if i = p then 3 else sK S i)
    rw [oh_g1]
    by_cases z : i = p
    · rw [if_pos ⟨rfl, by omega⟩, if_pos z]; rfl
    · rw [if_neg (by omega), if_neg z]; exact (h2 i hi).1
  · rw [oh_g1, if_neg (by omega), sSil_M]; exact (h2 i hi).2.1
  · rw [oh_g1, if_neg (by omega)]; exact (h2 i hi).2.2.1
  · rw [oh_g1, if_neg (by omega)]; exact (h2 i hi).2.2.2
  · rw [oh_g1, if_neg (by omega)]; exact h4
  · rw [oh_g1, if_neg (by omega)]; exact h5
theorem sX8_othersBy {d n p : Nat} {K : Int32 → oh_St → Prop} {k : oh_St} {x : oI} {fi : Int32} {t : List Nat} (hk : mI k x) (ht : txIs k 1 1 t) (hf : k.1 1 4 = fi) (hbe : sB x.1 + n < 1000) (hp : p < 6) (q : ∀ k', rF k k' → K (nI (ob_ct (setb (sQ (iT false fi (cOf 1 t) x n).1) p false) 6)) k') : MM (d + 50) jX8_othersBy [.ref 0, .int (nI p), .int (nI n)] k (oh_r1 K) := by
  have hok := hk.1.2.2.2.2.2
  refine mX8_othersBy (sX8_goesOn (l := false) hk ht hf hbe (fun k' r m => ⟨om_in (n := 3) (by omega), ?_⟩))
  have ok := iT_ok (l := false) (fi := fi) (c := cOf 1 t) hok n hbe
  have l1 := setb_64 (sQ (iT false fi (cOf 1 t) x n).1) p false
  rw [om_3, m.1.2.2.2.1, oth_i _ (sQ_lt ok) p hp]
  exact sX8_ones (by omega) (q k' r)
theorem p_silence {h k : oh_St} {v w : Int32} (H : R h k) : Both jX7_silence jX8_silence [.int v, .int w] h k := by
  intro d
  obtain ⟨B, b1, b2, b3, r⟩ := id H
  have h27 : h.1 2 7 = oh_b (bO B) := b1.2.1
  have k3 := b2.2.2.1
  have hok := b1.1.2.2.2.2.2.2
  have hn6 := hok.1
  have b39 := b3.1
  have hl := cB_law (u := 1) b1 r.1 (by omega)
  by_cases c : oIn (sN (bS B)) v
  · obtain ⟨p, hp, rfl⟩ := c
    have hp6 : p < 6 := by omega
    by_cases c2 : oIn 31 w
    · obtain ⟨n, hn, rfl⟩ := c2
      have n30 : n ≤ 30 := by omega
      have pre : ∀ (K : Int32 → oh_St → Prop), _ → MM (d + 100) jX8_silence [.ref 0, .int (nI p), .int (nI n)] k (oh_r1 K) := fun K q => mX8_silence (sX8_isManT b2.1.1 hn6 hp (br_f (by decide) (sX8_inT 0 30 (by decide) (by decide) (nI_pos (by omega)) (nI_nlt (a := 30) (by omega) (by omega)) (br_f (by decide) q))))
      refine mX7_silence (sX7_isManT b1.1.1 hn6 hp (br_f (by decide) (aheadT n30 (oh_nt (by decide) ?_))))
      rw [h27]
      refine oh_bn (fun op => cAhead b1 r.1 b3 n30 (fun h' b cc fr => ?_)) (fun z => sX7_failed 3 (by decide) (by omega) (by omega) (pre _ (sX8_whyY k3 (fun y => by rw [z] at y; cases y) (fun _ => br_f (by decide) (sX8_finds 3 (by omega) ⟨by decide, R_fail H (by omega)⟩)))))
      have ok1 := iT_ok (l := false) (fi := bF B) (c := cOf 1 (bX B 1)) (x := (bS B, bD B, bZ B)) hok n (by show sB (bS B) + n < 1000; omega)
      have e9 : h'.1 37 9 = nI (sQ (iT false (bF B) (cOf 1 (bX B 1)) (bS B, bD B, bZ B) n).1) := cc.1.2.2.2.2.1
      rw [e9, oth_i _ (sQ_lt ok1) p hp6]
      refine sJ6_bitCount (setb_64 _ _ _) (sX7_startAhead (cB_ah b1 fr) (fun h1 f1 f2 c1 hf => ⟨oh_in hp6 (by omega), ?_⟩))
      have a1 := ahF_tr fr (ahF_s f1 f2)
      have a2 := ahF_tr a1 (ahF_u h1 p 3 (a := 38) (by omega))
      rw [oh_cl (by omega)]
      have cs : cI (oh_upi h1 38 p 3) 37 (sSil (bS B) p, bD B, bZ B) := ⟨cSc_sil hp6 c1.1, fun i hi => by rw [oh_g1, if_neg (by omega)]; exact c1.2.1 i hi, by rw [oh_g1, if_neg (by omega)]; exact c1.2.2⟩
      have oks : sOk (sSil (bS B) p) := cs.1.2.2.2.2.2.2
      refine sX7_ringAhead (fi := bF B) cs (by rw [oh_g1, if_neg (by omega)]; exact hf) (lawIs_ah hl a2) (by show sB (bS B) + n < 500; omega) (fun h2 b2' cc2 fr2 => ?_)
      have a3 := ahF_tr a2 (ahF_o fr2)
      have ok2 := iT_ok (l := false) (fi := bF B) (c := cOf 1 (bX B 1)) (x := (sSil (bS B) p, bD B, bZ B)) oks n (by show sB (bS B) + n < 1000; omega)
      have e9' : h2.1 37 9 = nI (sQ (iT false (bF B) (cOf 1 (bX B 1)) (sSil (bS B) p, bD B, bZ B) n).1) := cc2.1.2.2.2.2.1
      rw [e9', oth_i _ (sQ_lt ok2) p hp6]
      refine sJ6_bitCount (setb_64 _ _ _) (pre _ (sX8_whyY k3 (fun _ => br_t rfl (sX8_begins (fun k1 sv1 bk1 => ?_))) (fun y => by rw [op] at y; cases y)))
      have m1 := mB_bk b1 b2 bk1
      refine sX8_othersBy (mI_B b1 m1 op) m1.2.2.2.2.2.2.1 m1.2.2.2.1 (by show sB (bS B) + n < 1000; omega) hp6 (fun k2 r2 => sX8_ends (saved_r sv1 r2) (fun k3' bk3 => sX8_begins (fun k4 sv4 bk4 => sX8_becomes (w := 0) hp6 (by omega) ?_)))
      have bk5 := back_tr bk3 bk4
      have m4 := mB_bk b1 b2 bk5
      have mI4 := mI_B b1 m4 op
      have tx4 : txIs (oh_upi k4 1 (8 + 5 * p + 0) 3) 1 1 (bX B 1) := by
        have := m4.2.2.2.2.2.2.1
        have l5 := this.2.2.2.1
        exact ⟨by rw [oh_g1, if_neg (by omega)]; exact this.1, fun i hi => by rw [oh_g1, if_neg (by omega)]; exact this.2.1 i hi, this.2.2⟩
      refine sX8_othersBy (x := (sSil (bS B) p, bD B, bZ B)) ⟨mSc_sil hp6 mI4.1, fun i hi => by rw [oh_g1, if_neg (by omega)]; exact mI4.2.1 i hi, by rw [oh_g1, if_neg (by omega)]; exact mI4.2.2⟩ tx4 (by rw [oh_g1, if_neg (by omega)]; exact m4.2.2.2.1) (by show sB (bS B) + n < 1000; omega) hp6 (fun k6 r6 => sX8_ends (saved_r (saved_p sv4) r6) (fun k7 bk7 => ⟨rfl, R_ah H a3 (back_tr bk3 bk7)⟩))
    · have c3 := oIn_out (n := 30) (by omega) c2
      exact mX7_silence (sX7_isManT b1.1.1 hn6 hp (br_f (by decide) (aheadF c2 (oh_nf rfl (sX7_failed 1 (by decide) (by omega) (by omega) (mX8_silence (sX8_isManT b2.1.1 hn6 hp (br_f (by decide) (sX8_inF 0 30 (by decide) (by decide) c3 (br_t rfl (sX8_whyN (br_f (by decide) (sX8_finds 1 (by omega) ⟨by decide, R_fail H (by omega)⟩)))))))))))))
  · exact mX7_silence (sX7_isManF b1.1.1 hn6 c (br_t rfl (sX7_failed 1 (by decide) (by omega) (by omega) (mX8_silence (sX8_isManF b2.1.1 hn6 c (br_t rfl (sX8_whyN (br_f (by decide) (sX8_finds 1 (by omega) ⟨by decide, R_fail H (by omega)⟩)))))))))

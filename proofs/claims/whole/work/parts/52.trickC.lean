theorem cTrick {d n a : Nat} {K : Int32 → oh_St → Prop} {h : oh_St} {B : oBk} (b1 : cB h 1 B) (r : h.1 7 0 = 0 ∧ h.1 11 0 = 1) (b3 : bOk B) (hn : n ≤ 30) (ha : a < 2)
    (q : ∀ h', ahF h h' → K (if a = 0 then nI (tgW (tf (sP (bS B)) (vQ (bF B) (cOf 1 (bX B 1)) (bS B, bD B, bZ B) n) (2 ^ sN (bS B)))) else nI (tgF (tf (sP (bS B)) (vQ (bF B) (cOf 1 (bX B 1)) (bS B, bD B, bZ B) n) (2 ^ sN (bS B))))) h') : wX7_trick_64 (d + 9) (oh_r1 K) (nI n) (nI a) 7 0 (h.2 2 8) 0 h := by
  have hl := cB_law (u := 1) b1 r (by omega)
  have b39 := b3.1
  have hok := b1.1.2.2.2.2.2.2
  have h64 := sPow hok
  have hP := sP_lt hok
  have e28 : h.2 2 8 = lN (sP (bS B)) := b1.1.2.2.2.1
  have hv := vQ_6 (bF B) (cOf 1 (bX B 1)) (bS B, bD B, bZ B) n
  have key : ∀ w, w ≤ 2 ^ sN (bS B) → ∀ h' L, ahF h h' → lfI (sP (bS B)) (vQ (bF B) (cOf 1 (bX B 1)) (bS B, bD B, bZ B) n) L w → wX7_trick_64 (d + 9) (oh_r1 K) (nI n) (nI a) (nI (tgF (tf (sP (bS B)) (vQ (bF B) (cOf 1 (bX B 1)) (bS B, bD B, bZ B) n) w))) (nI (tgW (tf (sP (bS B)) (vQ (bF B) (cOf 1 (bX B 1)) (bS B, bD B, bZ B) n) w))) (lN L) (nI w) h' := by
    refine oh_up (fun w hw ih => ?_) ?_
    · intro h' L f hL
      have b1' := cB_ah b1 f
      refine bX7_trick_64 (sX4_worldCount (Or.inl rfl) b1'.1 (br_f (nI_ge hw (by omega)) (sX7_holds hL.1 (by omega) (oh_bz (fun z => ?_) (fun z => ?_)))))
      · rw [nI_1]
        rw [tf_skip hL z] at ih
        exact ih h' L f (lfI_no hL)
      · have hPw := hL.2.1 w (Nat.le_refl w) z
        refine sX7_startAhead b1' (fun h1 f1 f2 c1 hf => ?_)
        have a1 := ahF_tr f (ahF_s f1 f2)
        have a2 := ahF_tr a1 (ahF_u h1 5 (nI w) (a := 37) (by omega))
        have cs : cI (oh_upi h1 37 5 (nI w)) 37 (xW (bS B, bD B, bZ B) w) := cI_w c1 hw
        refine sX7_ringAhead (fi := bF B) cs (by rw [oh_g1, if_neg (by omega)]; exact hf) (lawIs_ah hl a2) (by show sB (bS B) + n < 500; omega) (fun h2 b cc fr => ?_)
        have a3 := ahF_tr a2 (ahF_o fr)
        have ok2 := iT_ok (l := false) (fi := bF B) (c := cOf 1 (bX B 1)) (x := xW (bS B, bD B, bZ B) w) (xW_ok (x := (bS B, bD B, bZ B)) hok hw) n (by show sB (bS B) + n < 1000; omega)
        have e9 : h2.1 37 9 = nI (sQ (iT false (bF B) (cOf 1 (bX B 1)) (xW (bS B, bD B, bZ B) w) n).1) := cc.1.2.2.2.2.1
        have e8 : h2.2 37 8 = lN (sP (iT false (bF B) (cOf 1 (bX B 1)) (xW (bS B, bD B, bZ B) w) n).1) := cc.1.2.2.2.1
        have hA := sP_lt ok2
        have hv1 := hv w
        rw [e9]
        refine sJ6_bitCount (sQ_lt ok2) ?_
        have hL2 := lfI_yes hL hPw (fun y hy => vQ_alike (fi := bF B) (c := cOf 1 (bX B 1)) (x := (bS B, bD B, bZ B)) hok (by show sB (bS B) + n < 1000; omega) hPw hw hy) hA
        have I := ih h2 _ a3 hL2
        rw [tf_step hv hPw] at I
        have t7 : tgF (tf (sP (bS B)) (vQ (bF B) (cOf 1 (bX B 1)) (bS B, bD B, bZ B) n) w) ≤ 7 := by
          cases ho : tf (sP (bS B)) (vQ (bF B) (cOf 1 (bX B 1)) (bS B, bD B, bZ B) n) w with
          | none => exact Nat.le_refl 7
          | some r => have := (tf_bd hv w r ho).2; show r.2 ≤ 7; omega
        by_cases c : vQ (bF B) (cOf 1 (bX B 1)) (bS B, bD B, bZ B) n w < tgF (tf (sP (bS B)) (vQ (bF B) (cOf 1 (bX B 1)) (bS B, bD B, bZ B) n) w)
        · rw [if_pos c] at I
          refine br_f (nI_ge c (by omega)) (sX7_ranAlike e8 ?_)
          rw [ob_not hA, ob_land, nI_1]
          exact I
        · rw [if_neg c] at I
          refine br_t (nI_le (b := vQ (bF B) (cOf 1 (bX B 1)) (bS B, bD B, bZ B) n w) (by omega) (by omega)) (sX7_ranAlike e8 ?_)
          rw [ob_not hA, ob_land, nI_1]
          exact I
    · intro h' L f hL
      have b1' := cB_ah b1 f
      have Q := q h' f
      refine bX7_trick_64 (sX4_worldCount (Or.inl rfl) b1'.1 (br_t (nI_le (Nat.le_refl _) (by omega)) ?_))
      have : a = 0 ∨ a = 1 := by omega
      rcases this with rfl | rfl
      · exact oh_nf rfl Q
      · exact oh_nt (by decide) Q
  have := key 0 (Nat.zero_le _) h (sP (bS B)) (ahF_rf h) (lfI_0 hP)
  rw [← e28] at this
  exact this

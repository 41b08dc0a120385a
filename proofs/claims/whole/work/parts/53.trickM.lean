theorem txIs_1 {k k' : oh_St} {u : Nat} {t : List Nat} (hu : u < 2) (H : txIs k 1 u t) (e : ∀ b, 38 ≤ b → b < 160 → k'.1 1 b = k.1 1 b) : txIs k' 1 u t := by
  have l5 := H.2.2.2.1
  exact ⟨(e _ (by omega) (by omega)).trans H.1, fun i hi => (e _ (by omega) (by omega)).trans (H.2.1 i hi), H.2.2⟩
theorem mTrick {d n a : Nat} {K : Int32 → oh_St → Prop} {h k : oh_St} {B : oBk} (b1 : cB h 1 B) (b2 : mB k B) (b3 : bOk B) (op : bO B = true) (hn : n ≤ 30) (ha : a < 2)
    (q : ∀ k', back k k' → K (if a = 0 then tgB (tf (sP (bS B)) (vQ (bF B) (cOf 1 (bX B 1)) (bS B, bD B, bZ B) n) (2 ^ sN (bS B))) else nI (tgL (tf (sP (bS B)) (vQ (bF B) (cOf 1 (bX B 1)) (bS B, bD B, bZ B) n) (2 ^ sN (bS B))))) k') : wX8_trick_51 (d + 50) (oh_r1 K) (nI n) (nI a) (-1) 0 0 k := by
  have b39 := b3.1
  have hok := b1.1.2.2.2.2.2.2
  have hn6 := hok.1
  have h64 := sPow hok
  have hP := sP_lt hok
  have hv := vQ_6 (bF B) (cOf 1 (bX B 1)) (bS B, bD B, bZ B) n
  have key : ∀ w, w ≤ 2 ^ sN (bS B) → ∀ k', back k k' → wX8_trick_51 (d + 50) (oh_r1 K) (nI n) (nI a) (tgB (tf (sP (bS B)) (vQ (bF B) (cOf 1 (bX B 1)) (bS B, bD B, bZ B) n) w)) (nI (tgL (tf (sP (bS B)) (vQ (bF B) (cOf 1 (bX B 1)) (bS B, bD B, bZ B) n) w))) (nI w) k' := by
    refine oh_up (fun w hw ih => ?_) ?_
    · intro k' bk
      have m1 := mB_bk b1 b2 bk
      refine bX8_trick_51 ⟨om_in (n := 0) (by omega), ?_⟩
      rw [om_0, m1.1.1, ob_pow (by omega)]
      refine br_f (nI_ge hw (by omega)) (sX8_isPossible (m1.2.1 op) hP (by omega) (oh_bz (fun z => ?_) (fun z => ?_)))
      · rw [nI_1]
        rw [tf, if_neg (by rw [z]; decide)] at ih
        exact ih k' bk
      · refine sX8_begins (fun k1 sv bk1 => ?_)
        have m2 := mB_bk b1 b2 (back_tr bk bk1)
        refine sX8_hatsBecome (mI_B b1 m2 op) hw (fun k2 s2 e2 mm => ?_)
        have sv2 := saved_s sv s2
        have tx2 : txIs k2 1 1 (bX B 1) := txIs_1 (by omega) m2.2.2.2.2.2.2.1 (fun b x y => e2 b (by omega))
        refine sX8_goesOn (l := false) mm tx2 ((e2 4 (by omega)).trans m2.2.2.2.1) (by show sB (bS B) + n < 1000; omega) (fun k3 rk m3 => ⟨om_in (n := 3) (by omega), ?_⟩)
        have ok2 := iT_ok (l := false) (fi := bF B) (c := cOf 1 (bX B 1)) (x := xW (bS B, bD B, bZ B) w) (xW_ok (x := (bS B, bD B, bZ B)) hok hw) n (by show sB (bS B) + n < 1000; omega)
        have q64 := sQ_lt ok2
        rw [om_3, m3.1.2.2.2.1, nI_1]
        refine sX8_ones (by omega) (sX8_ends (saved_r sv2 rk) (fun k4 bk4 => ?_))
        have bk5 := back_tr bk bk4
        have I := ih k4 bk5
        rw [tf, if_pos z] at I
        have hv1 := hv w
        cases ho : tf (sP (bS B)) (vQ (bF B) (cOf 1 (bX B 1)) (bS B, bD B, bZ B) n) w with
        | none =>
          rw [ho] at I
          exact br_t (by decide) I
        | some r =>
          rw [ho] at I
          dsimp only at I
          have hb := tf_bd hv w r ho
          refine br_f (nI_pos (by omega)) ?_
          by_cases c : vQ (bF B) (cOf 1 (bX B 1)) (bS B, bD B, bZ B) n w < r.2
          · rw [if_pos c] at I
            exact br_f (nI_ge (b := r.2) c (by omega)) I
          · rw [if_neg c] at I
            exact br_t (nI_le (a := r.2) (b := vQ (bF B) (cOf 1 (bX B 1)) (bS B, bD B, bZ B) n w) (by omega) (by omega)) I
    · intro k' bk
      have m1 := mB_bk b1 b2 bk
      have Q := q k' bk
      refine bX8_trick_51 ⟨om_in (n := 0) (by omega), ?_⟩
      rw [om_0, m1.1.1, ob_pow (by omega)]
      refine br_t (nI_le (Nat.le_refl _) (by omega)) ?_
      have : a = 0 ∨ a = 1 := by omega
      rcases this with rfl | rfl
      · exact oh_nf rfl Q
      · exact oh_nt (by decide) Q
  exact key 0 (Nat.zero_le _) k (back_rf k)

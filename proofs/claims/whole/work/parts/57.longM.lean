/-- the greater of two -/
def mx2 (a b : Nat) : Nat := if a < b then b else a
theorem mLongest {d n : Nat} {K : Int32 → oh_St → Prop} {h k : oh_St} {B : oBk} (b1 : cB h 1 B) (b2 : mB k B) (b3 : bOk B) (op : bO B = true) (hn : n = 30)
    (q : ∀ k', back k k' → K (nI (mxF (sP (bS B)) (fun w => lastSp (bF B) (cOf 1 (bX B 1)) (xW (bS B, bD B, bZ B) w) n) (2 ^ sN (bS B)))) k') : wX8_longest_20 (d + 50) (oh_r1 K) 0 0 k := by
  have b39 := b3.1
  have e30 : (30 : Int32) = nI n := by rw [hn]; rfl
  have hok := b1.1.2.2.2.2.2.2
  have hn6 := hok.1
  have h64 := sPow hok
  have hP := sP_lt hok
  have hv : ∀ w, (fun w => lastSp (bF B) (cOf 1 (bX B 1)) (xW (bS B, bD B, bZ B) w) n) w ≤ n := fun w => lastSp_le _ _ _ n
  have key : ∀ w, w ≤ 2 ^ sN (bS B) → ∀ k', back k k' → wX8_longest_20 (d + 50) (oh_r1 K) (nI (mxF (sP (bS B)) (fun w => lastSp (bF B) (cOf 1 (bX B 1)) (xW (bS B, bD B, bZ B) w) n) w)) (nI w) k' := by
    refine oh_up (fun w hw ih => ?_) ?_
    · intro k' bk
      have m1 := mB_bk b1 b2 bk
      have hm := mxF_le (P := sP (bS B)) hv w
      refine bX8_longest_20 ⟨om_in (n := 0) (by omega), ?_⟩
      rw [om_0, m1.1.1, ob_pow (by omega)]
      refine br_f (nI_ge hw (by omega)) (sX8_isPossible (m1.2.1 op) hP (by omega) (oh_bz (fun z => ?_) (fun z => ?_)))
      · rw [nI_1]
        rw [mxF, if_neg (by rw [z]; decide)] at ih
        exact ih k' bk
      · refine sX8_begins (fun k1 sv bk1 => ?_)
        have m2 := mB_bk b1 b2 (back_tr bk bk1)
        refine sX8_hatsBecome (mI_B b1 m2 op) hw (fun k2 s2 e2 mm => ?_)
        have sv2 := saved_s sv s2
        have tx2 : txIs k2 1 1 (bX B 1) := txIs_1 (by omega) m2.2.2.2.2.2.2.1 (fun b x y => e2 b (by omega))
        have f2 : k2.1 1 4 = bF B := (e2 4 (by omega)).trans m2.2.2.2.1
        have okw := xW_ok (x := (bS B, bD B, bZ B)) hok hw
        rw [mxF, if_pos z] at ih
        -- the bells of one world
        have inner : ∀ i, i ≤ n → ∀ k3, rF k2 k3 → mI k3 (iT false (bF B) (cOf 1 (bX B 1)) (xW (bS B, bD B, bZ B) w) i) → wX8_longest_52 (d + 50) (oh_r1 K) (nI (mx2 (mxF (sP (bS B)) (fun w => lastSp (bF B) (cOf 1 (bX B 1)) (xW (bS B, bD B, bZ B) w) n) w) (lastSp (bF B) (cOf 1 (bX B 1)) (xW (bS B, bD B, bZ B) w) i))) (nI w) (nI (i + 1)) k3 := by
          refine oh_up (fun i hi ih2 => ?_) ?_
          · intro k3 rk m3
            have ok3 := iT_ok (l := false) (fi := bF B) (c := cOf 1 (bX B 1)) okw i (by show sB (bS B) + i < 1000; omega)
            have ok4 := iT_ok (l := false) (fi := bF B) (c := cOf 1 (bX B 1)) okw (i + 1) (by show sB (bS B) + (i + 1) < 1000; omega)
            refine bX8_longest_52 ?_
            rw [e30]
            refine (br_f (nI_nlt (by omega) (by omega)) ⟨om_in (n := 3) (by omega), mRing (l := false) m3 (txIs_r (by omega) tx2 rk) ((rk.2.1 4 (by omega) (by omega) (by omega) (by omega)).trans f2) (by rw [iT_B]; show sB (bS B) + i + 1 < 1000; omega) (fun k4 r4 m4 => ⟨om_in (n := 3) (by omega), ?_⟩)⟩)
            have I := ih2 k4 (rF_tr rk r4) m4
            have e4 : k4.1 1 3 = nI (sQ (iT false (bF B) (cOf 1 (bX B 1)) (xW (bS B, bD B, bZ B) w) (i + 1)).1) := m4.1.2.2.2.1
            rw [om_3, m3.1.2.2.2.1, e4, nI_1]
            have q3 := sQ_lt ok3
            have q4 := sQ_lt ok4
            have ll := lastSp_le (bF B) (cOf 1 (bX B 1)) (xW (bS B, bD B, bZ B) w) i
            rw [lastSp] at I
            refine ⟨fun y => ?_, fun y => ?_⟩
            · have y := (nI_eq (by omega) (by omega)).mp y
              rw [if_pos y] at I
              exact I
            · have y : ¬ sQ (iT false (bF B) (cOf 1 (bX B 1)) (xW (bS B, bD B, bZ B) w) (i + 1)).1 = sQ (iT false (bF B) (cOf 1 (bX B 1)) (xW (bS B, bD B, bZ B) w) i).1 := fun e => y (by rw [e])
              rw [if_neg y] at I
              by_cases c : i + 1 ≤ mx2 (mxF (sP (bS B)) (fun w => lastSp (bF B) (cOf 1 (bX B 1)) (xW (bS B, bD B, bZ B) w) n) w) (lastSp (bF B) (cOf 1 (bX B 1)) (xW (bS B, bD B, bZ B) w) i)
              · have e : mx2 (mxF (sP (bS B)) (fun w => lastSp (bF B) (cOf 1 (bX B 1)) (xW (bS B, bD B, bZ B) w) n) w) (i + 1) = mx2 (mxF (sP (bS B)) (fun w => lastSp (bF B) (cOf 1 (bX B 1)) (xW (bS B, bD B, bZ B) w) n) w) (lastSp (bF B) (cOf 1 (bX B 1)) (xW (bS B, bD B, bZ B) w) i) := by
                  unfold mx2 at c ⊢
                  split at c
                  · omega
                  · rw [if_neg (by omega), if_neg (by omega)]
                rw [e] at I
                have b30 : mx2 (mxF (sP (bS B)) (fun w => lastSp (bF B) (cOf 1 (bX B 1)) (xW (bS B, bD B, bZ B) w) n) w) (lastSp (bF B) (cOf 1 (bX B 1)) (xW (bS B, bD B, bZ B) w) i) ≤ n := by
                  unfold mx2
                  split <;> omega
                exact br_t (nI_le c (by omega)) I
              · have e : mx2 (mxF (sP (bS B)) (fun w => lastSp (bF B) (cOf 1 (bX B 1)) (xW (bS B, bD B, bZ B) w) n) w) (i + 1) = i + 1 := by
                  unfold mx2 at c ⊢
                  split at c
                  · rw [if_pos (by omega)]
                  · rw [if_pos (by omega)]
                rw [e] at I
                exact br_f (nI_ge (by omega) (by omega)) I
          · intro k3 rk m3
            refine bX8_longest_52 ?_
            rw [e30]
            refine (br_t (nI_lt (by omega) (by omega)) (sX8_ends (saved_r sv2 rk) (fun k4 bk4 => ?_)))
            rw [nI_1]
            exact ih k4 (back_tr bk bk4)
        have I0 := inner 0 (Nat.zero_le _) k2 (rF_rf k2) mm
        have e0 : mx2 (mxF (sP (bS B)) (fun w => lastSp (bF B) (cOf 1 (bX B 1)) (xW (bS B, bD B, bZ B) w) n) w) (lastSp (bF B) (cOf 1 (bX B 1)) (xW (bS B, bD B, bZ B) w) 0) = mxF (sP (bS B)) (fun w => lastSp (bF B) (cOf 1 (bX B 1)) (xW (bS B, bD B, bZ B) w) n) w := by
          unfold mx2 lastSp
          rw [if_neg (by omega)]
        rw [e0] at I0
        exact I0
    · intro k' bk
      have m1 := mB_bk b1 b2 bk
      refine bX8_longest_20 ⟨om_in (n := 0) (by omega), ?_⟩
      rw [om_0, m1.1.1, ob_pow (by omega)]
      exact br_t (nI_le (Nat.le_refl _) (by omega)) (q k' bk)
  exact key 0 (Nat.zero_le _) k (back_rf k)

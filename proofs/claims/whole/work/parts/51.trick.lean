/-! BOTH SIDES: trick, longest -/
def tgF (o : Option (Nat × Nat)) : Nat := match o with
  | none => 7
  | some r => r.2
def tgW (o : Option (Nat × Nat)) : Nat := match o with
  | none => 0
  | some r => r.1
def tgB (o : Option (Nat × Nat)) : Int32 := match o with
  | none => -1
  | some r => nI r.1
def tgL (o : Option (Nat × Nat)) : Nat := match o with
  | none => 0
  | some r => r.2
theorem tf_step {P : Nat} {v : Nat → Nat} {w : Nat} (hv : ∀ w, v w ≤ 6) (hw : P.testBit w = true) : tf P v (w + 1) = if v w < tgF (tf P v w) then some (w, v w) else tf P v w := by
  have := hv w
  rw [tf, if_pos hw]
  cases tf P v w with
  | none =>
    rw [if_pos (show v w < 7 by omega)]
  | some r => rfl
theorem tf_some {P n : Nat} {v : Nat → Nat} (h0 : ¬ P = 0) (hP : P < 2 ^ n) : ∃ r, tf P v n = some r := by
  cases h : tf P v n with
  | some r => exact ⟨r, rfl⟩
  | none =>
    exfalso
    apply h0
    apply ob_ext
    intro j
    rw [Nat.zero_testBit]
    by_cases hj : j < n
    · exact (tf_min n).2 h j hj
    · exact ob_hi hP (by omega)
theorem saved_s {k k1 k2 : oh_St} (sv : saved k k1) (s : oSame k1 k2 [1]) : saved k k2 := ⟨fun b hb => (s.1 2 b (by simp)).trans (sv.1 b hb), by rw [s.2]; exact sv.2.1, kF_tr sv.2.2 ⟨fun a b x => s.1 a b (by simp; omega), by rw [s.2]⟩⟩
theorem vQ_6 (fi : Int32) (c : List Nat) (x : oI) (n w : Nat) : vQ fi c x n w ≤ 6 := ob_ct6 _
theorem cTrick {d n a : Nat} {K : Int32 → oh_St → Prop} {h : oh_St} {B : oBk} (b1 : cB h 1 B) (r : h.1 7 0 = 0 ∧ h.1 11 0 = 1) (b3 : bOk B) (hn : n ≤ 30) (ha : a < 2)
    (q : ∀ h', ahF h h' → K (if a = 0 then nI (tgW (tf (sP (bS B)) (vQ (bF B) (cOf 1 (bX B 1)) (bS B, bD B, bZ B) n) (2 ^ sN (bS B)))) else nI (tgF (tf (sP (bS B)) (vQ (bF B) (cOf 1 (bX B 1)) (bS B, bD B, bZ B) n) (2 ^ sN (bS B))))) h') : wX7_trick_64 (d + 9) (oh_r1 K) (nI n) (nI a) 7 0 (h.2 2 8) 0 h := by
  have hl := cB_law (u := 1) b1 r (by omega)
  have b39 := b3.1
  have hok := b1.1.2.2.2.2.2.2
  have h64 := sPow hok
  have hP := sP_lt hok
  have e28 : h.2 2 8 = lN (sP (bS B)) := b1.1.2.2.2.1
  have hv := vQ_6 (bF B) (cOf 1 (bX B 1)) (bS B, bD B, bZ B) n
  have key : ∀ w, w ≤ 2 ^ sN (bS B) → ∀ h' L, ahF h h' → lfI (sP (bS B)) (vQ (bF B) (cOf 1 (bX B 1)) (bS B, bD B, bZ B) n) L w → wX7_trick_64 (d + 9) (oh_r1 K) (nI n) (nI a) (nI (tgF (tf (sP (bS B)) (vQ (bF B) (cOf 1 (bX B 1)) (bS B, bD B, bZ B) n) w))) (nI (tgW (tf (sP (bS B)) (vQ (bF B) (cOf 1 (bX B 1)) (bS B, bD B, bZ B) n) w))) (lN L) (nI w) h' := by
    refine oh_up (fun w hw ih => ?_) ?_
    · intro h' L f hL
      have b1' := cB_ah b1 f
      refine bX7_trick_64 (sX4_worldCount (Or.inl rfl) b1'.1 (br_f (nI_ge hw (by omega)) (sX7_holds hL.1 (by omega) (oh_bz (fun z => ?_) (fun z => ?_)))))
      · rw [nI_1]
        rw [tf_skip hL z] at ih
        exact ih h' L f (lfI_no hL)
      · have hPw := hL.2.1 w (Nat.le_refl w) z
        refine sX7_startAhead b1' (fun h1 f1 f2 c1 hf => ?_)
        have a1 := ahF_tr f (ahF_s f1 f2)
        have a2 := ahF_tr a1 (ahF_u h1 5 (nI w) (a := 37) (by omega))
        have cs : cI (oh_upi h1 37 5 (nI w)) 37 (xW (bS B, bD B, bZ B) w) := cI_w c1 hw
        refine sX7_ringAhead (fi := bF B) cs (by rw [oh_g1, if_neg (by omega)]; exact hf) (lawIs_ah hl a2) (by show sB (bS B) + n < 500; omega) (fun h2 b cc fr => ?_)
        have a3 := ahF_tr a2 (ahF_o fr)
        have ok2 := iT_ok (l := false) (fi := bF B) (c := cOf 1 (bX B 1)) (x := xW (bS B, bD B, bZ B) w) (xW_ok (x := (bS B, bD B, bZ B)) hok hw) n (by show sB (bS B) + n < 1000; omega)
        have e9 : h2.1 37 9 = nI (sQ (iT false (bF B) (cOf 1 (bX B 1)) (xW (bS B, bD B, bZ B) w) n).1) := cc.1.2.2.2.2.1
        have e8 : h2.2 37 8 = lN (sP (iT false (bF B) (cOf 1 (bX B 1)) (xW (bS B, bD B, bZ B) w) n).1) := cc.1.2.2.2.1
        have hA := sP_lt ok2
        have hv1 := hv w
        rw [e9]
        refine sJ6_bitCount (sQ_lt ok2) ?_
        have hL2 := lfI_yes hL hPw (fun y hy => vQ_alike (fi := bF B) (c := cOf 1 (bX B 1)) (x := (bS B, bD B, bZ B)) hok (by show sB (bS B) + n < 1000; omega) hPw hw hy) hA
        have I := ih h2 _ a3 hL2
        rw [tf_step hv hPw] at I
        have e : lN L &&& (h2.2 37 8 ^^^ (-1 : Int64)) = lN (L &&& ob_m (fun j => !(sP (iT false (bF B) (cOf 1 (bX B 1)) (xW (bS B, bD B, bZ B) w) n).1).testBit j) 64) := by rw [e8, ob_not hA, ob_land]
        have t7 : tgF (tf (sP (bS B)) (vQ (bF B) (cOf 1 (bX B 1)) (bS B, bD B, bZ B) n) w) ≤ 7 := by
          cases ho : tf (sP (bS B)) (vQ (bF B) (cOf 1 (bX B 1)) (bS B, bD B, bZ B) n) w with
          | none => exact Nat.le_refl 7
          | some r => have := (tf_bd hv w r ho).2; show r.2 ≤ 7; omega
        by_cases c : vQ (bF B) (cOf 1 (bX B 1)) (bS B, bD B, bZ B) n w < tgF (tf (sP (bS B)) (vQ (bF B) (cOf 1 (bX B 1)) (bS B, bD B, bZ B) n) w)
        · rw [if_pos c] at I
          refine br_f (nI_ge c (by omega)) (mX7_ranAlike ?_)
          show wX7_trick_64 _ _ _ _ _ _ (lN L &&& (h2.2 37 8 ^^^ (-1 : Int64))) _ _
          rw [e, nI_1]
          exact I
        · rw [if_neg c] at I
          refine br_t (nI_le (by omega) (show vQ (bF B) (cOf 1 (bX B 1)) (bS B, bD B, bZ B) n w < 2 ^ 31 by omega)) (mX7_ranAlike ?_)
          show wX7_trick_64 _ _ _ _ _ _ (lN L &&& (h2.2 37 8 ^^^ (-1 : Int64))) _ _
          rw [e, nI_1]
          exact I
    · intro h' L f hL
      have b1' := cB_ah b1 f
      have Q := q h' f
      refine bX7_trick_64 (sX4_worldCount (Or.inl rfl) b1'.1 (br_t (nI_le (Nat.le_refl _) (by omega)) ?_))
      have : a = 0 ∨ a = 1 := by omega
      rcases this with rfl | rfl
      · exact oh_nf rfl Q
      · exact oh_nt (by decide) Q
  have := key 0 (Nat.zero_le _) h (sP (bS B)) (ahF_rf h) (lfI_0 hP)
  rw [← e28] at this
  exact this
theorem txIs_1 {k k' : oh_St} {u : Nat} {t : List Nat} (hu : u < 2) (H : txIs k 1 u t) (e : ∀ b, 38 ≤ b → b < 160 → k'.1 1 b = k.1 1 b) : txIs k' 1 u t := by
  have l5 := H.2.2.2.1
  exact ⟨(e _ (by omega) (by omega)).trans H.1, fun i hi => (e _ (by omega) (by omega)).trans (H.2.1 i hi), H.2.2⟩
theorem mTrick {d n a : Nat} {K : Int32 → oh_St → Prop} {h k : oh_St} {B : oBk} (b1 : cB h 1 B) (b2 : mB k B) (b3 : bOk B) (op : bO B = true) (hn : n ≤ 30) (ha : a < 2)
    (q : ∀ k', back k k' → K (if a = 0 then tgB (tf (sP (bS B)) (vQ (bF B) (cOf 1 (bX B 1)) (bS B, bD B, bZ B) n) (2 ^ sN (bS B))) else nI (tgL (tf (sP (bS B)) (vQ (bF B) (cOf 1 (bX B 1)) (bS B, bD B, bZ B) n) (2 ^ sN (bS B))))) k') : wX8_trick_51 (d + 50) (oh_r1 K) (nI n) (nI a) (-1) 0 0 k := by
  have b39 := b3.1
  have hok := b1.1.2.2.2.2.2.2
  have hn6 := hok.1
  have h64 := sPow hok
  have hP := sP_lt hok
  have hv := vQ_6 (bF B) (cOf 1 (bX B 1)) (bS B, bD B, bZ B) n
  have key : ∀ w, w ≤ 2 ^ sN (bS B) → ∀ k', back k k' → wX8_trick_51 (d + 50) (oh_r1 K) (nI n) (nI a) (tgB (tf (sP (bS B)) (vQ (bF B) (cOf 1 (bX B 1)) (bS B, bD B, bZ B) n) w)) (nI (tgL (tf (sP (bS B)) (vQ (bF B) (cOf 1 (bX B 1)) (bS B, bD B, bZ B) n) w))) (nI w) k' := by
    refine oh_up (fun w hw ih => ?_) ?_
    · intro k' bk
      have m1 := mB_bk b1 b2 bk
      refine bX8_trick_51 ⟨om_in (n := 0) (by omega), ?_⟩
      rw [om_0, m1.1.1, ob_pow (by omega)]
      refine br_f (nI_ge hw (by omega)) (sX8_isPossible (m1.2.1 op) hP (by omega) (oh_bz (fun z => ?_) (fun z => ?_)))
      · rw [nI_1]
        rw [tf, if_neg (by rw [z]; decide)] at ih
        exact ih k' bk
      · refine sX8_begins (fun k1 sv bk1 => ?_)
        have m2 := mB_bk b1 b2 (back_tr bk bk1)
        refine sX8_hatsBecome (mI_B b1 m2 op) hw (fun k2 s2 e2 mm => ?_)
        have sv2 := saved_s sv s2
        have tx2 : txIs k2 1 1 (bX B 1) := txIs_1 (by omega) m2.2.2.2.2.2.2.1 (fun b x y => e2 b (by omega))
        refine sX8_goesOn (l := false) mm tx2 ((e2 4 (by omega)).trans m2.2.2.2.1) (by show sB (bS B) + n < 1000; omega) (fun k3 rk m3 => ⟨om_in (n := 3) (by omega), ?_⟩)
        have ok2 := iT_ok (l := false) (fi := bF B) (c := cOf 1 (bX B 1)) (x := xW (bS B, bD B, bZ B) w) (xW_ok (x := (bS B, bD B, bZ B)) hok hw) n (by show sB (bS B) + n < 1000; omega)
        have q64 := sQ_lt ok2
        rw [om_3, m3.1.2.2.2.1, nI_1]
        refine sX8_ones (by omega) (sX8_ends (saved_r sv2 rk) (fun k4 bk4 => ?_))
        have bk5 := back_tr bk bk4
        have I := ih k4 bk5
        rw [tf, if_pos z] at I
        have hv1 := hv w
        cases ho : tf (sP (bS B)) (vQ (bF B) (cOf 1 (bX B 1)) (bS B, bD B, bZ B) n) w with
        | none =>
          rw [ho] at I
          exact br_t (by decide) I
        | some r =>
          rw [ho] at I
          dsimp only at I
          have hb := tf_bd hv w r ho
          refine br_f (nI_pos (by omega)) ?_
          by_cases c : vQ (bF B) (cOf 1 (bX B 1)) (bS B, bD B, bZ B) n w < r.2
          · rw [if_pos c] at I
            exact br_f (nI_ge c (by omega)) I
          · rw [if_neg c] at I
            exact br_t (nI_le (by omega) (show vQ (bF B) (cOf 1 (bX B 1)) (bS B, bD B, bZ B) n w < 2 ^ 31 by omega)) I
    · intro k' bk
      have m1 := mB_bk b1 b2 bk
      have Q := q k' bk
      refine bX8_trick_51 ⟨om_in (n := 0) (by omega), ?_⟩
      rw [om_0, m1.1.1, ob_pow (by omega)]
      refine br_t (nI_le (Nat.le_refl _) (by omega)) ?_
      have : a = 0 ∨ a = 1 := by omega
      rcases this with rfl | rfl
      · exact oh_nf rfl Q
      · exact oh_nt (by decide) Q
  exact key 0 (Nat.zero_le _) k (back_rf k)
theorem p_trick {h k : oh_St} {v w : Int32} (H : R h k) : Both jX7_trick jX8_trick [.int v, .int w] h k := by
  intro d
  obtain ⟨B, b1, b2, b3, r⟩ := id H
  have h27 : h.1 2 7 = oh_b (bO B) := b1.2.1
  have k3 := b2.2.2.1
  have hok := b1.1.2.2.2.2.2.2
  by_cases c : oIn 31 v
  · obtain ⟨n, hn, rfl⟩ := c
    have n30 : n ≤ 30 := by omega
    by_cases c2 : oIn 2 w
    · obtain ⟨a, ha, rfl⟩ := c2
      have pre : ∀ (K : Int32 → oh_St → Prop), _ → MM (d + 100) jX8_trick [.ref 0, .int (nI n), .int (nI a)] k (oh_r1 K) := fun K q => mX8_trick (sX8_inT 0 30 (by decide) (by decide) (nI_pos (by omega)) (nI_nlt (a := 30) (by omega) (by omega)) (br_f (by decide) (sX8_inT 0 1 (by decide) (by decide) (nI_pos (by omega)) (nI_nlt (a := 1) (by omega) (by omega)) (br_f (by decide) q))))
      refine mX7_trick (aheadT n30 (br_f (by decide) (br_f (nI_pos (by omega)) (br_t (nI_le (b := 1) (by omega) (by omega)) ?_))))
      rw [h27]
      refine oh_bn (fun op => cTrick (d := d + 90) b1 r.1 b3 n30 ha (fun h' f => pre _ (sX8_whyY k3 (fun _ => br_t rfl (mTrick (d := d + 49) b1 b2 b3 op n30 ha (fun k' bk => ⟨?_, R_ah H f bk⟩))) (fun y => by rw [op] at y; cases y)))) (fun z => sX7_failed 3 (by decide) (by omega) (by omega) (pre _ (sX8_whyY k3 (fun y => by rw [z] at y; cases y) (fun _ => br_f (by decide) (sX8_finds 3 (by omega) ⟨by decide, R_fail H (by omega)⟩)))))
      obtain ⟨t, ht⟩ := tf_some (v := vQ (bF B) (cOf 1 (bX B 1)) (bS B, bD B, bZ B) n) (b3.2.2.2.2 op) hok.2.2.2.1
      rw [ht]
      rfl
    · have c3 := oIn_out (n := 1) (by omega) c2
      have M : MM (d + 100) jX8_trick [.ref 0, .int (nI n), .int w] k (oh_r1 (fun y k' => (-1000000001 : Int32) = y ∧ R (oh_upi h 59 1 (h.1 59 1 + 1)) k')) := mX8_trick (sX8_inT 0 30 (by decide) (by decide) (nI_pos (by omega)) (nI_nlt (a := 30) (by omega) (by omega)) (br_f (by decide) (sX8_inF 0 1 (by decide) (by decide) c3 (br_t rfl (sX8_whyN (br_f (by decide) (sX8_finds 1 (by omega) ⟨by decide, R_fail H (by omega)⟩)))))))
      refine mX7_trick (aheadT n30 (br_f (by decide) ⟨fun _ => sX7_failed 1 (by decide) (by omega) (by omega) M, fun y => ⟨fun y2 => ?_, fun _ => sX7_failed 1 (by decide) (by omega) (by omega) M⟩⟩))
      exact absurd ((oIn_le (n := 1) (by omega)).mp ⟨y, Int32.not_lt.mpr y2⟩) c2
  · have c3 := oIn_out (n := 30) (by omega) c
    exact mX7_trick (aheadF c (br_t rfl (sX7_failed 1 (by decide) (by omega) (by omega) (mX8_trick (sX8_inF 0 30 (by decide) (by decide) c3 (br_t rfl (sX8_whyN (br_f (by decide) (sX8_finds 1 (by omega) ⟨by decide, R_fail H (by omega)⟩)))))))))
/-- the greatest -/
def mxF (P : Nat) (v : Nat → Nat) : Nat → Nat
  | 0 => 0
  | w + 1 => if P.testBit w then (if mxF P v w < v w then v w else mxF P v w) else mxF P v w
theorem mxF_ge {P : Nat} {v : Nat → Nat} : ∀ w x, x < w → P.testBit x = true → v x ≤ mxF P v w
  | 0, x, h, _ => absurd h (by omega)
  | w + 1, x, h, hP => by
    unfold mxF
    by_cases e : x = w
    · subst e
      rw [if_pos hP]
      split <;> omega
    · have := mxF_ge (P := P) (v := v) w x (by omega) hP
      split
      · split <;> omega
      · exact this
theorem mxF_le {P b : Nat} {v : Nat → Nat} (hv : ∀ w, v w ≤ b) : ∀ w, mxF P v w ≤ b
  | 0 => Nat.zero_le _
  | w + 1 => by
    have := mxF_le (P := P) hv w
    have := hv w
    unfold mxF
    split
    · split <;> omega
    · omega
theorem mxF_skip {P : Nat} {v : Nat → Nat} {L w : Nat} (h : lfI P v L w) (hL : L.testBit w = false) : mxF P v (w + 1) = mxF P v w := by
  rw [mxF]
  by_cases c : P.testBit w = true
  · rw [if_pos c]
    obtain ⟨x, a, b, e⟩ := h.2.2 w (Nat.le_refl w) c hL
    have := mxF_ge (v := v) w x a b
    rw [if_neg (by omega)]
  · rw [if_neg c]
theorem cLongest {d : Nat} {K : Int32 → oh_St → Prop} {h : oh_St} {B : oBk} (b1 : cB h 1 B) (r : h.1 7 0 = 0 ∧ h.1 11 0 = 1) (b3 : bOk B)
    (q : ∀ h', ahF h h' → K (nI (mxF (sP (bS B)) (fun w => lastSp (bF B) (cOf 1 (bX B 1)) (xW (bS B, bD B, bZ B) w) 30) (2 ^ sN (bS B)))) h') : wX7_longest_36 (d + 9) (oh_r1 K) 0 (h.2 2 8) 0 h := by
  have hl := cB_law (u := 1) b1 r (by omega)
  have b39 := b3.1
  have hok := b1.1.2.2.2.2.2.2
  have h64 := sPow hok
  have hP := sP_lt hok
  have e28 : h.2 2 8 = lN (sP (bS B)) := b1.1.2.2.2.1
  have hv : ∀ w, (fun w => lastSp (bF B) (cOf 1 (bX B 1)) (xW (bS B, bD B, bZ B) w) 30) w ≤ 30 := fun w => lastSp_le _ _ _ 30
  have key : ∀ w, w ≤ 2 ^ sN (bS B) → ∀ h' L, ahF h h' → lfI (sP (bS B)) (fun w => lastSp (bF B) (cOf 1 (bX B 1)) (xW (bS B, bD B, bZ B) w) 30) L w → wX7_longest_36 (d + 9) (oh_r1 K) (nI (mxF (sP (bS B)) (fun w => lastSp (bF B) (cOf 1 (bX B 1)) (xW (bS B, bD B, bZ B) w) 30) w)) (lN L) (nI w) h' := by
    refine oh_up (fun w hw ih => ?_) ?_
    · intro h' L f hL
      have b1' := cB_ah b1 f
      have hm := mxF_le (P := sP (bS B)) hv w
      refine bX7_longest_36 (sX4_worldCount (Or.inl rfl) b1'.1 (br_f (nI_ge hw (by omega)) (sX7_holds hL.1 (by omega) (oh_bz (fun z => ?_) (fun z => ?_)))))
      · rw [nI_1]
        rw [mxF_skip hL z] at ih
        exact ih h' L f (lfI_no hL)
      · have hPw := hL.2.1 w (Nat.le_refl w) z
        refine sX7_startAhead b1' (fun h1 f1 f2 c1 hf => ?_)
        have a1 := ahF_tr f (ahF_s f1 f2)
        have a2 := ahF_tr a1 (ahF_u h1 5 (nI w) (a := 37) (by omega))
        have cs : cI (oh_upi h1 37 5 (nI w)) 37 (xW (bS B, bD B, bZ B) w) := cI_w c1 hw
        refine sX7_ringAhead (n := 30) (fi := bF B) cs (by rw [oh_g1, if_neg (by omega)]; exact hf) (lawIs_ah hl a2) (by show sB (bS B) + 30 < 500; omega) (fun h2 b cc fr => ?_)
        have a3 := ahF_tr a2 (ahF_o fr)
        have ok2 := iT_ok (l := false) (fi := bF B) (c := cOf 1 (bX B 1)) (x := xW (bS B, bD B, bZ B) w) (xW_ok (x := (bS B, bD B, bZ B)) hok hw) 30 (by show sB (bS B) + 30 < 1000; omega)
        have e8 : h2.2 37 8 = lN (sP (iT false (bF B) (cOf 1 (bX B 1)) (xW (bS B, bD B, bZ B) w) 30).1) := cc.1.2.2.2.1
        have hA := sP_lt ok2
        have hv1 : lastSp (bF B) (cOf 1 (bX B 1)) (xW (bS B, bD B, bZ B) w) 30 ≤ 30 := hv w
        have hL2 := lfI_yes hL hPw (fun y hy => lastSp_alike (fi := bF B) (c := cOf 1 (bX B 1)) (x := (bS B, bD B, bZ B)) hok (by show sB (bS B) + 30 < 1000; omega) hPw hw hy 30 (Nat.le_refl 30)) hA
        have I := ih h2 _ a3 hL2
        rw [mxF, if_pos hPw] at I
        have e : lN L &&& (h2.2 37 8 ^^^ (-1 : Int64)) = lN (L &&& ob_m (fun j => !(sP (iT false (bF B) (cOf 1 (bX B 1)) (xW (bS B, bD B, bZ B) w) 30).1).testBit j) 64) := by rw [e8, ob_not hA, ob_land]
        by_cases c : mxF (sP (bS B)) (fun w => lastSp (bF B) (cOf 1 (bX B 1)) (xW (bS B, bD B, bZ B) w) 30) w < lastSp (bF B) (cOf 1 (bX B 1)) (xW (bS B, bD B, bZ B) w) 30
        · rw [if_pos c] at I
          refine mJ9_max_7cf53 (br_t (nI_lt c (by omega)) (mX7_ranAlike ?_))
          show wX7_longest_36 _ _ _ (lN L &&& (h2.2 37 8 ^^^ (-1 : Int64))) _ _
          rw [e, nI_1]
          exact I
        · rw [if_neg c] at I
          refine mJ9_max_7cf53 (br_f (nI_nlt (by omega) (by omega)) (mX7_ranAlike ?_))
          show wX7_longest_36 _ _ _ (lN L &&& (h2.2 37 8 ^^^ (-1 : Int64))) _ _
          rw [e, nI_1]
          exact I
    · intro h' L f hL
      have b1' := cB_ah b1 f
      exact bX7_longest_36 (sX4_worldCount (Or.inl rfl) b1'.1 (br_t (nI_le (Nat.le_refl _) (by omega)) (q h' f)))
  have := key 0 (Nat.zero_le _) h (sP (bS B)) (ahF_rf h) (lfI_0 hP)
  rw [← e28] at this
  exact this
/-- the greater of two -/
def mx2 (a b : Nat) : Nat := if a < b then b else a
theorem mLongest {d : Nat} {K : Int32 → oh_St → Prop} {h k : oh_St} {B : oBk} (b1 : cB h 1 B) (b2 : mB k B) (b3 : bOk B) (op : bO B = true)
    (q : ∀ k', back k k' → K (nI (mxF (sP (bS B)) (fun w => lastSp (bF B) (cOf 1 (bX B 1)) (xW (bS B, bD B, bZ B) w) 30) (2 ^ sN (bS B)))) k') : wX8_longest_20 (d + 50) (oh_r1 K) 0 0 k := by
  have b39 := b3.1
  have hok := b1.1.2.2.2.2.2.2
  have hn6 := hok.1
  have h64 := sPow hok
  have hP := sP_lt hok
  have hv : ∀ w, (fun w => lastSp (bF B) (cOf 1 (bX B 1)) (xW (bS B, bD B, bZ B) w) 30) w ≤ 30 := fun w => lastSp_le _ _ _ 30
  have key : ∀ w, w ≤ 2 ^ sN (bS B) → ∀ k', back k k' → wX8_longest_20 (d + 50) (oh_r1 K) (nI (mxF (sP (bS B)) (fun w => lastSp (bF B) (cOf 1 (bX B 1)) (xW (bS B, bD B, bZ B) w) 30) w)) (nI w) k' := by
    refine oh_up (fun w hw ih => ?_) ?_
    · intro k' bk
      have m1 := mB_bk b1 b2 bk
      have hm := mxF_le (P := sP (bS B)) hv w
      refine bX8_longest_20 ⟨om_in (n := 0) (by omega), ?_⟩
      rw [om_0, m1.1.1, ob_pow (by omega)]
      refine br_f (nI_ge hw (by omega)) (sX8_isPossible (m1.2.1 op) hP (by omega) (oh_bz (fun z => ?_) (fun z => ?_)))
      · rw [nI_1]
        rw [mxF, if_neg (by rw [z]; decide)] at ih
        exact ih k' bk
      · refine sX8_begins (fun k1 sv bk1 => ?_)
        have m2 := mB_bk b1 b2 (back_tr bk bk1)
        refine sX8_hatsBecome (mI_B b1 m2 op) hw (fun k2 s2 e2 mm => ?_)
        have sv2 := saved_s sv s2
        have tx2 : txIs k2 1 1 (bX B 1) := txIs_1 (by omega) m2.2.2.2.2.2.2.1 (fun b x y => e2 b (by omega))
        have f2 : k2.1 1 4 = bF B := (e2 4 (by omega)).trans m2.2.2.2.1
        have okw := xW_ok (x := (bS B, bD B, bZ B)) hok hw
        rw [mxF, if_pos z] at ih
        -- the bells of one world
        have inner : ∀ i, i ≤ 30 → ∀ k3, rF k2 k3 → mI k3 (iT false (bF B) (cOf 1 (bX B 1)) (xW (bS B, bD B, bZ B) w) i) → wX8_longest_52 (d + 50) (oh_r1 K) (nI (mx2 (mxF (sP (bS B)) (fun w => lastSp (bF B) (cOf 1 (bX B 1)) (xW (bS B, bD B, bZ B) w) 30) w) (lastSp (bF B) (cOf 1 (bX B 1)) (xW (bS B, bD B, bZ B) w) i))) (nI w) (nI (i + 1)) k3 := by
          refine oh_up (fun i hi ih2 => ?_) ?_
          · intro k3 rk m3
            have ok3 := iT_ok (l := false) (fi := bF B) (c := cOf 1 (bX B 1)) okw i (by show sB (bS B) + i < 1000; omega)
            have ok4 := iT_ok (l := false) (fi := bF B) (c := cOf 1 (bX B 1)) okw (i + 1) (by show sB (bS B) + (i + 1) < 1000; omega)
            refine bX8_longest_52 (br_f (nI_nlt (a := 30) (by omega) (by omega)) ⟨om_in (n := 3) (by omega), mRing (l := false) m3 (txIs_r (by omega) tx2 rk) ((rk.2.1 4 (by omega) (by omega) (by omega) (by omega)).trans f2) (by rw [iT_B]; show sB (bS B) + i + 1 < 1000; omega) (fun k4 r4 m4 => ⟨om_in (n := 3) (by omega), ?_⟩)⟩)
            have I := ih2 k4 (rF_tr rk r4) m4
            have e4 : k4.1 1 3 = nI (sQ (iT false (bF B) (cOf 1 (bX B 1)) (xW (bS B, bD B, bZ B) w) (i + 1)).1) := m4.1.2.2.2.1
            rw [om_3, m3.1.2.2.2.1, e4, nI_1]
            have q3 := sQ_lt ok3
            have q4 := sQ_lt ok4
            have ll := lastSp_le (bF B) (cOf 1 (bX B 1)) (xW (bS B, bD B, bZ B) w) i
            rw [lastSp] at I
            refine ⟨fun y => ?_, fun y => ?_⟩
            · have y := (nI_eq (by omega) (by omega)).mp y
              rw [if_pos y] at I
              exact I
            · have y : ¬ sQ (iT false (bF B) (cOf 1 (bX B 1)) (xW (bS B, bD B, bZ B) w) (i + 1)).1 = sQ (iT false (bF B) (cOf 1 (bX B 1)) (xW (bS B, bD B, bZ B) w) i).1 := fun e => y (by rw [e])
              rw [if_neg y] at I
              by_cases c : i + 1 ≤ mx2 (mxF (sP (bS B)) (fun w => lastSp (bF B) (cOf 1 (bX B 1)) (xW (bS B, bD B, bZ B) w) 30) w) (lastSp (bF B) (cOf 1 (bX B 1)) (xW (bS B, bD B, bZ B) w) i)
              · have e : mx2 (mxF (sP (bS B)) (fun w => lastSp (bF B) (cOf 1 (bX B 1)) (xW (bS B, bD B, bZ B) w) 30) w) (i + 1) = mx2 (mxF (sP (bS B)) (fun w => lastSp (bF B) (cOf 1 (bX B 1)) (xW (bS B, bD B, bZ B) w) 30) w) (lastSp (bF B) (cOf 1 (bX B 1)) (xW (bS B, bD B, bZ B) w) i) := by
                  unfold mx2 at c ⊢
                  split at c
                  · omega
                  · rw [if_neg (by omega), if_neg (by omega)]
                rw [e] at I
                have b30 : mx2 (mxF (sP (bS B)) (fun w => lastSp (bF B) (cOf 1 (bX B 1)) (xW (bS B, bD B, bZ B) w) 30) w) (lastSp (bF B) (cOf 1 (bX B 1)) (xW (bS B, bD B, bZ B) w) i) ≤ 30 := by
                  unfold mx2
                  split <;> omega
                exact br_t (nI_le c (by omega)) I
              · have e : mx2 (mxF (sP (bS B)) (fun w => lastSp (bF B) (cOf 1 (bX B 1)) (xW (bS B, bD B, bZ B) w) 30) w) (i + 1) = i + 1 := by
                  unfold mx2 at c ⊢
                  split at c
                  · rw [if_pos (by omega)]
                  · rw [if_pos (by omega)]
                rw [e] at I
                exact br_f (nI_ge (by omega) (by omega)) I
          · intro k3 rk m3
            refine bX8_longest_52 (br_t (nI_lt (a := 30) (by omega) (by omega)) (sX8_ends (saved_r sv2 rk) (fun k4 bk4 => ?_)))
            rw [nI_1]
            exact ih k4 (back_tr bk bk4)
        have I0 := inner 0 (Nat.zero_le _) k2 (rF_rf k2) mm
        have e0 : mx2 (mxF (sP (bS B)) (fun w => lastSp (bF B) (cOf 1 (bX B 1)) (xW (bS B, bD B, bZ B) w) 30) w) (lastSp (bF B) (cOf 1 (bX B 1)) (xW (bS B, bD B, bZ B) w) 0) = mxF (sP (bS B)) (fun w => lastSp (bF B) (cOf 1 (bX B 1)) (xW (bS B, bD B, bZ B) w) 30) w := by
          unfold mx2 lastSp
          rw [if_neg (by omega)]
        rw [e0] at I0
        exact I0
    · intro k' bk
      have m1 := mB_bk b1 b2 bk
      refine bX8_longest_20 ⟨om_in (n := 0) (by omega), ?_⟩
      rw [om_0, m1.1.1, ob_pow (by omega)]
      exact br_t (nI_le (Nat.le_refl _) (by omega)) (q k' bk)
  exact key 0 (Nat.zero_le _) k (back_rf k)
theorem p_longest {h k : oh_St} (H : R h k) : Both jX7_longest jX8_longest [] h k := by
  intro d
  obtain ⟨B, b1, b2, b3, r⟩ := id H
  have h27 : h.1 2 7 = oh_b (bO B) := b1.2.1
  have k3 := b2.2.2.1
  refine mX7_longest ?_
  rw [h27]
  exact oh_bn (fun op => cLongest (d := d + 90) b1 r.1 b3 (fun h' f => mX8_longest (sX8_whyY k3 (fun _ => br_t rfl (mLongest (d := d + 49) b1 b2 b3 op (fun k' bk => ⟨rfl, R_ah H f bk⟩))) (fun y => by rw [op] at y; cases y)))) (fun z => sX7_failed 3 (by decide) (by omega) (by omega) (mX8_longest (sX8_whyY k3 (fun y => by rw [z] at y; cases y) (fun _ => br_f (by decide) (sX8_finds 3 (by omega) ⟨by decide, R_fail H (by omega)⟩)))))

/-! BOTH SIDES: worlds -/
/-- a world that is among the numbers of a sheet -/
def inSh (f : Nat → Int32) : Nat → Nat → Bool
  | 0, _ => false
  | i + 1, y => inSh f i y || decide (f i = nI y)
theorem inSh_no {f : Nat → Int32} {i y : Nat} (h : ¬ f i = nI y) : inSh f (i + 1) y = inSh f i y := by
  show (inSh f i y || decide (f i = nI y)) = inSh f i y
  rw [decide_eq_false h, Bool.or_false]
theorem inSh_c {f g : Nat → Int32} {y : Nat} : ∀ n, (∀ i, i < n → f i = g i) → inSh f n y = inSh g n y
  | 0, _ => rfl
  | n + 1, h => by
    unfold inSh
    rw [inSh_c n (fun i hi => h i (by omega)), h n (by omega)]
theorem ob_m_set {f g : Nat → Bool} {x n : Nat} (hx : x < n) (h : ∀ y, y < n → g y = (f y || decide (x = y))) : ob_m f n ||| 2 ^ x = ob_m g n := ob_ext (fun y => by
  rw [Nat.testBit_or, ob_m_bit, ob_m_bit, Nat.testBit_two_pow]
  by_cases c : y < n
  · rw [h y c]
    simp [c]
  · have : ¬ x = y := by omega
    simp [c, this])
theorem sX5_asWorlds {d s n : Nat} {K : Int64 → oh_St → Prop} {h : oh_St} (hs : s < 4) (hn : n ≤ 40) (e : h.1 (51 + 2 * s) 1 = nI n) (q : K (lN (ob_m (inSh (h.1 (52 + 2 * s)) n) 64)) h) : CM (d + 1) jX5_asWorlds [.ref (51 + 2 * s)] h (oh_r2 K) := by
  have ho := sh_o hs
  have e1 : 52 + 2 * s = (51 + 2 * s) + 1 := by omega
  rw [e1] at q
  generalize 51 + 2 * s = o at ho q e ⊢
  refine mX5_asWorlds ho ?_
  have key : ∀ i, i ≤ n → wX5_asWorlds_4 d (oh_r2 K) o (lN (ob_m (inSh (h.1 (o + 1)) i) 64)) (nI i) h := by
    refine oh_up (fun i hi ih => ?_) ?_
    · have i4 : vp_in (nI i) 40 := oh_in (by omega) (by omega)
      refine bX5_asWorlds_4 ho ?_
      rw [e, oh_cl (by omega), nI_1]
      have out : (∀ y, y < 64 → ¬ h.1 (o + 1) i = nI y) → wX5_asWorlds_4 d (oh_r2 K) o (lN (ob_m (inSh (h.1 (o + 1)) i) 64)) (nI (i + 1)) h := fun hy => by
        rw [ob_m_cong (g := inSh (h.1 (o + 1)) (i + 1)) (fun y hy2 => (inSh_no (hy y hy2)).symm)]
        exact ih
      refine br_f (nI_ge hi (by omega)) ⟨i4, fun y => out (fun y' hy' z => ?_), fun y => ⟨i4, fun y2 => out (fun y' hy' z => ?_), fun y2 => ⟨i4, ?_⟩⟩⟩
      · rw [z] at y
        exact nI_pos (by omega) y
      · rw [z] at y2
        exact nI_ge (b := 64) hy' (by omega) y2
      · obtain ⟨x, hx, ex⟩ := (oh_rng (n := 64) (by omega)).mp ⟨y, Int32.not_le.mp y2⟩
        rw [ex, ob_lpow hx, ob_lor, ob_m_set (g := inSh (h.1 (o + 1)) (i + 1)) hx (fun y hy => ?_)]
        · exact ih
        · show (inSh (h.1 (o + 1)) i y || decide (h.1 (o + 1) i = nI y)) = _
          have e2 : decide (nI x = nI y) = decide (x = y) := decide_eq_decide.mpr (nI_eq (by omega) (by omega))
          rw [ex, e2]
    · refine bX5_asWorlds_4 ho ?_
      rw [e]
      exact br_t (nI_le (Nat.le_refl n) (by omega)) q
  exact key 0 (Nat.zero_le _)
/-- what is left of the possible worlds -/
def shP (S : oS) (f : Nat → Int32) (n : Nat) : Nat := ob_m (fun y => (sP S).testBit y && inSh f n y) (2 ^ sN S)
theorem shP_and {S : oS} (hok : sOk S) (f : Nat → Int32) (n : Nat) : sP S &&& ob_m (inSh f n) 64 = shP S f n := ob_ext (fun y => by
  have h64 := sPow hok
  unfold shP
  rw [Nat.testBit_and, ob_m_bit, ob_m_bit]
  by_cases c : y < 2 ^ sN S
  · have : y < 64 := by omega
    simp [c, this]
  · rw [ob_hi hok.2.2.2.1 (by omega : 2 ^ sN S ≤ y)]
    simp)
theorem bWorlds {d s : Nat} {Q : oh_Q} {h : oh_St} (hs : s < 4) (q : ((¬ (h.1 (51 + 2 * s) 0) = 0 → CM d jX5_asWorlds [.ref (51 + 2 * s)] h (oh_r2 (fun x2 h1 => (((h1.1 2 7) = 0 → CM d jX7_failed [.ref 0, .int (-1000000003 : Int32)] h1 (oh_r1 (fun x4 h3 => Q (some (.int x4)) h3))) ∧ (¬ (h1.1 2 7) = 0 → CM d jX7_holds [.long ((h.2 2 8) &&& x2), .int (h1.1 2 5)] h1 (oh_r1 (fun x6 h5 => ((¬ x6 = 0 → CM d jJ13_bitCount_95d88 [.long ((h.2 2 8) &&& x2)] (oh_upl h5 2 8 ((h.2 2 8) &&& x2)) (oh_r1 (fun x8 h7 => Q (some (.int x8)) h7))) ∧ (x6 = 0 → CM d jX7_failed [.ref 0, .int (-1000000003 : Int32)] h5 (oh_r1 (fun x10 h9 => Q (some (.int x10)) h9))))))))))) ∧ ((h.1 (51 + 2 * s) 0) = 0 → CM d jX7_failed [.ref 0, .int (-1000000002 : Int32)] h (oh_r1 (fun x12 h11 => Q (some (.int x12)) h11))))) : wX7_worlds_14 d Q (nI s) h := by
  have is : vp_in (nI s) 4 := oh_in hs (by omega)
  have : s = 0 ∨ s = 1 ∨ s = 2 ∨ s = 3 := by omega
  rcases this with rfl | rfl | rfl | rfl
  · exact bX7_worlds_14_0 ⟨is, fun y => ⟨is, q.1 y⟩, q.2⟩
  · exact bX7_worlds_14_1 ⟨is, fun y => ⟨is, q.1 y⟩, q.2⟩
  · exact bX7_worlds_14_2 ⟨is, fun y => ⟨is, q.1 y⟩, q.2⟩
  · exact bX7_worlds_14_3 ⟨is, fun y => ⟨is, q.1 y⟩, q.2⟩
theorem mWorlds {d s n : Nat} {K : Int32 → oh_St → Prop} {k : oh_St} {S : oS} (hk : mSc k S) (hs : s < 4) (hn : n ≤ 40) (e : k.1 12 s = nI n) (q1 : (shP S (fun i => k.1 13 (40 * s + i)) n).testBit (sW S) = true → K (nI (ob_ct (shP S (fun i => k.1 13 (40 * s + i)) n) 64)) (oh_upl k 0 3 (lN (shP S (fun i => k.1 13 (40 * s + i)) n)))) (q0 : (shP S (fun i => k.1 13 (40 * s + i)) n).testBit (sW S) = false → K (-1000000003) (oh_upi k 4 3 (k.1 4 3 + 1))) : wX8_worlds_46 (d + 3) (oh_r1 K) (nI s) 0 0 k := by
  have hok := hk.2.2.2.2.2
  have hn6 := hok.1
  have h64 := sPow hok
  have hP := sP_lt hok
  have hW := sW_lt hok
  have p2 := Nat.two_pow_pos (sN S)
  have is : vp_in (nI s) 4 := oh_in hs (by omega)
  have key : ∀ i, i ≤ n → wX8_worlds_46 (d + 3) (oh_r1 K) (nI s) (lN (shP S (fun i => k.1 13 (40 * s + i)) i)) (nI i) k := by
    refine oh_up (fun i hi ih => ?_) ?_
    · refine bX8_worlds_46 ⟨is, ?_⟩
      rw [oh_cl (by omega), e, idx_40, oh_cl (by omega), nI_1, om_or0L]
      have out : (∀ y, y < 2 ^ sN S → (sP S).testBit y = true → ¬ k.1 13 (40 * s + i) = nI y) → wX8_worlds_46 (d + 3) (oh_r1 K) (nI s) (lN (shP S (fun i => k.1 13 (40 * s + i)) i)) (nI (i + 1)) k := fun hy => by
        have : shP S (fun i => k.1 13 (40 * s + i)) i = shP S (fun i => k.1 13 (40 * s + i)) (i + 1) := ob_m_cong (fun y hy2 => by
          cases hb : (sP S).testBit y
          · rfl
          · rw [inSh_no (f := fun i => k.1 13 (40 * s + i)) (hy y hy2 hb)])
        rw [this]
        exact ih
      refine br_f (nI_ge hi (by omega)) ⟨oh_in (by omega) (by omega), sX8_allMen hk.1 hn6 ?_⟩
      by_cases c : oIn (2 ^ sN S) (k.1 13 (40 * s + i))
      · obtain ⟨x, hx, ex⟩ := c
        rw [ex]
        refine sX8_inT 0 (nI (2 ^ sN S - 1)) (by decide) rfl (nI_pos (by omega)) (nI_nlt (by omega) (by omega)) (br_f (by decide) (sX8_isPossible hk.2.2.1 hP (by omega) (oh_bz (fun z => out (fun y hy hb u => ?_)) (fun z => ?_))))
        · rw [ex] at u
          have := (nI_eq (by omega) (by omega)).mp u
          rw [← this, z] at hb
          cases hb
        · rw [ob_lpow (by omega), ob_lor]
          have : shP S (fun i => k.1 13 (40 * s + i)) i ||| 2 ^ x = shP S (fun i => k.1 13 (40 * s + i)) (i + 1) := ob_m_set hx (fun y hy => by
            show ((sP S).testBit y && (inSh (fun i => k.1 13 (40 * s + i)) i y || decide (k.1 13 (40 * s + i) = nI y))) = _
            rw [ex]
            have e2 : decide (nI x = nI y) = decide (x = y) := decide_eq_decide.mpr (nI_eq (by omega) (by omega))
            rw [e2]
            by_cases u : x = y
            · subst u
              rw [z]
              simp
            · simp [u])
          rw [this]
          exact ih
      · have c3 := oIn_no (by omega) c
        refine sX8_inF 0 (nI (2 ^ sN S - 1)) (by decide) rfl ?_ (br_t rfl (out (fun y hy hb u => c ⟨y, hy, u⟩)))
        rcases c3 with c3 | c3
        · exact Or.inl c3
        · refine Or.inr (Int32.lt_of_lt_of_le (nI_lt (show 2 ^ sN S - 1 < 2 ^ sN S by omega) (by omega)) c3)
    · refine bX8_worlds_46 ⟨is, ?_⟩
      rw [oh_cl (by omega), e]
      refine br_t (nI_le (Nat.le_refl n) (by omega)) (sX8_hats hk ?_)
      have sl : shP S (fun i => k.1 13 (40 * s + i)) n < 2 ^ 64 := Nat.lt_of_lt_of_le (ob_m_lt _ _) (Nat.pow_le_pow_right (by omega) h64)
      rw [ob_sbit hW, Nat.mod_eq_of_lt sl, oh_cmp0, ob_b0]
      refine oh_nc (fun y => ?_) (fun y => sX8_finds 3 (by omega) (q0 y))
      rw [oh_g4, if_pos ⟨rfl, rfl⟩]
      exact sX8_manyOf sl (q1 (by simpa using y))
  have e0 : shP S (fun i => k.1 13 (40 * s + i)) 0 = 0 := ob_ext (fun y => by
    unfold shP
    rw [ob_m_bit, Nat.zero_testBit]
    simp [inSh])
  have := key 0 (Nat.zero_le _)
  rw [e0] at this
  exact this
theorem p_worlds {h k : oh_St} {v : Int32} (H : R h k) : Both jX7_worlds jX8_worlds [.int v] h k := by
  intro d
  obtain ⟨B, b1, b2, b3, r⟩ := id H
  have sh := r.2.2.2.2.2
  have h27 : h.1 2 7 = oh_b (bO B) := b1.2.1
  have h25 : h.1 2 5 = nI (sW (bS B)) := b1.1.2.2.1
  have h28 : h.2 2 8 = lN (sP (bS B)) := b1.1.2.2.2.1
  have k3 := b2.2.2.1
  have hok := b1.1.2.2.2.2.2.2
  have hW := sW_lt hok
  have h64 := sPow hok
  by_cases c : oIn 4 v
  · obtain ⟨s, hs, rfl⟩ := c
    obtain ⟨⟨a1, a2⟩, ⟨n, a3, a4, a5⟩, a6⟩ := sh s hs
    have is : vp_in (nI s) 4 := oh_in hs (by omega)
    have pre : ∀ (K : Int32 → oh_St → Prop), _ → MM (d + 100) jX8_worlds [.ref 0, .int (nI s)] k (oh_r1 K) := fun K q => mX8_worlds (sX8_isSheetT hs (oh_nt (by decide) ⟨is, q⟩))
    rw [oh_cl (by omega)] at pre
    refine mX7_worlds (sheetT hs (oh_nt (by decide) (bWorlds hs (oh_nc (fun y => sX5_asWorlds hs a3 a4 ?_) (fun y => sX7_failed 2 (by decide) (by omega) (by omega) (pre _ (oh_nf (by rw [← a1]; exact y) (sX8_finds 2 (by omega) ⟨by decide, R_fail H (by omega)⟩))))))))
    rw [a1] at y
    have ec : ob_m (inSh (h.1 (52 + 2 * s)) n) 64 = ob_m (inSh (fun i => k.1 13 (40 * s + i)) n) 64 := ob_m_cong (fun y _ => inSh_c n (fun i hi => a6 i (by omega)))
    rw [h28, ob_land, ec, shP_and hok, h27, h25]
    have sl : shP (bS B) (fun i => k.1 13 (40 * s + i)) n < 2 ^ 64 := Nat.lt_of_lt_of_le (ob_m_lt _ _) (Nat.pow_le_pow_right (by omega) h64)
    refine oh_bz (fun z => sX7_failed 3 (by decide) (by omega) (by omega) (pre _ (oh_nt y (sX8_isOpen k3 ?_)))) (fun z => sX7_holds sl hW (oh_bn (fun u => sJ13_bitCount sl (pre _ (oh_nt y (sX8_isOpen k3 ?_)))) (fun u => sX7_failed 3 (by decide) (by omega) (by omega) (pre _ (oh_nt y (sX8_isOpen k3 ?_))))))
    · rw [z]
      exact oh_nf rfl (sX8_finds 3 (by omega) ⟨by decide, R_fail H (by omega)⟩)
    · rw [z]
      refine oh_nt (by decide) (mWorlds (d := d + 96) (mSc_0 b2.1 (b2.2.1 z) hok) hs a3 a5 (fun _ => ⟨rfl, ?_⟩) (fun u0 => by rw [u] at u0; cases u0))
      obtain ⟨h1, h2, h3, h4, h5, h6, h7, h8, h9⟩ := id b1
      obtain ⟨k1, k2, k3, k4, k5, k6, k7, k8, k9, k10⟩ := id b2
      have ok2 : sOk (sWith (bS B) (shP (bS B) (fun i => k.1 13 (40 * s + i)) n)) := ⟨hok.1, hok.2.1, hok.2.2.1, ob_m_lt _ _, hok.2.2.2.2.1, hok.2.2.2.2.2⟩
      refine R_sc b1 b2 b3 r (sWith (bS B) (shP (bS B) (fun i => k.1 13 (40 * s + i)) n)) (bO B) (bF B) (bD B) (bZ B) ⟨⟨h1.1, h1.2.1, h1.2.2.1, ?_, h1.2.2.2.2.1, h1.2.2.2.2.2.1, ok2⟩, h2, h3, h4, h9⟩ (fun _ _ _ => rfl) ⟨⟨k1.1, k1.2.1, k1.2.2.1, k1.2.2.2⟩, fun _ => ?_, k3, k4, k5, k10⟩ (fun _ _ => rfl) ⟨b3.1, b3.2.2.1, (fun z0 => by rw [z] at z0; cases z0), fun _ z0 => ?_⟩ ⟨fun _ _ _ => rfl, rfl, rfl, ?_⟩ ⟨fun _ _ _ => rfl, ?_⟩
      · rw [oh_g4, if_pos ⟨rfl, rfl⟩]; rfl
      · rw [oh_g4, if_pos ⟨rfl, rfl⟩]; rfl
      · have z0 : shP (bS B) (fun i => k.1 13 (40 * s + i)) n = 0 := z0
        rw [z0, Nat.zero_testBit] at u
        cases u
      · rw [oh_g4, if_neg (by omega)]
      · rw [oh_g4, if_neg (by omega)]
    · rw [z]
      exact oh_nt (by decide) (mWorlds (d := d + 96) (mSc_0 b2.1 (b2.2.1 z) hok) hs a3 a5 (fun u1 => by rw [u] at u1; cases u1) (fun _ => ⟨rfl, R_fail H (by omega)⟩))
  · exact mX7_worlds (sheetF c (oh_nf rfl (sX7_failed 1 (by decide) (by omega) (by omega) (mX8_worlds (sX8_isSheetF c (oh_nf rfl (sX8_finds 1 (by omega) ⟨by decide, R_fail H (by omega)⟩)))))))

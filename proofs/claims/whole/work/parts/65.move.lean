/-! BOTH SIDES: move -/
theorem bMove {d s t : Nat} {Q : oh_Q} {h : oh_St} {v2 v4 v5 : Int32} (hs : s < 4) (ht : t < 4) (q : (((h.1 (51 + 2 * s) 0) = 0 → CM d jX7_failed [.ref 0, .int (-1000000002 : Int32)] h (oh_r1 (fun x2 h1 => Q (some (.int x2)) h1))) ∧ (¬ (h.1 (51 + 2 * s) 0) = 0 → ((¬ (h.1 (51 + 2 * t) 0) = 0 → (((h.1 (51 + 2 * s) 0) = (h.1 (51 + 2 * t) 0) → CM d jX5_hasRun [.ref (51 + 2 * s), .int v2, .int v5] h (oh_r1 (fun x4 h3 => ((x4 = 0 → CM d jX7_failed [.ref 0, .int (-1000000001 : Int32)] h3 (oh_r1 (fun x6 h5 => Q (some (.int x6)) h5))) ∧ (¬ x4 = 0 → CM d jX5_hasRun [.ref (51 + 2 * t), .int v4, .int v5] h3 (oh_r1 (fun x8 h7 => ((¬ x8 = 0 → ((¬ v2 < 0 ∧ ¬ v4 < 0 ∧ ¬ v5 < 0 ∧ v2.toNatClampNeg + v5.toNatClampNeg ≤ 40 ∧ v4.toNatClampNeg + v5.toNatClampNeg ≤ 40) ∧ Q (some (.int v5)) (oh_upa h7 (52 + 2 * t) (va_cpy (h7.1 (52 + 2 * s)) (h7.1 (52 + 2 * t)) v2.toNatClampNeg v4.toNatClampNeg v5.toNatClampNeg)))) ∧ (x8 = 0 → CM d jX7_failed [.ref 0, .int (-1000000001 : Int32)] h7 (oh_r1 (fun x10 h9 => Q (some (.int x10)) h9))))))))))) ∧ (¬ (h.1 (51 + 2 * s) 0) = (h.1 (51 + 2 * t) 0) → CM d jX7_failed [.ref 0, .int (-1000000005 : Int32)] h (oh_r1 (fun x12 h11 => Q (some (.int x12)) h11))))) ∧ ((h.1 (51 + 2 * t) 0) = 0 → CM d jX7_failed [.ref 0, .int (-1000000002 : Int32)] h (oh_r1 (fun x14 h13 => Q (some (.int x14)) h13))))))) : wX7_move_21 d Q (nI s) v2 (nI t) v4 v5 h := by
  have is : vp_in (nI s) 4 := oh_in hs (by omega)
  have it : vp_in (nI t) 4 := oh_in ht (by omega)
  have es : s = 0 ∨ s = 1 ∨ s = 2 ∨ s = 3 := by omega
  have et : t = 0 ∨ t = 1 ∨ t = 2 ∨ t = 3 := by omega
  rcases es with rfl | rfl | rfl | rfl
  · rcases et with rfl | rfl | rfl | rfl
    · exact bX7_move_21_00 ⟨is, it, q⟩
    · exact bX7_move_21_01 ⟨is, it, q⟩
    · exact bX7_move_21_02 ⟨is, it, q⟩
    · exact bX7_move_21_03 ⟨is, it, q⟩
  · rcases et with rfl | rfl | rfl | rfl
    · exact bX7_move_21_10 ⟨is, it, q⟩
    · exact bX7_move_21_11 ⟨is, it, q⟩
    · exact bX7_move_21_12 ⟨is, it, q⟩
    · exact bX7_move_21_13 ⟨is, it, q⟩
  · rcases et with rfl | rfl | rfl | rfl
    · exact bX7_move_21_20 ⟨is, it, q⟩
    · exact bX7_move_21_21 ⟨is, it, q⟩
    · exact bX7_move_21_22 ⟨is, it, q⟩
    · exact bX7_move_21_23 ⟨is, it, q⟩
  · rcases et with rfl | rfl | rfl | rfl
    · exact bX7_move_21_30 ⟨is, it, q⟩
    · exact bX7_move_21_31 ⟨is, it, q⟩
    · exact bX7_move_21_32 ⟨is, it, q⟩
    · exact bX7_move_21_33 ⟨is, it, q⟩
theorem runT {d s a i n : Nat} {K : Int32 → oh_St → Prop} {h : oh_St} (hs : s < 4) (ha : a ≤ 40) (e : h.1 (51 + 2 * s) 1 = nI a) (hr : i + n ≤ a) (q : K 1 h) : CM (d + 1) jX5_hasRun [.ref (51 + 2 * s), .int (nI i), .int (nI n)] h (oh_r1 K) := by
  refine mX5_hasRun (sh_o hs) ?_
  rw [e, om_sub (by omega)]
  exact br_f (nI_pos (by omega)) (br_f (nI_pos (by omega)) (br_f (nI_nlt (by omega) (by omega)) (br_f (nI_nlt (by omega) (by omega)) ⟨oh_i1, q⟩)))
theorem runF {d s a : Nat} {i n : Int32} {K : Int32 → oh_St → Prop} {h : oh_St} (hs : s < 4) (ha : a ≤ 40) (e : h.1 (51 + 2 * s) 1 = nI a) (hr : ¬ ∃ i' n' : Nat, i = nI i' ∧ n = nI n' ∧ i' + n' ≤ a) (q : K 0 h) : CM (d + 1) jX5_hasRun [.ref (51 + 2 * s), .int i, .int n] h (oh_r1 K) := by
  refine mX5_hasRun (sh_o hs) ?_
  rw [e]
  refine ⟨fun _ => ⟨oh_i0, q⟩, fun c => ⟨fun _ => ⟨oh_i0, q⟩, fun c2 => ⟨fun _ => ⟨oh_i0, q⟩, fun c3 => ⟨fun _ => ⟨oh_i0, q⟩, fun c4 => ?_⟩⟩⟩⟩
  obtain ⟨n', hn, rfl⟩ := nI_of c
  obtain ⟨i', hi, rfl⟩ := nI_of c2
  have l1 : ¬ a < n' := fun z => c3 (nI_lt z (by omega))
  rw [om_sub (by omega)] at c4
  have l2 : ¬ a - n' < i' := fun z => c4 (nI_lt z (by omega))
  exact absurd ⟨i', n', rfl, rfl, by omega⟩ hr
theorem sub_lt {a i n : Nat} (ha : a ≤ 40) (hi : i < 2 ^ 31) (hn : n < 2 ^ 31) : nI a - nI i < nI n ↔ a < n + i := by
  by_cases c : i ≤ a
  · rw [om_sub c, nI_ltI (by omega) hn]
    omega
  · have e : (nI a - nI i).toInt = (a : Int) - i := by
      rw [Int32.toInt_sub, nI_toInt (by omega), nI_toInt hi]
      rw [Int.bmod_def]
      split <;> omega
    rw [Int32.lt_iff_toInt_lt, e, nI_toInt hn]
    omega
theorem idx_402 (s i j : Nat) : (((40 : Int32) * nI s) + nI i) + nI j = nI (40 * s + i + j) := by rw [idx_40, nI_add]
theorem mMove {d s i t j n : Nat} {K : Int32 → oh_St → Prop} {k : oh_St} (hs : s < 4) (ht : t < 4) (hi : i + n ≤ 40) (hj : j + n ≤ 40) (q : ∀ k', (∀ a b, a ≠ 13 → a ≠ 14 → k'.1 a b = k.1 a b) → (∀ b, k'.1 13 b = if 40 * t + j ≤ b ∧ b < 40 * t + j + n then k.1 13 (40 * s + i + (b - (40 * t + j))) else k.1 13 b) → k'.2 = k.2 → K (nI n) k') : wX8_move_115 d (oh_r1 K) (nI s) (nI i) (nI t) (nI j) (nI n) 0 k := by
  have two : ∀ c, c ≤ n → ∀ k', (∀ a b, a ≠ 13 → a ≠ 14 → k'.1 a b = k.1 a b) → (∀ b, b < n → k'.1 14 b = k.1 13 (40 * s + i + b)) → (∀ b, k'.1 13 b = if 40 * t + j ≤ b ∧ b < 40 * t + j + c then k.1 13 (40 * s + i + (b - (40 * t + j))) else k.1 13 b) → k'.2 = k.2 → wX8_move_152 d (oh_r1 K) (nI t) (nI j) (nI n) (nI c) k' := by
    refine oh_up (fun c hc ih => ?_) ?_
    · intro k' f l z f2
      refine bX8_move_152 (br_f (nI_ge hc (by omega)) ?_)
      rw [idx_402, oh_cl (by omega), oh_cl (by omega), nI_1]
      refine ⟨oh_in (by omega) (by omega), oh_in (by omega) (by omega), ih _ (fun a b x y => ?_) (fun b hb => ?_) (fun b => ?_) f2⟩
      · rw [oh_g1, if_neg (fun w => x w.1)]; exact f a b x y
      · rw [oh_g1, if_neg (by omega)]; exact l b hb
      · rw [oh_g1]
        by_cases y : b = 40 * t + j + c
        · rw [if_pos ⟨rfl, y⟩, if_pos (by omega), l c hc]
          exact congrArg (k.1 13) (by omega)
        · rw [if_neg (fun w => y w.2), z b]
          by_cases y2 : 40 * t + j ≤ b ∧ b < 40 * t + j + c
          · rw [if_pos y2, if_pos (by omega)]
          · rw [if_neg y2, if_neg (by omega)]
    · intro k' f l z f2
      exact bX8_move_152 (br_t (nI_le (Nat.le_refl n) (by omega)) (q k' f z f2))
  have one : ∀ c, c ≤ n → ∀ k', (∀ a b, a ≠ 14 → k'.1 a b = k.1 a b) → (∀ b, b < c → k'.1 14 b = k.1 13 (40 * s + i + b)) → k'.2 = k.2 → wX8_move_115 d (oh_r1 K) (nI s) (nI i) (nI t) (nI j) (nI n) (nI c) k' := by
    refine oh_up (fun c hc ih => ?_) ?_
    · intro k' f l f2
      refine bX8_move_115 (br_f (nI_ge hc (by omega)) ?_)
      rw [idx_402, oh_cl (by omega), oh_cl (by omega), nI_1]
      refine ⟨oh_in (by omega) (by omega), oh_in (by omega) (by omega), ih _ (fun a b x => ?_) (fun b hb => ?_) f2⟩
      · rw [oh_g1, if_neg (fun w => x w.1)]; exact f a b x
      · rw [oh_g1]
        by_cases y : b = c
        · rw [if_pos ⟨rfl, y⟩, f 13 _ (by omega), y]
        · rw [if_neg (fun w => y w.2)]; exact l b (by omega)
    · intro k' f l f2
      refine bX8_move_115 (br_t (nI_le (Nat.le_refl n) (by omega)) (two 0 (Nat.zero_le _) k' (fun a b x y => f a b y) l (fun b => ?_) f2))
      rw [if_neg (by omega)]
      exact f 13 b (by omega)
  exact one 0 (Nat.zero_le _) k (fun _ _ _ => rfl) (fun b hb => absurd hb (by omega)) rfl
theorem p_move {h k : oh_St} {v w x y z : Int32} (H : R h k) : Both jX7_move jX8_move [.int v, .int w, .int x, .int y, .int z] h k := by
  intro d
  obtain ⟨B, b1, b2, b3, r⟩ := id H
  have sh := r.2.2.2.2.2
  by_cases c : oIn 4 v
  · obtain ⟨s, hs, rfl⟩ := c
    by_cases c2 : oIn 4 x
    · obtain ⟨t, ht, rfl⟩ := c2
      obtain ⟨⟨a1, a2⟩, ⟨a, a3, a4, a5⟩, a6⟩ := sh s hs
      obtain ⟨⟨g1, g2⟩, ⟨b, g3, g4, g5⟩, g6⟩ := sh t ht
      have is : vp_in (nI s) 4 := oh_in hs (by omega)
      have it : vp_in (nI t) 4 := oh_in ht (by omega)
      refine mX7_move (sheetT hs (br_f (by decide) (sheetT ht (oh_nt (by decide) (bMove hs ht ?_)))))
      have pre : ∀ (K : Int32 → oh_St → Prop), _ → MM (d + 100) jX8_move [.ref 0, .int (nI s), .int w, .int (nI t), .int y, .int z] k (oh_r1 K) := fun K q => mX8_move (sX8_isSheetT hs (br_f (by decide) (sX8_isSheetT ht (oh_nt (by decide) ⟨is, q⟩))))
      rw [oh_cl (by omega), oh_cl (by omega)] at pre
      refine ⟨fun e0 => sX7_failed 2 (by decide) (by omega) (by omega) (pre _ (br_t (by rw [← a1]; exact e0) (sX8_finds 2 (by omega) ⟨by decide, R_fail H (by omega)⟩))), fun e0 => ?_⟩
      rw [a1] at e0
      refine oh_nc (fun e1 => ?_) (fun e1 => sX7_failed 2 (by decide) (by omega) (by omega) (pre _ (br_f e0 ⟨it, oh_nf (by rw [← g1]; exact e1) (sX8_finds 2 (by omega) ⟨by decide, R_fail H (by omega)⟩)⟩)))
      rw [g1] at e1
      rw [a1, g1]
      by_cases e2 : k.1 11 s = k.1 11 t
      · refine br_t e2 ?_
        by_cases good : (∃ i' n' : Nat, w = nI i' ∧ z = nI n' ∧ i' + n' ≤ a) ∧ ∃ i' n' : Nat, y = nI i' ∧ z = nI n' ∧ i' + n' ≤ b
        · obtain ⟨⟨i, n, rfl, rfl, l1⟩, j, n2, rfl, en, l2⟩ := good
          have hn : n < 2 ^ 31 := by omega
          by_cases nn : n2 < 2 ^ 31
          · have en : n = n2 := (nI_eq hn nn).mp en
            subst en
            refine runT hs a3 a4 l1 (br_f (by decide) (runT ht g3 g4 l2 (oh_nt (by decide) ⟨⟨nI_pos (by omega), nI_pos (by omega), nI_pos (by omega), ?_, ?_⟩, ?_⟩)))
            · rw [oh_cl (by omega), oh_cl (by omega)]; omega
            · rw [oh_cl (by omega), oh_cl (by omega)]; omega
            · rw [oh_cl (by omega), oh_cl (by omega), oh_cl (by omega)]
              refine pre _ (br_f e0 ⟨it, oh_nt e1 ⟨is, it, br_t e2 (br_f (nI_pos (by omega)) (br_f (nI_pos (by omega)) (br_f (nI_pos (by omega)) ⟨is, ?_⟩)))⟩⟩)
              rw [a5, g5]
              refine br_f (fun u => by have := (sub_lt a3 (by omega) (by omega)).mp u; omega) ⟨it, br_t (Int32.not_lt.mp (fun u => by have := (sub_lt g3 (by omega) (by omega)).mp u; omega)) (mMove hs ht (by omega) (by omega) (fun k' f m f2 => ⟨rfl, R_sh H (fun a' b' u => ?_) rfl (fun a' b' u1 u2 u3 u4 => f a' b' u3 u4) f2 (fun u hu => ?_)⟩))⟩
              · rw [oh_g5, if_neg (by omega)]
              · obtain ⟨⟨q1, q2⟩, ⟨n', q3, q4, q5⟩, q6⟩ := sh u hu
                refine ⟨⟨?_, ?_⟩, ⟨n', q3, ?_, ?_⟩, fun m' hm => ?_⟩
                · rw [oh_g5, if_neg (by omega), f _ _ (by omega) (by omega)]; exact q1
                · rw [f _ _ (by omega) (by omega)]; exact q2
                · rw [oh_g5, if_neg (by omega)]; exact q4
                · rw [f _ _ (by omega) (by omega)]; exact q5
                · rw [oh_g5, m]
                  by_cases e : u = t
                  · subst e
                    rw [if_pos rfl]
                    unfold va_cpy
                    by_cases u1 : j ≤ m' ∧ m' < j + n
                    · rw [if_pos u1, if_pos (by omega), a6 _ (by omega)]
                      exact congrArg (k.1 13) (by omega)
                    · rw [if_neg u1, if_neg (by omega)]
                      exact q6 m' hm
                  · rw [if_neg (by omega), if_neg (by omega)]
                    exact q6 m' hm
          · exact absurd l2 (by omega)
        · have M : MM (d + 100) jX8_move [.ref 0, .int (nI s), .int w, .int (nI t), .int y, .int z] k (oh_r1 (fun y k' => (-1000000001 : Int32) = y ∧ R (oh_upi h 59 1 (h.1 59 1 + 1)) k')) := by
            have F : ∀ (d' : Nat), MM (d' + 1) jX8_finds [.ref 0, .int (nI 1)] k (oh_r1 (fun y k' => (-1000000001 : Int32) = y ∧ R (oh_upi h 59 1 (h.1 59 1 + 1)) k')) := fun d' => sX8_finds 1 (by omega) ⟨by decide, R_fail H (by omega)⟩
            refine pre _ (br_f e0 ⟨it, oh_nt e1 ⟨is, it, br_t e2 ⟨fun _ => F _, fun z0 => ⟨fun _ => F _, fun w0 => ⟨fun _ => F _, fun y0 => ⟨is, fun _ => F _, fun u1 => ⟨it, fun u2 => ?_, fun _ => F _⟩⟩⟩⟩⟩⟩⟩)
            exfalso
            obtain ⟨n, hn, rfl⟩ := nI_of z0
            obtain ⟨i, hi, rfl⟩ := nI_of w0
            obtain ⟨j, hj, rfl⟩ := nI_of y0
            rw [a5] at u1
            rw [g5] at u2
            have l1 : ¬ a < n + i := fun u => u1 ((sub_lt a3 hi hn).mpr u)
            have l2 : ¬ b < n + j := fun u => Int32.not_lt.mpr u2 ((sub_lt g3 hj hn).mpr u)
            exact good ⟨⟨i, n, rfl, rfl, by omega⟩, j, n, rfl, rfl, by omega⟩
          by_cases r1 : ∃ i' n' : Nat, w = nI i' ∧ z = nI n' ∧ i' + n' ≤ a
          · obtain ⟨i, n, rfl, rfl, l1⟩ := r1
            exact runT hs a3 a4 l1 (br_f (by decide) (runF ht g3 g4 (fun u => good ⟨⟨i, n, rfl, rfl, l1⟩, u⟩) (oh_nf rfl (sX7_failed 1 (by decide) (by omega) (by omega) M))))
          · exact runF hs a3 a4 r1 (br_t rfl (sX7_failed 1 (by decide) (by omega) (by omega) M))
      · exact br_f e2 (sX7_failed 5 (by decide) (by omega) (by omega) (pre _ (br_f e0 ⟨it, oh_nt e1 ⟨is, it, br_f e2 (sX8_finds 5 (by omega) ⟨by decide, R_fail H (by omega)⟩)⟩⟩)))
    · exact mX7_move (sheetT hs (br_f (by decide) (sheetF c2 (oh_nf rfl (sX7_failed 1 (by decide) (by omega) (by omega) (mX8_move (sX8_isSheetT hs (br_f (by decide) (sX8_isSheetF c2 (oh_nf rfl (sX8_finds 1 (by omega) ⟨by decide, R_fail H (by omega)⟩)))))))))))
  · exact mX7_move (sheetF c (br_t rfl (sX7_failed 1 (by decide) (by omega) (by omega) (mX8_move (sX8_isSheetF c (br_t rfl (sX8_finds 1 (by omega) ⟨by decide, R_fail H (by omega)⟩)))))))

/-! BOTH SIDES: sheet, put -/
theorem sheetT {d s : Nat} {K : Int32 → oh_St → Prop} {h : oh_St} (hs : s < 4) (q : K 1 h) : CM (d + 1) jX7_isSheet [.int (nI s)] h (oh_r1 K) := mX7_isSheet (br_f (nI_pos (by omega)) (br_f (nI_ge (b := 4) hs (by omega)) ⟨oh_i1, q⟩))
theorem sheetF {d : Nat} {K : Int32 → oh_St → Prop} {h : oh_St} {v : Int32} (hv : ¬ oIn 4 v) (q : K 0 h) : CM (d + 1) jX7_isSheet [.int v] h (oh_r1 K) := mX7_isSheet ⟨fun _ => ⟨oh_i0, q⟩, fun c => ⟨fun _ => ⟨oh_i0, q⟩, fun c2 => absurd (oIn_of (n := 4) (by omega) c c2) hv⟩⟩
theorem sX8_isSheetT {d s : Nat} {K : Int32 → oh_St → Prop} {k : oh_St} (hs : s < 4) (q : K 1 k) : MM (d + 2) jX8_isSheet [.int (nI s)] k (oh_r1 K) := mX8_isSheet (sX8_inT 0 3 (by decide) (by decide) (nI_pos (by omega)) (nI_nlt (a := 3) (by omega) (by omega)) ⟨oh_i1, q⟩)
theorem sX8_isSheetF {d : Nat} {K : Int32 → oh_St → Prop} {k : oh_St} {v : Int32} (hv : ¬ oIn 4 v) (q : K 0 k) : MM (d + 2) jX8_isSheet [.int v] k (oh_r1 K) := mX8_isSheet (sX8_inF 0 3 (by decide) (by decide) (oIn_out (n := 3) (by omega) hv) ⟨oh_i0, q⟩)
/-- other sheets on both sides -/
theorem R_sh {h h' k k' : oh_St} (H : R h k) (e : ∀ a b, (a ≤ 49 ∨ 59 ≤ a) → h'.1 a b = h.1 a b) (e2 : h'.2 = h.2) (f : ∀ a b, a ≠ 11 → a ≠ 12 → a ≠ 13 → a ≠ 14 → k'.1 a b = k.1 a b) (f2 : k'.2 = k.2) (t : ∀ s, s < 4 → shIs h' k' s) : R h' k' := by
  obtain ⟨B, b1, b2, b3, h1, h2, h3, h4, h5, h6⟩ := H
  have hl := cB_len (Or.inl rfl) b1
  have f' : ∀ a b, (a ≤ 10) → k'.1 a b = k.1 a b := fun a b x => f a b (by omega) (by omega) (by omega) (by omega)
  refine ⟨B, cB_c b1 (fun a b x => e a b (by omega)) (by rw [e2]), mB_c b2 (fun b _ => f' 1 b (by omega)) (by rw [f2]) hl.1 hl.2, b3, ⟨?_, ?_⟩, ?_, fun c => ?_, fun i hi => ?_, ?_, t⟩
  · rw [e _ _ (by omega)]; exact h1.1
  · rw [e _ _ (by omega)]; exact h1.2
  · rw [e _ _ (by omega), f' _ _ (by omega)]; exact h2
  · rw [e _ _ (by omega)] at c
    obtain ⟨B', b1', b2', b3'⟩ := h3 c
    have hl' := cB_len (Or.inr rfl) b1'
    refine ⟨B', cB_c b1' (fun a b x => e a b (by omega)) (by rw [e2]), mB_c b2' (fun b _ => ?_) ?_ hl'.1 hl'.2, b3'⟩
    · rw [kp_1, kp_1, f' _ _ (by omega)]
    · rw [kp_3, kp_3, f2]
  · rw [e _ _ (by omega), f' _ _ (by omega)]; exact h4 i hi
  · obtain ⟨tr, t1, t2, t3⟩ := h5
    exact ⟨tr, rowIs_c t1 (fun a b x => e a b (by omega)), (f' _ _ (by omega)).trans t2, fun i hi => (f' _ _ (by omega)).trans (t3 i hi)⟩
/-- one of the four -/
theorem sh_o {s : Nat} (hs : s < 4) : 51 + 2 * s = 51 ∨ 51 + 2 * s = 53 ∨ 51 + 2 * s = 55 ∨ 51 + 2 * s = 57 := by omega
theorem sX5_renew {d s n : Nat} {K : oh_St → Prop} {h : oh_St} {v : Int32} (hs : s < 4) (hn : n ≤ 40) (q : ∀ h', h'.1 (51 + 2 * s) 0 = v → h'.1 (51 + 2 * s) 1 = nI n → (∀ i, i < 40 → h'.1 (52 + 2 * s) i = 0) → (∀ a b, a ≠ 51 + 2 * s → a ≠ 52 + 2 * s → h'.1 a b = h.1 a b) → h'.2 = h.2 → K h') : CM (d + 3) jX5_renew [.ref (51 + 2 * s), .int v, .int (nI n)] h (oh_r0 K) := by
  have ho := sh_o hs
  generalize eo : 51 + 2 * s = o at ho q ⊢
  have e1 : 52 + 2 * s = o + 1 := by omega
  rw [e1] at q
  refine mX5_renew ho (sX7_held (by decide) ?_)
  have hh : oHeld (nI n) 0 40 = nI n := by
    unfold oHeld
    rw [if_neg (nI_pos (by omega)), if_neg (show ¬ (40 : Int32) < nI n from nI_nlt (a := 40) hn (by omega))]
  rw [hh]
  have key : ∀ i, i ≤ 40 → ∀ h', h'.1 o 0 = v → h'.1 o 1 = nI n → (∀ j, j < i → h'.1 (o + 1) j = 0) → (∀ a b, a ≠ o → a ≠ o + 1 → h'.1 a b = h.1 a b) → h'.2 = h.2 → wX5_renew_18 (d + 2) (oh_r0 K) o (nI i) h' := by
    refine oh_up (fun i hi ih => ?_) ?_
    · intro h' c0 c1 z f f2
      refine bX5_renew_18 ho (br_f (nI_ge (b := 40) hi (by omega)) ⟨oh_in hi (by omega), ?_⟩)
      rw [oh_cl (by omega), nI_1]
      refine ih _ ?_ ?_ (fun j hj => ?_) (fun a b x y => ?_) f2
      · rw [oh_g1, if_neg (by omega)]; exact c0
      · rw [oh_g1, if_neg (by omega)]; exact c1
      · rw [oh_g1]
        by_cases y : j = i
        · rw [if_pos ⟨rfl, y⟩]
        · rw [if_neg (fun w => y w.2)]; exact z j (by omega)
      · rw [oh_g1, if_neg (fun w => y w.1)]; exact f a b x y
    · intro h' c0 c1 z f f2
      exact bX5_renew_18 ho (br_t (nI_le (Nat.le_refl 40) (by omega)) (q h' c0 c1 z f f2))
  refine key 0 (by omega) _ ?_ ?_ (fun j hj => absurd hj (by omega)) (fun a b x y => ?_) rfl
  · rw [oh_g1, if_neg (by omega), oh_g1, if_pos ⟨rfl, rfl⟩]
  · rw [oh_g1, if_pos ⟨rfl, rfl⟩]
  · rw [oh_g1, if_neg (fun w => x w.1), oh_g1, if_neg (fun w => x w.1)]
theorem idx_40 (s i : Nat) : ((40 : Int32) * nI s) + nI i = nI (40 * s + i) := by
  have : (40 : Int32) * nI s = nI (40 * s) := (Int32.ofNat_mul 40 s).symm
  rw [this, nI_add]
theorem mSheet {d s : Nat} {K : Int32 → oh_St → Prop} {k : oh_St} (hs : s < 4) (q : ∀ k', (∀ i, i < 40 → k'.1 13 (40 * s + i) = 0) → (∀ a b, ¬ (a = 13 ∧ 40 * s ≤ b ∧ b < 40 * s + 40) → k'.1 a b = k.1 a b) → k'.2 = k.2 → K 1 k') : wX8_sheet_90 d (oh_r1 K) (nI s) 0 k := by
  have key : ∀ i, i ≤ 40 → ∀ k', (∀ j, j < i → k'.1 13 (40 * s + j) = 0) → (∀ a b, ¬ (a = 13 ∧ 40 * s ≤ b ∧ b < 40 * s + 40) → k'.1 a b = k.1 a b) → k'.2 = k.2 → wX8_sheet_90 d (oh_r1 K) (nI s) (nI i) k' := by
    refine oh_up (fun i hi ih => ?_) ?_
    · intro k' z f f2
      refine bX8_sheet_90 (br_f (nI_ge (b := 40) hi (by omega)) ?_)
      rw [idx_40, oh_cl (by omega), nI_1]
      refine ⟨oh_in (by omega) (by omega), ih _ (fun j hj => ?_) (fun a b x => ?_) f2⟩
      · rw [oh_g1]
        by_cases y : j = i
        · rw [if_pos ⟨rfl, by omega⟩]
        · rw [if_neg (by omega)]; exact z j (by omega)
      · rw [oh_g1, if_neg (by omega)]; exact f a b x
    · intro k' z f f2
      exact bX8_sheet_90 (br_t (nI_le (Nat.le_refl 40) (by omega)) (q k' z f f2))
  exact key 0 (by omega) k (fun j hj => absurd hj (by omega)) (fun _ _ _ => rfl) rfl
theorem bSheet {d s : Nat} {Q : oh_Q} {h : oh_St} {v2 v3 : Int32} (hs : s < 4) (q : ((¬ v2 = 0 → CM d jX5_renew [.ref (51 + 2 * s), .int v2, .int v3] h (oh_r0 (fun h1 => Q (some (.int (1 : Int32))) h1))) ∧ (v2 = 0 → CM d jX5_renew [.ref (51 + 2 * s), .int v2, .int (0 : Int32)] h (oh_r0 (fun h2 => Q (some (.int (1 : Int32))) h2))))) : wX7_sheet_68 d Q (nI s) v2 v3 h := by
  have : s = 0 ∨ s = 1 ∨ s = 2 ∨ s = 3 := by omega
  rcases this with rfl | rfl | rfl | rfl
  · exact bX7_sheet_68_0 ⟨oh_in (i := 0) (by omega) (by omega), q⟩
  · exact bX7_sheet_68_1 ⟨oh_in (i := 1) (by omega) (by omega), q⟩
  · exact bX7_sheet_68_2 ⟨oh_in (i := 2) (by omega) (by omega), q⟩
  · exact bX7_sheet_68_3 ⟨oh_in (i := 3) (by omega) (by omega), q⟩
def shI (v2 v3 : Int32) (W F1 F3 : Prop) : Prop := ((v2 = 0 → ((v2 = 0 → W) ∧ (¬ v2 = 0 → ((v3 ≤ (40 : Int32) → W) ∧ (¬ v3 ≤ (40 : Int32) → F1))))) ∧ (¬ v2 = 0 → ((0 ≤ v3 → ((v2 = 0 → W) ∧ (¬ v2 = 0 → ((v3 ≤ (40 : Int32) → W) ∧ (¬ v3 ≤ (40 : Int32) → F1))))) ∧ (¬ 0 ≤ v3 → F3))))
def shT (v2 v3 : Int32) (W F1 F3 : Prop) : Prop := ((v2 = 0 → shI v2 v3 W F1 F3) ∧ (¬ v2 = 0 → ((v2 = (8 : Int32) → shI v2 v3 W F1 F3) ∧ (¬ v2 = (8 : Int32) → ((v2 = (16 : Int32) → shI v2 v3 W F1 F3) ∧ (¬ v2 = (16 : Int32) → ((v2 = (32 : Int32) → shI v2 v3 W F1 F3) ∧ (¬ v2 = (32 : Int32) → F1))))))))
theorem shT_0 {v2 v3 : Int32} {W F1 F3 : Prop} (e : v2 = 0) (w : W) : shT v2 v3 W F1 F3 := br_t e (br_t e (br_t e w))
theorem shT_i {v2 v3 : Int32} {W F1 F3 : Prop} (e : v2 = 8 ∨ v2 = 16 ∨ v2 = 32) (w : shI v2 v3 W F1 F3) : shT v2 v3 W F1 F3 := by
  rcases e with rfl | rfl | rfl
  · exact br_f (by decide) (br_t rfl w)
  · exact br_f (by decide) (br_f (by decide) (br_t rfl w))
  · exact br_f (by decide) (br_f (by decide) (br_f (by decide) (br_t rfl w)))
theorem shT_n {v2 v3 : Int32} {W F1 F3 : Prop} (h0 : ¬ v2 = 0) (e : ¬ (v2 = 8 ∨ v2 = 16 ∨ v2 = 32)) (w : F1) : shT v2 v3 W F1 F3 := br_f h0 (br_f (fun z => e (Or.inl z)) (br_f (fun z => e (Or.inr (Or.inl z))) (br_f (fun z => e (Or.inr (Or.inr z))) w)))
theorem sh_new {h h' k k' : oh_St} {s n : Nat} {v : Int32} (t : ∀ u, u < 4 → shIs h k u) (hs : s < 4) (hn : n ≤ 40) (hv : v = 0 ∨ v = 8 ∨ v = 16 ∨ v = 32) (c0 : h'.1 (51 + 2 * s) 0 = v) (c1 : h'.1 (51 + 2 * s) 1 = nI n) (c2 : ∀ i, i < 40 → h'.1 (52 + 2 * s) i = 0) (f : ∀ a b, a ≠ 51 + 2 * s → a ≠ 52 + 2 * s → h'.1 a b = h.1 a b) (m0 : k'.1 11 s = v) (m1 : k'.1 12 s = nI n) (m2 : ∀ i, i < 40 → k'.1 13 (40 * s + i) = 0) (g : ∀ u, u < 4 → u ≠ s → k'.1 11 u = k.1 11 u ∧ k'.1 12 u = k.1 12 u ∧ ∀ i, i < 40 → k'.1 13 (40 * u + i) = k.1 13 (40 * u + i)) : ∀ u, u < 4 → shIs h' k' u := by
  intro u hu
  by_cases e : u = s
  · subst e
    refine ⟨⟨c0.trans m0.symm, ?_⟩, ⟨n, hn, c1, m1⟩, fun i hi => (c2 i hi).trans (m2 i hi).symm⟩
    rw [m0]; exact hv
  · obtain ⟨⟨a1, a2⟩, ⟨n', a3, a4, a5⟩, a6⟩ := t u hu
    obtain ⟨g1, g2, g3⟩ := g u hu e
    refine ⟨⟨?_, ?_⟩, ⟨n', a3, ?_, ?_⟩, fun i hi => ?_⟩
    · rw [f _ _ (by omega) (by omega), g1]; exact a1
    · rw [g1]; exact a2
    · rw [f _ _ (by omega) (by omega)]; exact a4
    · rw [g2]; exact a5
    · rw [f _ _ (by omega) (by omega), g3 i hi]; exact a6 i hi
theorem p_sheet {h k : oh_St} {v w x : Int32} (H : R h k) : Both jX7_sheet jX8_sheet [.int v, .int w, .int x] h k := by
  intro d
  obtain ⟨B, b1, b2, b3, r⟩ := id H
  have t := r.2.2.2.2.2
  by_cases c : oIn 4 v
  · obtain ⟨s, hs, rfl⟩ := c
    -- done alike
    have go : ∀ (K : Int32 → oh_St → Prop) (n : Nat), n ≤ 40 → (w = 0 ∨ w = 8 ∨ w = 16 ∨ w = 32) → ∀ h', R h k → h'.1 (51 + 2 * s) 0 = w → h'.1 (51 + 2 * s) 1 = nI n → (∀ i, i < 40 → h'.1 (52 + 2 * s) i = 0) → (∀ a b, a ≠ 51 + 2 * s → a ≠ 52 + 2 * s → h'.1 a b = h.1 a b) → h'.2 = h.2 → wX8_sheet_90 (d + 99) (oh_r1 (fun y k' => 1 = y ∧ R h' k')) (nI s) 0 (oh_upi (oh_upi k 11 s w) 12 s (nI n)) := by
      intro K n hn hw h' _ c0 c1 c2 f f2
      refine mSheet hs (fun k' z g g2 => ⟨rfl, R_sh H (fun a b y => f a b (by omega) (by omega)) f2 (fun a b y1 y2 y3 _ => ?_) (by rw [g2]; rfl) (sh_new t hs hn hw c0 c1 c2 f ?_ ?_ z (fun u hu hus => ⟨?_, ?_, fun i hi => ?_⟩))⟩)
      · rw [g a b (by omega), oh_g1, if_neg (by omega), oh_g1, if_neg (by omega)]
      · rw [g _ _ (by omega), oh_g1, if_neg (by omega), oh_g1, if_pos ⟨rfl, rfl⟩]
      · rw [g _ _ (by omega), oh_g1, if_pos ⟨rfl, rfl⟩]
      · rw [g _ _ (by omega), oh_g1, if_neg (by omega), oh_g1, if_neg (by omega)]
      · rw [g _ _ (by omega), oh_g1, if_neg (by omega), oh_g1, if_neg (by omega)]
      · rw [g _ _ (by omega), oh_g1, if_neg (by omega), oh_g1, if_neg (by omega)]
    have i4 : vp_in (nI s) 4 := oh_in hs (by omega)
    have cs : (nI s).toNatClampNeg = s := oh_cl (by omega)
    by_cases w0 : w = 0
    · refine mX7_sheet (sheetT hs (br_f (by decide) (shT_0 w0 (bSheet hs (oh_nf w0 (sX5_renew (n := 0) hs (by omega) (fun h' c0 c1 c2 f f2 => mX8_sheet (sX8_isSheetT hs (br_f (by decide) (shT_0 w0 ⟨i4, oh_nf w0 ⟨i4, ?_⟩⟩))))))))))
      rw [cs]
      exact go (fun _ _ => True) 0 (by omega) (Or.inl w0) h' H c0 c1 c2 f f2
    · by_cases wb : w = 8 ∨ w = 16 ∨ w = 32
      · by_cases x0 : 0 ≤ x
        · by_cases x4 : x ≤ 40
          · obtain ⟨n, hn, rfl⟩ : oIn 41 x := (oIn_le (n := 40) (by omega)).mp ⟨Int32.not_lt.mpr x0, Int32.not_lt.mpr x4⟩
            refine mX7_sheet (sheetT hs (br_f (by decide) (shT_i wb (br_f w0 (br_t x0 (br_f w0 (br_t x4 (bSheet hs (oh_nt w0 (sX5_renew (n := n) hs (by omega) (fun h' c0 c1 c2 f f2 => mX8_sheet (sX8_isSheetT hs (br_f (by decide) (shT_i wb (br_f w0 (br_t x0 (br_f w0 (br_t x4 ⟨i4, oh_nt w0 ⟨i4, ?_⟩⟩))))))))))))))))))
            rw [cs]
            exact go (fun _ _ => True) n (by omega) (Or.inr wb) h' H c0 c1 c2 f f2
          · exact mX7_sheet (sheetT hs (br_f (by decide) (shT_i wb (br_f w0 (br_t x0 (br_f w0 (br_f x4 (sX7_failed 1 (by decide) (by omega) (by omega) (mX8_sheet (sX8_isSheetT hs (br_f (by decide) (shT_i wb (br_f w0 (br_t x0 (br_f w0 (br_f x4 (sX8_finds 1 (by omega) ⟨by decide, R_fail H (by omega)⟩)))))))))))))))))
        · exact mX7_sheet (sheetT hs (br_f (by decide) (shT_i wb (br_f w0 (br_f x0 (sX7_failed 3 (by decide) (by omega) (by omega) (mX8_sheet (sX8_isSheetT hs (br_f (by decide) (shT_i wb (br_f w0 (br_f x0 (sX8_finds 3 (by omega) ⟨by decide, R_fail H (by omega)⟩)))))))))))))
      · exact mX7_sheet (sheetT hs (br_f (by decide) (shT_n w0 wb (sX7_failed 1 (by decide) (by omega) (by omega) (mX8_sheet (sX8_isSheetT hs (br_f (by decide) (shT_n w0 wb (sX8_finds 1 (by omega) ⟨by decide, R_fail H (by omega)⟩)))))))))
  · exact mX7_sheet (sheetF c (br_t rfl (sX7_failed 1 (by decide) (by omega) (by omega) (mX8_sheet (sX8_isSheetF c (br_t rfl (sX8_finds 1 (by omega) ⟨by decide, R_fail H (by omega)⟩)))))))
/-! put -/
def wvF (b v : Int32) : Int32 := if b = 8 then v.toInt8.toInt32 else if b = 16 then v.toInt16.toInt32 else v
theorem sX5_write {d s i n : Nat} {K : oh_St → Prop} {h : oh_St} {v : Int32} (hs : s < 4) (hn : n ≤ 40) (hi : i < n) (c1 : h.1 (51 + 2 * s) 1 = nI n) (q : K (oh_upi h (52 + 2 * s) i (wvF (h.1 (51 + 2 * s) 0) v))) : CM (d + 1) jX5_write [.ref (51 + 2 * s), .int (nI i), .int v] h (oh_r0 K) := by
  have ho := sh_o hs
  have e1 : 52 + 2 * s = (51 + 2 * s) + 1 := by omega
  rw [e1] at q
  generalize 51 + 2 * s = o at ho q c1 ⊢
  refine mX5_write ho (br_f (nI_pos (by omega)) ?_)
  rw [c1, oh_cl (by omega)]
  have i4 : vp_in (nI i) 40 := oh_in (by omega) (by omega)
  unfold wvF at q
  refine br_f (nI_ge hi (by omega)) (oh_nc (fun y => oh_nc (fun y2 => ⟨i4, ?_⟩) (fun y2 => ⟨i4, ?_⟩)) (fun y => ⟨i4, ?_⟩))
  · rw [if_neg y, if_neg y2] at q; exact q
  · rw [if_neg y, if_pos y2] at q; exact q
  · rw [if_pos y] at q; exact q
theorem bPut {d s : Nat} {Q : oh_Q} {h : oh_St} {v2 v3 : Int32} (hs : s < 4) (q : ((¬ (h.1 (51 + 2 * s) 0) = 0 → ((v2 < 0 → CM d jX7_failed [.ref 0, .int (-1000000001 : Int32)] h (oh_r1 (fun x2 h1 => Q (some (.int x2)) h1))) ∧ (¬ v2 < 0 → ((v2 < (h.1 (51 + 2 * s) 1) → CM d jX5_write [.ref (51 + 2 * s), .int v2, .int v3] h (oh_r0 (fun h3 => Q (some (.int (1 : Int32))) h3))) ∧ (¬ v2 < (h.1 (51 + 2 * s) 1) → CM d jX7_failed [.ref 0, .int (-1000000001 : Int32)] h (oh_r1 (fun x5 h4 => Q (some (.int x5)) h4))))))) ∧ ((h.1 (51 + 2 * s) 0) = 0 → CM d jX7_failed [.ref 0, .int (-1000000002 : Int32)] h (oh_r1 (fun x7 h6 => Q (some (.int x7)) h6))))) : wX7_put_14 d Q (nI s) v2 v3 h := by
  have i4 : vp_in (nI s) 4 := oh_in hs (by omega)
  have : s = 0 ∨ s = 1 ∨ s = 2 ∨ s = 3 := by omega
  rcases this with rfl | rfl | rfl | rfl
  · exact bX7_put_14_0 ⟨i4, fun y => ⟨fun z => (q.1 y).1 z, fun z => ⟨i4, fun u => ⟨i4, ((q.1 y).2 z).1 u⟩, fun u => ((q.1 y).2 z).2 u⟩⟩, q.2⟩
  · exact bX7_put_14_1 ⟨i4, fun y => ⟨fun z => (q.1 y).1 z, fun z => ⟨i4, fun u => ⟨i4, ((q.1 y).2 z).1 u⟩, fun u => ((q.1 y).2 z).2 u⟩⟩, q.2⟩
  · exact bX7_put_14_2 ⟨i4, fun y => ⟨fun z => (q.1 y).1 z, fun z => ⟨i4, fun u => ⟨i4, ((q.1 y).2 z).1 u⟩, fun u => ((q.1 y).2 z).2 u⟩⟩, q.2⟩
  · exact bX7_put_14_3 ⟨i4, fun y => ⟨fun z => (q.1 y).1 z, fun z => ⟨i4, fun u => ⟨i4, ((q.1 y).2 z).1 u⟩, fun u => ((q.1 y).2 z).2 u⟩⟩, q.2⟩
theorem om_pm2 (n : Nat) {j : Nat} (hn : n < 2 ^ 31) (hj : j < 2 ^ 31) : nI n - 1 < nI j ↔ n ≤ j := by
  cases n with
  | zero =>
    have : (nI 0 - 1 : Int32) = -1 := by decide
    rw [this]
    constructor
    · intro _; omega
    · intro _
      have h0 := nI_pos' hj
      exact Int32.lt_of_lt_of_le (by decide) h0
  | succ m =>
    rw [nI_pred, nI_ltI (by omega) hj]
    omega
theorem p_put {h k : oh_St} {v w x : Int32} (H : R h k) : Both jX7_put jX8_put [.int v, .int w, .int x] h k := by
  intro d
  obtain ⟨B, b1, b2, b3, r⟩ := id H
  have t := r.2.2.2.2.2
  by_cases c : oIn 4 v
  · obtain ⟨s, hs, rfl⟩ := c
    obtain ⟨⟨a1, a2⟩, ⟨n, a3, a4, a5⟩, a6⟩ := t s hs
    have i4 : vp_in (nI s) 4 := oh_in hs (by omega)
    refine mX7_put (sheetT hs (oh_nt (by decide) (bPut hs ?_)))
    have pre : ∀ (K : Int32 → oh_St → Prop), _ → MM (d + 100) jX8_put [.ref 0, .int (nI s), .int w, .int x] k (oh_r1 K) := fun K q => mX8_put (sX8_isSheetT hs (oh_nt (by decide) ⟨i4, q⟩))
    rw [oh_cl (by omega)] at pre
    refine oh_nc (fun y => ?_) (fun y => sX7_failed 2 (by decide) (by omega) (by omega) (pre _ (oh_nf (by rw [← a1]; exact y) (sX8_finds 2 (by omega) ⟨by decide, R_fail H (by omega)⟩))))
    rw [a1] at y
    rw [a5] at pre
    by_cases c2 : oIn n w
    · obtain ⟨i, hi, rfl⟩ := c2
      rw [a4]
      refine br_f (nI_pos (by omega)) (br_t (nI_lt hi (by omega)) (sX5_write hs a3 hi a4 ?_))
      rw [a1]
      refine pre _ (oh_nt y ⟨i4, sX8_inT 0 (nI n - 1) (by decide) rfl (nI_pos (by omega)) (fun z => by have := (om_pm2 n (by omega) (by omega)).mp z; omega) (oh_nt (by decide) ⟨i4, ?_⟩)⟩)
      rw [idx_40, oh_cl (by omega)]
      have i16 : vp_in (nI (40 * s + i)) 160 := oh_in (by omega) (by omega)
      have fin : R (oh_upi h (52 + 2 * s) i (wvF (k.1 11 s) x)) (oh_upi k 13 (40 * s + i) (wvF (k.1 11 s) x)) := by
        refine R_sh H (fun a b z => ?_) rfl (fun a b _ _ z _ => ?_) rfl (fun u hu => ?_)
        · rw [oh_g1, if_neg (by omega)]
        · rw [oh_g1, if_neg (by omega)]
        · obtain ⟨⟨q1, q2⟩, ⟨n', q3, q4, q5⟩, q6⟩ := t u hu
          refine ⟨⟨?_, ?_⟩, ⟨n', q3, ?_, ?_⟩, fun j hj => ?_⟩
          · rw [oh_g1, if_neg (by omega), oh_g1, if_neg (by omega)]; exact q1
          · rw [oh_g1, if_neg (by omega)]; exact q2
          · rw [oh_g1, if_neg (by omega)]; exact q4
          · rw [oh_g1, if_neg (by omega)]; exact q5
          · rw [oh_g1, oh_g1]
            by_cases z : u = s ∧ j = i
            · rw [if_pos (by omega), if_pos (by omega)]
            · rw [if_neg (by omega), if_neg (by omega)]; exact q6 j hj
      unfold wvF at fin
      refine oh_nc (fun y1 => ⟨i4, oh_nc (fun y2 => ⟨i16, ?_⟩) (fun y2 => ⟨i16, ?_⟩)⟩) (fun y1 => ⟨i16, ?_⟩)
      · rw [if_neg y1, if_neg y2] at fin; unfold wvF; rw [if_neg y1, if_neg y2]; exact ⟨rfl, fin⟩
      · rw [if_neg y1, if_pos y2] at fin; unfold wvF; rw [if_neg y1, if_pos y2]; exact ⟨rfl, fin⟩
      · rw [if_pos y1] at fin; unfold wvF; rw [if_pos y1]; exact ⟨rfl, fin⟩
    · have M : MM (d + 100) jX8_put [.ref 0, .int (nI s), .int w, .int x] k (oh_r1 (fun y k' => (-1000000001 : Int32) = y ∧ R (oh_upi h 59 1 (h.1 59 1 + 1)) k')) := by
        refine pre _ (oh_nt y ⟨i4, sX8_inF 0 (nI n - 1) (by decide) rfl ?_ (oh_nf rfl (sX8_finds 1 (by omega) ⟨by decide, R_fail H (by omega)⟩))⟩)
        by_cases z : w < 0
        · exact Or.inl z
        · obtain ⟨j, hj, rfl⟩ := nI_of z
          exact Or.inr ((om_pm2 n (by omega) hj).mpr (Nat.le_of_not_lt (fun u => c2 ⟨j, u, rfl⟩)))
      rw [a4]
      exact ⟨fun _ => sX7_failed 1 (by decide) (by omega) (by omega) M, fun z => ⟨fun z2 => absurd ((oh_rng (by omega)).mp ⟨z, z2⟩) c2, fun _ => sX7_failed 1 (by decide) (by omega) (by omega) M⟩⟩
  · exact mX7_put (sheetF c (oh_nf rfl (sX7_failed 1 (by decide) (by omega) (by omega) (mX8_put (sX8_isSheetF c (oh_nf rfl (sX8_finds 1 (by omega) ⟨by decide, R_fail H (by omega)⟩)))))))

/-! BOTH SIDES: feed, law, text -/
theorem hF_same {h h' : oh_St} {X : List Nat} (hs : oSame h h' X) (hX : ∀ a ∈ X, (1 ≤ a ∧ a ≤ 18 ∨ 37 ≤ a ∧ a ≤ 47) ∧ a ≠ 7 ∧ a ≠ 11) : hF h h' := by
  refine ⟨fun a b x => hs.1 a b (fun z => ?_), hs.1 7 0 (fun z => (hX 7 z).2.1 rfl), hs.1 11 0 (fun z => (hX 11 z).2.2 rfl), by rw [hs.2]⟩
  have := (hX a z).1
  omega
theorem kF_w {k k' : oh_St} (h : wF k k') : kF k k' := ⟨fun a b x => h.1 a b (by omega), by rw [h.2]⟩
theorem kF_g {k k' : oh_St} (h : gF k k') : kF k k' := ⟨fun a b x => h.1 a b (by omega) (by omega), by rw [h.2]⟩
theorem kF_r {k k' : oh_St} (h : rF k k') : kF k k' := ⟨fun a b x => h.1 a b (by omega) (by omega) (by omega) (by omega) (by omega) (by omega) (by omega), h.2.2 0 5 (by omega)⟩
theorem cB_law {h : oh_St} {B : oBk} {u : Nat} (H : cB h 1 B) (r : h.1 7 0 = 0 ∧ h.1 11 0 = 1) (hu : u < 2) : lawIs h (7 + 4 * u) u (cOf u (bX B u)) := by
  obtain ⟨h1, h2, h3, h4, h5, h6, h7, h8, h9⟩ := H
  have tk : ∀ u t, ∀ x ∈ cOf u t, x < 20004 := by
    intro u t x hx
    unfold cOf at hx
    split at hx
    · simp at hx
    · exact (pLev_gd (pUn_gd t u 5) 5 0 (by omega)).2.2.2.2 x hx
  have : u = 0 ∨ u = 1 := by omega
  rcases this with rfl | rfl
  · exact ⟨r.1, by omega, h5, tk _ _⟩
  · exact ⟨r.2, by omega, h6, tk _ _⟩
/-- scratch cells of the class are changed, and of the model -/
theorem R_scr {h h' k k' : oh_St} (H : R h k) (e : ∀ a b, (a ≤ 9 ∨ (11 ≤ a ∧ a ≤ 13) ∨ (15 ≤ a ∧ a ≤ 36) ∨ 48 ≤ a) → h'.1 a b = h.1 a b) (e2 : ∀ a, a ≤ 36 → h'.2 a 8 = h.2 a 8) (ek : ∀ b, k'.1 1 b = k.1 1 b) (ek2 : k'.2 0 3 = k.2 0 3) (kf : kF k k') : R h' k' := by
  obtain ⟨B, b1, b2, b3, r⟩ := H
  have hl := cB_len (Or.inl rfl) b1
  obtain ⟨h1, h2, h3, h4, h5, h6, h7, h8, h9⟩ := b1
  exact ⟨B, ⟨cSc_c h1 (fun a b x => e a b (by omega)) (e2 _ (by omega)), (e _ _ (by omega)).trans h2, (e _ _ (by omega)).trans h3, fun i hi => (e _ _ (by omega)).trans (h4 i hi), rowIs_c h5 (fun a b x => e a b (by omega)), rowIs_c h6 (fun a b x => e a b (by omega)), rowIs_c h7 (fun a b x => e a b (by omega)), rowIs_c h8 (fun a b x => e a b (by omega)), (e _ _ (by omega)).trans h9⟩, mB_c b2 (fun b _ => ek b) ek2 hl.1 hl.2, b3, rest_c r ⟨fun a b x => e a b (by omega), e 7 0 (by omega), e 11 0 (by omega), e2 20 (by omega)⟩ kf⟩
theorem use_no {v : Int32} (h : ¬ oIn 2 v) : ¬ v = 0 ∧ ¬ v = 1 := ⟨fun z => h ⟨0, by omega, z⟩, fun z => h ⟨1, by omega, z⟩⟩
theorem p_law {h k : oh_St} {v1 v2 v3 v4 v5 : Int32} (H : R h k) : Both jX7_law jX8_law [.int v1, .int v2, .int v3, .int v4, .int v5] h k := by
  intro d
  obtain ⟨B, b1, b2, b3, r⟩ := id H
  obtain ⟨k1, k2, k3, k4, k5, k6, k7, k8, k9, k10⟩ := id b2
  by_cases c : oIn 2 v1
  · obtain ⟨u, hu, rfl⟩ := c
    have hl := cB_law b1 r.1 hu
    have go : ∀ h', oSame h h' [7 + 4 * u + 3] → MM (d + 100) jX8_law [.ref 0, .int (nI u), .int v2, .int v3, .int v4, .int v5] k (oh_r1 (fun y k' => lwF u (cOf u (bX B u)) v2 v3 v4 v5 = y ∧ R h' k')) := by
      intro h' hs
      have tx : txIs k 1 u (bX B u) := by
        have : u = 0 ∨ u = 1 := by omega
        rcases this with rfl | rfl
        · exact k6
        · exact k7
      refine mX8_law (sX8_inT 0 1 (by decide) (by decide) (nI_pos (by omega)) (nI_nlt (a := 1) (by omega) (by omega)) (br_f (by decide) (sX8_gives hu tx (fun k' g => ⟨rfl, R_scr H (fun a b x => hs.1 a b (by simp; omega)) (fun a _ => by rw [hs.2]) (fun b => g.1 1 b (by omega) (by omega)) (by rw [g.2]) (kF_g g)⟩))))
    have : u = 0 ∨ u = 1 := by omega
    rcases this with rfl | rfl
    · exact mX7_law (mX7_isUse (br_t rfl ⟨oh_i1, oh_nt (by decide) (mX7_lawOf (oh_nt (by decide) (bX7_law_19_7 (sX1_gives (Or.inl rfl) hl (fun h' hs => go h' hs)))))⟩))
    · exact mX7_law (mX7_isUse (br_f (by decide) (oh_nf rfl ⟨oh_i1, oh_nt (by decide) (mX7_lawOf (oh_nf rfl (bX7_law_19_11 (sX1_gives (Or.inr rfl) hl (fun h' hs => go h' hs)))))⟩)))
  · have c3 := oIn_out (n := 1) (by omega) c
    have n := use_no c
    exact mX7_law (mX7_isUse (br_f n.1 (oh_nt n.2 ⟨oh_i0, oh_nf rfl (sX7_failed 1 (by decide) (by omega) (by omega) (mX8_law (sX8_inF 0 1 (by decide) (by decide) c3 (br_t rfl (sX8_finds 1 (by omega) ⟨by decide, R_fail H (by omega)⟩)))))⟩)))
theorem pOk_nil : ∀ u, u < 2 → pOk [] u = false := by decide +kernel
theorem p_text {h k : oh_St} {v : Int32} (H : R h k) : Both jX7_text jX8_text [.int v] h k := by
  intro d
  obtain ⟨B, b1, b2, b3, r⟩ := id H
  obtain ⟨k1, k2, k3, k4, k5, k6, k7, k8, k9, k10⟩ := id b2
  obtain ⟨h1, h2, h3, h4, h5, h6, h7, h8, h9⟩ := id b1
  have hl := cB_len (Or.inl rfl) b1
  by_cases c : oIn 2 v
  · obtain ⟨u, hu, rfl⟩ := c
    have hO : tOk (bT B) 160 := ⟨b3.2.1, hl.1, by omega⟩
    have gd := pLev_gd (pUn_gd (bT B) u 5) 5 0 (by omega)
    have e38 : (38 : Int32) + nI u = nI (38 + u) := by rw [show (38 : Int32) = nI 38 from rfl, nI_add]
    have e60 : (60 : Int32) + (50 : Int32) * nI u = nI (60 + 50 * u) := by rw [show (60 : Int32) = nI 60 from rfl, show (50 : Int32) = nI 50 from rfl, pk_mul, nI_add]
    -- the model
    have mod : ∀ (K : Int32 → oh_St → Prop), (pOk (bT B) u = false → ∀ k', wF (oh_upi k 1 6 0) k' → K ((-10 : Int32) - nI (pTx (bT B) u).2.1) k') → (pOk (bT B) u = true → ∀ k', kF k k' → k'.2 = k.2 → k'.1 1 6 = 0 → k'.1 1 (38 + u) = nI (bT B).length → (∀ i, i < (bT B).length → k'.1 1 (60 + 50 * u + i) = nI (nb (bT B) i)) → (∀ b, b ≠ 6 → b ≠ 38 + u → ¬ (60 + 50 * u ≤ b ∧ b < 60 + 50 * u + (bT B).length) → k'.1 1 b = k.1 1 b) → K 1 k') → MM (d + 100) jX8_text [.ref 0, .int (nI u)] k (oh_r1 K) := by
      intro K q0 q1
      refine mX8_text (sX8_inT 0 1 (by decide) (by decide) (nI_pos (by omega)) (nI_nlt (a := 1) (by omega) (by omega)) (oh_nt (by decide) ⟨om_in (n := 6) (by omega), om_in (n := 6) (by omega), ?_⟩))
      rw [om_6, k8.1, e38, oh_cl (by omega)]
      refine sX8_worked (base := 160) (nm := fun j => k.1 5 j) hu hO (fun i hi => ?_) (fun j hj => ?_) (fun ok w k' _ hf fr => ?_) (fun no w k' hf fr => ?_)
      · rw [oh_g1, if_neg (by omega)]; exact k8.2 i hi
      · rw [oh_g1, if_neg (by omega)]
      · rw [hf]
        refine br_t (by decide) ⟨om_in (by omega), ?_⟩
        have f1 : ∀ b, b ≠ 6 → k'.1 1 b = k.1 1 b := fun b hb => by rw [fr.1 _ _ (by omega), oh_g1, if_neg (fun z => hb z.2)]
        have f2 : k'.1 1 6 = 0 := by rw [fr.1 _ _ (by omega), oh_g1, if_pos ⟨rfl, rfl⟩]
        have f3 : kF k k' := kF_tr (kF_up k 6 0) (kF_w fr)
        have key : ∀ i, i ≤ (bT B).length → ∀ k2, oSame k' k2 [1] → (∀ b, b ≠ 38 + u → ¬ (60 + 50 * u ≤ b ∧ b < 60 + 50 * u + (bT B).length) → k2.1 1 b = k'.1 1 b) → k2.1 1 (38 + u) = nI (bT B).length → (∀ j, j < i → k2.1 1 (60 + 50 * u + j) = nI (nb (bT B) j)) → wX8_text_70 (d + 99) (oh_r1 K) (nI u) (nI (bT B).length) (nI i) k2 := by
          refine oh_up (fun i hi ih => ?_) ?_
          · intro k2 s2 o2 l2 t2
            refine bX8_text_70 (br_f (nI_ge hi (by omega)) ?_)
            rw [show (160 : Int32) = nI 160 from rfl, nI_add, e60, nI_add, oh_cl (by omega), oh_cl (by omega), nI_1]
            refine ⟨om_in (by omega), om_in (by omega), ih _ (oSame_up s2 (by simp)) (fun b z1 z2 => ?_) ?_ (fun j hj => ?_)⟩
            · rw [oh_g1, if_neg (by omega)]; exact o2 b z1 z2
            · rw [oh_g1, if_neg (by omega)]; exact l2
            · rw [oh_g1]
              by_cases z : j = i
              · subst z
                rw [if_pos ⟨rfl, rfl⟩, o2 _ (by omega) (by omega), f1 _ (by omega)]
                exact k8.2 j hi
              · rw [if_neg (by omega)]; exact t2 j (by omega)
          · intro k2 s2 o2 l2 t2
            refine bX8_text_70 (br_t (nI_le (Nat.le_refl _) (by omega)) (q1 ok k2 ?_ ?_ ?_ l2 t2 (fun b z1 z2 z3 => ?_)))
            · refine kF_tr f3 ⟨fun a b x => s2.1 a b (by simp; omega), by rw [s2.2]⟩
            · rw [s2.2, fr.2]; rfl
            · rw [o2 6 (by omega) (by omega)]; exact f2
            · rw [o2 b z2 z3]; exact f1 b z1
        refine key 0 (Nat.zero_le _) _ (oSame_up (oSame_rf _ _) (by simp)) (fun b z1 _ => ?_) ?_ (fun j hj => absurd hj (by omega))
        · rw [oh_g1, if_neg (fun z => z1 z.2)]
        · rw [oh_g1, if_pos ⟨rfl, rfl⟩]
      · rw [hf]
        have : (pTx (bT B) u).2.1 ≤ 50 := by unfold pTx; omega
        exact br_f (nI_pos (by omega)) (q0 no k' fr)
    -- the class
    have cls : CM (d + 99) jX2_faultOf [.ref 42, .ref 15, .int (nI u)] h (oh_r1 (fun x4 h3 => CM (d + 99) jX3_clear [.ref 15] h3 (oh_r0 (fun h5 => ((x4 < 0 → CM (d + 99) jX7_lawOf [.ref 0, .int (nI u)] h5 (oh_r3 (fun x7 h6 => wX7_text_54 (d + 99) (oh_r1 (fun x h' => MM (d + 100) jX8_text [.ref 0, .int (nI u)] k (oh_r1 (fun y k' => x = y ∧ R h' k')))) x7 h6))) ∧ (¬ x4 < 0 → oh_r1 (fun x h' => MM (d + 100) jX8_text [.ref 0, .int (nI u)] k (oh_r1 (fun y k' => x = y ∧ R h' k'))) (some (.int ((-10 : Int32) - x4))) h5)))))) := by
      refine sX2_faultOf (d := d + 32) hu b3.2.1 hl.1 h7 (fun g3 r3 s3 => sX3_clear (by unfold oRow; omega) ?_)
      have s4 : oSame h (oh_upi g3 15 1 0) [42, 43, 44, 45, 46, 15] := oSame_up (oSame_mono s3 (by simp)) (by simp)
      have e4 : ∀ a b, a ∉ [42, 43, 44, 45, 46] → ¬ (a = 15 ∧ b = 1) → (oh_upi g3 15 1 0).1 a b = h.1 a b := fun a b x y => by rw [oh_g1, if_neg y]; exact s3.1 a b x
      have tp0 : rowIs (oh_upi g3 15 1 0) 15 ([] : List Int32) := ⟨by rw [oh_g1, if_pos ⟨rfl, rfl⟩]; rfl, fun i hi => by simp at hi, by simp⟩
      have r43 : rowIs (oh_upi g3 15 1 0) 43 ((pTx (bT B) u).2.2.map nI) := rowIs_c r3 (fun a b x => by rw [oh_g1, if_neg (by omega)])
      -- books with an empty tape
      have bk : ∀ h' (X : Nat → List Nat), (∀ a b, (a ≤ 6 ∨ (15 ≤ a ∧ a ≤ 18)) → h'.1 a b = (oh_upi g3 15 1 0).1 a b) → h'.2 = h.2 → rowIs h' 8 ((cOf 0 (X 0)).map nI) → rowIs h' 12 ((cOf 1 (X 1)).map nI) → cB h' 1 (bS B, bO B, bF B, bD B, [], bW B, X, bZ B) := by
        intro h' X e e2 x0 x1
        have g : ∀ a b, a ≤ 6 → h'.1 a b = h.1 a b := fun a b x => (e a b (by omega)).trans (e4 a b (by simp; omega) (by omega))
        refine ⟨cSc_c h1 (fun a b x => g a b (by omega)) (by rw [e2]), (g _ _ (by omega)).trans h2, (g _ _ (by omega)).trans h3, fun i hi => (g _ _ (by omega)).trans (h4 i hi), x0, x1, rowIs_c tp0 (fun a b x => e a b (by omega)), rowIs_c h8 (fun a b x => (e a b (by omega)).trans (e4 a b (by simp; omega) (by omega))), (g _ _ (by omega)).trans h9⟩
      have hF4 : hF h (oh_upi g3 15 1 0) := hF_same s4 (by intro a ha; simp at ha; omega)
      refine ⟨fun y => ?_, fun y => ?_⟩
      · -- it is a text
        have ok : pOk (bT B) u = true := by
          cases z : pOk (bT B) u
          · unfold pAns at y
            rw [z, if_neg (by decide)] at y
            have : (pTx (bT B) u).2.1 ≤ 50 := by unfold pTx; omega
            exact absurd y (nI_pos (by omega))
          · rfl
        have ne : ¬ bT B = [] := fun z => by rw [z, pOk_nil u hu] at ok; cases ok
        have ec : cOf u (bT B) = (pTx (bT B) u).2.2 := by unfold cOf; rw [if_neg ne]
        have fin : ∀ h', cB h' 1 (bS B, bO B, bF B, bD B, [], bW B, (fun w => if w = u then bT B else bX B w), bZ B) → hF h h' → MM (d + 100) jX8_text [.ref 0, .int (nI u)] k (oh_r1 (fun y k' => (1 : Int32) = y ∧ R h' k')) := by
          intro h' cb hf
          refine mod _ (fun no => by rw [ok] at no; cases no) (fun _ k' kf e2 t0 l t o => ⟨rfl, ⟨_, cb, ?_, ⟨b3.1, by intro x hx; simp [bT] at hx, b3.2.2.1, b3.2.2.2⟩, rest_c r hf kf⟩⟩)
          have X : ∀ w, w < 2 → txIs k 1 w (bX B w) → txIs k' 1 w (if w = u then bT B else bX B w) := by
            intro w hw x
            by_cases z : w = u
            · subst z
              rw [if_pos rfl]
              exact ⟨l, t, b3.2.1, hl.1, fun _ => ok⟩
            · rw [if_neg z]
              have := x.2.2.2.1
              refine ⟨(o _ (by omega) (by omega) (by omega)).trans x.1, fun i hi => (o _ (by omega) (by omega) (by omega)).trans (x.2.1 i hi), x.2.2⟩
          have g : ∀ b, b < 38 → b ≠ 6 → k'.1 1 b = k.1 1 b := fun b x y => o b y (by omega) (by omega)
          refine ⟨mS0_d k1 (fun b x => g b (by omega) (by omega)), fun z => by rw [e2]; exact k2 z, (g _ (by omega) (by omega)).trans k3, (g _ (by omega) (by omega)).trans k4, fun i hi => (g _ (by omega) (by omega)).trans (k5 i hi), X 0 (by omega) k6, X 1 (by omega) k7, ⟨t0, fun i hi => by simp [bT] at hi⟩, ⟨(g _ (by omega) (by omega)).trans k9.1, fun i hi => ?_⟩, (g _ (by omega) (by omega)).trans k10⟩
          have hi : i < (bW B).length := hi
          exact (o _ (by omega) (by omega) (by omega)).trans (k9.2 i hi)
        have : u = 0 ∨ u = 1 := by omega
        rcases this with rfl | rfl
        · refine mX7_lawOf (oh_nt (by decide) (bX7_text_54_7 (sX3_take (o := 8) (o2 := 43) (by unfold oTake; omega) r43 (fun h' r8 s8 => fin h' (bk h' _ (fun a b x => s8.1 a b (by simp; omega)) (by rw [s8.2]; exact s4.2) ?_ ?_) (hF_tr hF4 (hF_same s8 (by simp)))))))
          · rw [if_pos rfl, ec]; exact r8
          · rw [if_neg (by decide)]
            exact rowIs_c h6 (fun a b x => (s8.1 a b (by simp; omega)).trans (e4 a b (by simp; omega) (by omega)))
        · refine mX7_lawOf (oh_nf rfl (bX7_text_54_11 (sX3_take (o := 12) (o2 := 43) (by unfold oTake; omega) r43 (fun h' r8 s8 => fin h' (bk h' _ (fun a b x => s8.1 a b (by simp; omega)) (by rw [s8.2]; exact s4.2) ?_ ?_) (hF_tr hF4 (hF_same s8 (by simp)))))))
          · rw [if_neg (by decide)]
            exact rowIs_c h5 (fun a b x => (s8.1 a b (by simp; omega)).trans (e4 a b (by simp; omega) (by omega)))
          · rw [if_pos rfl, ec]; exact r8
      · -- it isn't
        have no : pOk (bT B) u = false := by
          cases z : pOk (bT B) u
          · rfl
          · unfold pAns at y
            rw [z, if_pos rfl] at y
            exact absurd (by decide) y
        refine mod _ (fun _ k' fr => ⟨?_, ⟨_, bk _ (bX B) (fun _ _ _ => rfl) s4.2 (rowIs_c h5 (fun a b x => e4 a b (by simp; omega) (by omega))) (rowIs_c h6 (fun a b x => e4 a b (by simp; omega) (by omega))), ?_, ⟨b3.1, by intro x hx; simp [bT] at hx, b3.2.2.1, b3.2.2.2⟩, rest_c r hF4 (kF_tr (kF_up k 6 0) (kF_w fr))⟩⟩) (fun ok => by rw [no] at ok; cases ok)
        · unfold pAns
          rw [no, if_neg (by decide)]
        · have g : ∀ b, b ≠ 6 → k'.1 1 b = k.1 1 b := fun b hb => by rw [fr.1 _ _ (by omega), oh_g1, if_neg (fun z => hb z.2)]
          have t6 : k'.1 1 6 = 0 := by rw [fr.1 _ _ (by omega), oh_g1, if_pos ⟨rfl, rfl⟩]
          refine ⟨mS0_d k1 (fun b x => g b (by omega)), fun z => by rw [fr.2]; exact k2 z, (g _ (by omega)).trans k3, (g _ (by omega)).trans k4, fun i hi => (g _ (by omega)).trans (k5 i hi), ⟨(g _ (by omega)).trans k6.1, fun i hi => (g _ (by omega)).trans (k6.2.1 i hi), k6.2.2⟩, ⟨(g _ (by omega)).trans k7.1, fun i hi => (g _ (by omega)).trans (k7.2.1 i hi), k7.2.2⟩, ⟨t6, fun i hi => by simp [bT] at hi⟩, ⟨(g _ (by omega)).trans k9.1, fun i hi => (g _ (by omega)).trans (k9.2 i hi)⟩, (g _ (by omega)).trans k10⟩
    have : u = 0 ∨ u = 1 := by omega
    rcases this with rfl | rfl
    · exact mX7_text (mX7_isUse (br_t rfl ⟨oh_i1, oh_nt (by decide) cls⟩))
    · exact mX7_text (mX7_isUse (br_f (by decide) (oh_nf rfl ⟨oh_i1, oh_nt (by decide) cls⟩)))
  · have c3 := oIn_out (n := 1) (by omega) c
    have n := use_no c
    exact mX7_text (mX7_isUse (br_f n.1 (oh_nt n.2 ⟨oh_i0, oh_nf rfl (sX7_failed 1 (by decide) (by omega) (by omega) (mX8_text (sX8_inF 0 1 (by decide) (by decide) c3 (oh_nf rfl (sX8_finds 1 (by omega) ⟨by decide, R_fail H (by omega)⟩)))))⟩)))

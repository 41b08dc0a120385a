/-! THE MODEL: units, whole texts, what a law gives -/
theorem sX8_inD {d : Nat} {K : Int32 → oh_St → Prop} {k : oh_St} {t : List Nat} {b : Nat} (ht : ∀ x ∈ t, x < 256) (q : K (oh_b (isD (nb t b))) k) : MM (d + 1) jX8_in [.long (pcI t b).toInt64, .long (48 : Int64), .long (57 : Int64)] k (oh_r1 K) := by
  rw [show (48 : Int64) = (48 : Int32).toInt64 from by decide, show (57 : Int64) = (57 : Int32).toInt64 from by decide]
  refine sX8_in ?_
  have e := pcI_D ht b
  have e2 : (decide (¬ pcI t b < 48) && decide (¬ 57 < pcI t b)) = isD (nb t b) := by
    rw [Bool.eq_iff_iff, e]
    simp
  rw [e2]
  exact q
theorem nmOf_D {use c : Nat} (h : isD c = true) : nmOf use c = none := by
  unfold isD at h
  simp at h
  unfold nmOf
  split
  · rw [if_neg (by omega), if_neg (by omega), if_neg (by omega), if_neg (by omega)]
  · rw [if_neg (by omega), if_neg (by omega), if_neg (by omega)]
/-- a number, or nothing there -/
theorem mDig {d : Nat} {K : Int32 → oh_St → Prop} {k : oh_St} {t : List Nat} {use base : Nat} {nm : Nat → Int32} {a op : Nat} (hO : tOk t base) (H : mPt k t use base nm a op) (ha : a ≤ t.length)
    (q1 : ∀ k', isD (nb t a) = true → mPt k' t use base nm (pDig t 4 a 0).1 op → pF k k' → K (nI (pDig t 4 a 0).2) k') (q0 : isD (nb t a) = false → K 0 (oh_upi k 0 11 (nI a))) : wX8_unit_150 (d + 1) (oh_r1 K) (0 : Int32) (0 : Int32) k := by
  cases hd : isD (nb t a)
  · refine bX8_unit_150 (br_f (by decide) (sX8_here hO H ha (sX8_inD hO.1 ?_)))
    rw [hd]
    exact br_t rfl (oh_nf rfl (sX8_wrong H (q0 hd)))
  · obtain ⟨r, hr⟩ : ∃ r, r = pDig t 4 a 0 := ⟨_, rfl⟩
    rw [← hr] at q1
    have key : ∀ f i, f + i = 4 → ∀ b v k', b ≤ t.length → (i = 0 → isD (nb t b) = true) → pDig t f b v = r → mPt k' t use base nm b op → pF k k' → wX8_unit_150 (d + 1) (oh_r1 K) (nI v) (nI i) k' := by
      intro f
      induction f with
      | zero =>
        intro i hi b v k' hb h0 he hk hf
        have : i = 4 := by omega
        subst this
        unfold pDig at he
        subst he
        exact bX8_unit_150 (br_t (nI_le (Nat.le_refl 4) (by omega)) (oh_nt (by decide) (q1 k' hd hk hf)))
      | succ f ih =>
        intro i hi b v k' hb h0 he hk hf
        unfold pDig at he
        refine bX8_unit_150 (br_f (nI_ge (b := 4) (by omega) (by omega)) (sX8_here hO hk hb (sX8_inD hO.1 (oh_bz (fun c => ?_) (fun c => sX8_here hO hk hb ?_)))))
        · rw [if_neg (by rw [c]; decide)] at he
          subst he
          have hi0 : i ≠ 0 := fun z => by have := h0 z; rw [c] at this; cases this
          exact oh_nt (nI_ne0 (by omega) (by omega)) (q1 k' hd hk hf)
        · have hb2 := isD_in c
          rw [if_pos c] at he
          have hc : 48 ≤ nb t b := by unfold isD at c; simp at c; omega
          have e : pcI t b = nI (nb t b) := by unfold pcI; rw [if_pos hb2]
          have e2 : ((10 : Int32) * nI v + nI (nb t b)) - 48 = nI (10 * v + nb t b - 48) := by
            rw [show (10 : Int32) = nI 10 from rfl, show (48 : Int32) = nI 48 from rfl, pk_mul, nI_add, om_sub (by omega)]
          rw [e, e2, nI_1, hk.2.1, nI_1]
          exact ih (i + 1) (by omega) (b + 1) _ _ hb2 (by omega) he (mPt_at hk (b + 1)) (pF_tr hf (pF_up k' 9 _ (Or.inl rfl)))
    exact key 4 0 rfl a 0 k ha (fun _ => hd) hr.symm H (pF_rf k)
theorem oh_fb {k : oh_St} {x : Nat} {b : Nat} {v : Int32} (hf : k.1 0 11 = nI x) (hb : b ≠ 11) : (oh_upi k 0 b v).1 0 11 = nI x := by
  rw [oh_g1, if_neg (fun z => hb z.2.symm)]; exact hf
/-- names and numbers: the last of a unit -/
theorem mNam {d : Nat} {K : Int32 → oh_St → Prop} {k : oh_St} {t : List Nat} {use base : Nat} {nm : Nat → Int32} {a op : Nat} (hu : use < 2) (hO : tOk t base) (H : mPt k t use base nm a op) (ha : a ≤ t.length)
    (r : pR) (hr : r = if isD (nb t a) then (true, (pDig t 4 a 0).1, [(pDig t 4 a 0).2]) else match nmOf use (nb t a) with | some k => (true, a + 1, [20000 + k]) | none => (false, a, []))
    (q1 : ∀ v k', r.1 = true → pv nm r.2.2 v → mPt k' t use base nm r.2.1 op → pF k k' → K v k') (q0 : ∀ v k', r.1 = false → k'.1 0 11 = nI r.2.1 → pF k k' → K v k') :
    MM (d + 1) jX8_nameOf [.ref 0, .int (pcI t a)] k (oh_r1 (fun x18 h17 => ((x18 < 0 → wX8_unit_150 (d + 1) (oh_r1 K) (0 : Int32) (0 : Int32) h17) ∧ (¬ x18 < 0 → (vp_in x18 4 ∧ oh_r1 K (some (.int ((oh_upi h17 0 9 ((h17.1 0 9) + (1 : Int32))).1 5 x18.toNatClampNeg))) (oh_upi h17 0 9 ((h17.1 0 9) + (1 : Int32)))))))) := by
  refine sX8_nameOf hu hO H ?_
  cases hn : nmOf use (nb t a) with
  | none =>
    rw [hn] at hr
    refine br_t (by decide) (mDig hO H ha (fun k' hd hk hf => ?_) (fun hd => ?_))
    · rw [if_pos hd] at hr
      subst hr
      exact q1 _ k' rfl (pv_num nm (by have := pDig_v t 4 a 0 0 (by omega); omega)) hk hf
    · rw [if_neg (by rw [hd]; decide)] at hr
      subst hr
      refine q0 _ _ rfl ?_ (pF_up k 11 _ (by omega))
      rw [oh_g1, if_pos ⟨rfl, rfl⟩]
  | some j =>
    have hj := nmOf_in hn
    have hd : isD (nb t a) = false := by
      cases h : isD (nb t a)
      · rfl
      · rw [nmOf_D h] at hn; cases hn
    rw [if_neg (by rw [hd]; decide), hn] at hr
    subst hr
    refine br_f (nI_pos (by omega)) ⟨oh_in hj.2 (by omega), ?_⟩
    rw [oh_cl (by omega), oh_g1, if_neg (by omega), H.2.2.2.2.2.2.2 j hj.2, H.2.1, nI_1]
    exact q1 _ _ rfl (pv_name nm j) (mPt_at H (a + 1)) (pF_up k 9 _ (Or.inl rfl))
theorem mPS_un {t : List Nat} {use base : Nat} {nm : Nat → Int32} (hu : use < 2) (hO : tOk t base) : ∀ r, r ≤ 5 → ∀ d, mPS t use base nm (d + (7 * r + 4)) jX8_unit (5 - r) (pUn t use r)
  | 0, _ => fun d K k a ha hk q1 q0 => by
    have wr : nb t a = 33 ∨ nb t a = 40 → MM (d + 3) jX8_wrong [.ref 0] k (oh_r1 (fun x16 h15 => oh_r1 K (some (.int x16)) h15)) := by
      intro z
      have hd : isD (nb t a) = false := by rcases z with z | z <;> rw [z] <;> rfl
      refine sX8_wrong hk (q0 _ _ ?_ ?_ (pF_up k 11 _ (by omega)))
      · unfold pUn
        rw [if_neg (by rw [hd]; decide)]
        rcases z with z | z
        · rw [if_pos z]
        · rw [if_neg (by omega), if_pos z]
      · unfold pUn
        rw [if_neg (by rw [hd]; decide), oh_g1, if_pos ⟨rfl, rfl⟩]
        rcases z with z | z
        · rw [if_pos z]
        · rw [if_neg (by omega), if_pos z]
    refine mX8_unit (sX8_here hO hk ha ?_)
    rw [hk.2.2.2.2.1]
    refine pcI_b2 hO.1 33 (by omega) (fun z => oh_nf rfl (wr (Or.inl z))) (fun z => pcI_b1 hO.1 40 (by omega) (fun z2 => ?_) (fun z2 => oh_nf rfl (wr (Or.inr z2))))
    exact mNam (d := d + 2) hu hO hk ha _ (by unfold pUn; rw [if_neg z, if_neg z2]; cases nmOf use (nb t a) <;> rfl) q1 q0
  | r + 1, hr => fun d K k a ha hk q1 q0 => by
    have hl := hO.2.1
    have ihu := mPS_un (nm := nm) hu hO r (by omega)
    have iun := ihu (d + 6)
    have iei := mPS_either (D := d + (7 * r + 3)) hO (pUn_gd t use r) (by
      have := ihu (d + 1)
      rw [show d + 1 + (7 * r + 4) = d + (7 * r + 3) + 2 by omega] at this
      exact this)
    have e1 : d + (7 * (r + 1) + 4) = (d + (7 * r + 10)) + 1 := by omega
    rw [e1]
    rw [show d + 6 + (7 * r + 4) = d + (7 * r + 10) by omega] at iun
    rw [show d + (7 * r + 3) + 7 = d + (7 * r + 10) by omega] at iei
    refine mX8_unit ?_
    rw [show d + (7 * r + 10) = (d + (7 * r + 9)) + 1 by omega] at iun iei ⊢
    refine sX8_here hO hk ha ?_
    have n5 : ¬ nI (5 - (r + 1)) = nI 5 := fun z => by have := (nI_eq (by omega) (by omega)).mp z; omega
    rw [hk.2.2.2.2.1, nI_1, show 5 - (r + 1) + 1 = 5 - r by omega]
    have at1 : (oh_upi k 0 12 (nI (5 - r))).1 0 9 = nI a := by rw [oh_g1, if_neg (by omega)]; exact hk.2.1
    have k2 := mPt_at (mPt_op hk (5 - r)) (a + 1)
    have f2 : pF k (oh_upi (oh_upi k 0 12 (nI (5 - r))) 0 9 (nI (a + 1))) := pF_tr (pF_up k 12 _ (by omega)) (pF_up _ 9 _ (by omega))
    rw [at1, nI_1]
    have dn : ∀ {k' : oh_St}, k'.1 0 12 = nI (5 - r) → (k'.1 0 12) - (1 : Int32) = nI (5 - (r + 1)) := fun e => by
      rw [e, show (1 : Int32) = nI 1 from rfl, om_sub (by omega), show 5 - r - 1 = 5 - (r + 1) by omega]
    refine pcI_b2 hO.1 33 (by omega) (fun z => oh_nt n5 ?_) (fun z => pcI_b1 hO.1 40 (by omega) (fun z2 => ?_) (fun z2 => oh_nt n5 ?_))
    · have hb2 := nb_lt (t := t) (a := a) (by omega)
      have hd : isD (nb t a) = false := by rw [z]; rfl
      unfold pUn at q1 q0
      rw [if_neg (by rw [hd]; decide), if_pos z] at q1 q0
      have n40 : ¬ pcI t a = (40 : Int32) := pcI_no hO.1 (c := 40) (by omega) (by omega)
      refine oh_nt n40 (iun _ _ (a + 1) hb2 k2 (fun v k' c hv hk' hf => oh_nt n40 (oh_nt n40 ?_)) (fun v k' c hf' hp => oh_nt n40 (oh_nt n40 ?_)))
      · rw [dn hk'.2.2.2.2.1]
        have Q := q1 _ (oh_upi k' 0 12 (nI (5 - (r + 1)))) c (pv_not hv) (mPt_op hk' _) (pF_tr f2 (pF_tr hf (pF_up k' 12 _ (by omega))))
        refine ⟨fun y => ?_, fun y => ?_⟩
        · rw [if_neg y] at Q; exact Q
        · rw [if_pos y] at Q; exact Q
      · have Q := fun u => q0 u (oh_upi k' 0 12 ((k'.1 0 12) - (1 : Int32))) c (oh_fb hf' (by omega)) (pF_tr f2 (pF_tr hp (pF_up k' 12 _ (by omega))))
        exact ⟨fun _ => Q _, fun _ => Q _⟩
    · unfold pUn at q1 q0
      exact mNam (d := d + (7 * r + 9)) hu hO hk ha _ (by rw [if_neg z, if_neg z2]; cases nmOf use (nb t a) <;> rfl) q1 q0
    · have hb2 := nb_lt (t := t) (a := a) (by omega)
      have hd : isD (nb t a) = false := by rw [z2]; rfl
      unfold pUn at q1 q0
      rw [if_neg (by rw [hd]; decide), if_neg z, if_pos z2] at q1 q0
      have y40 : pcI t a = (40 : Int32) := (pcI_eq hO.1 (c := 40) (by omega)).mpr z2
      obtain ⟨g1, g2, g3, g4, g5⟩ := pLev_gd (pUn_gd t use r) 5 (a + 1) hb2
      unfold pIn at q1 q0
      refine oh_nf y40 (iei _ _ (a + 1) hb2 k2 (fun v k' c hv hk' hf => oh_nf y40 ?_) (fun v k' c hf' hp => oh_nf y40 ?_))
      · rw [if_pos c] at q1 q0
        refine sX8_takes (d := d + (7 * r + 8)) (c := 41) hO hk' g2 (by omega) (fun y => ?_) (fun y => ?_)
        · rw [if_pos y] at q1
          refine oh_nt (by decide) (oh_nf y40 ?_)
          have m := mPt_at hk' ((pLev t (pUn t use r) 5 (a + 1)).2.1 + 1)
          rw [dn m.2.2.2.2.1]
          exact q1 _ _ rfl hv (mPt_op m _) (pF_tr f2 (pF_tr hf (pF_tr (pF_up k' 9 _ (by omega)) (pF_up _ 12 _ (by omega)))))
        · rw [if_neg y] at q0
          refine oh_nf rfl (sX8_wrong hk' (q0 _ _ rfl ?_ (pF_tr f2 (pF_tr hf (pF_up k' 11 _ (by omega))))))
          rw [oh_g1, if_pos ⟨rfl, rfl⟩]
      · rw [if_neg (by rw [c]; decide)] at q0
        refine sX8_takesF (d := d + (7 * r + 8)) (c := 41) hf' (by omega) (by omega) (oh_nf rfl (sX8_wrongF hf' (by omega) (q0 _ _ c ?_ (pF_tr f2 (pF_tr hp (pF_up k' 11 _ (by omega)))))))
        rw [oh_g1, if_pos ⟨rfl, rfl⟩]

theorem pLev_ne {t : List Nat} {u : Nat → pR} (hu : ∀ a, (u a).1 = true → ¬ (u a).2.2 = []) : ∀ j a, (pLev t u j a).1 = true → ¬ (pLev t u j a).2.2 = []
  | 0, a, h => hu a h
  | j + 1, a, h => by
    unfold pLev at h ⊢
    by_cases c : (pLev t u j a).1 = true
    · rw [if_pos c]
      intro e
      exact pLev_ne hu j a c (List.append_eq_nil_iff.mp e).1
    · rw [if_neg c] at h
      exact absurd h c
theorem pUn_ne (t : List Nat) (use : Nat) : ∀ r a, (pUn t use r a).1 = true → ¬ (pUn t use r a).2.2 = []
  | 0, a, h => by
    unfold pUn at h ⊢
    by_cases c : isD (nb t a) = true
    · rw [if_pos c]; simp
    · rw [if_neg c] at h ⊢
      by_cases c1 : nb t a = 33
      · rw [if_pos c1] at h; simp at h
      · rw [if_neg c1] at h ⊢
        by_cases c2 : nb t a = 40
        · rw [if_pos c2] at h; simp at h
        · rw [if_neg c2] at h ⊢
          cases hn : nmOf use (nb t a) with
          | none => rw [hn] at h; simp at h
          | some k => simp
  | r + 1, a, h => by
    unfold pUn at h ⊢
    by_cases c : isD (nb t a) = true
    · rw [if_pos c]; simp
    · rw [if_neg c] at h ⊢
      by_cases c1 : nb t a = 33
      · rw [if_pos c1]
        unfold pNo
        simp
      · rw [if_neg c1] at h ⊢
        by_cases c2 : nb t a = 40
        · rw [if_pos c2] at h ⊢
          unfold pIn at h ⊢
          by_cases c3 : (pLev t (pUn t use r) 5 (a + 1)).1 = true
          · rw [if_pos c3] at h ⊢
            have := pLev_ne (t := t) (pUn_ne t use r) 5 (a + 1) c3
            by_cases c4 : nb t (pLev t (pUn t use r) 5 (a + 1)).2.1 = 41
            · rw [if_pos c4]; exact this
            · rw [if_neg c4] at h; simp at h
          · rw [if_neg c3] at h
            exact absurd h c3
        · rw [if_neg c2] at h ⊢
          cases hn : nmOf use (nb t a) with
          | none => rw [hn] at h; simp at h
          | some k => simp
theorem pTx_ne {t : List Nat} {u : Nat} (h : pOk t u = true) : ¬ (pTx t u).2.2 = [] := by
  unfold pOk at h
  simp only [Bool.and_eq_true] at h
  exact pLev_ne (pUn_ne t u 5) 5 0 h.1
theorem pv_eR {nm : Nat → Int32} {c : List Nat} {v : Int32} (h : pv nm c v) (hl : c.length ≤ 50) : eR nm c = v := by
  have := h.2 [] [] (by simpa using hl)
  rw [List.append_nil] at this
  unfold eR
  rw [this]
  rfl
def wF (k k' : oh_St) : Prop := (∀ a b, ¬ (a = 0 ∧ 8 ≤ b ∧ b ≤ 13) → k'.1 a b = k.1 a b) ∧ k'.2 = k.2
theorem wF_of {k k' : oh_St} (h : pF k k') : wF k k' := ⟨fun a b x => h.1 a b (fun z => x ⟨z.1, by omega⟩), h.2⟩
theorem wF_tr {k k' k2 : oh_St} (H : wF k k') (H2 : wF k' k2) : wF k k2 := ⟨fun a b x => (H2.1 a b x).trans (H.1 a b x), H2.2.trans H.2⟩
theorem wF_up (k : oh_St) (b : Nat) (v : Int32) (hb : 8 ≤ b ∧ b ≤ 13) : wF k (oh_upi k 0 b v) := ⟨fun a c x => by
  rw [oh_g1, if_neg (fun z => x ⟨z.1, by rw [z.2]; exact hb⟩)], rfl⟩
theorem sX8_worked {d : Nat} {K : Int32 → oh_St → Prop} {k : oh_St} {t : List Nat} {use base : Nat} {nm : Nat → Int32} (hu : use < 2) (hO : tOk t base) (hb : ∀ i, i < t.length → k.1 1 (base + i) = nI (nb t i)) (hn : ∀ j, j < 4 → k.1 5 j = nm j)
    (q1 : pOk t use = true → ∀ v k', pv nm (pTx t use).2.2 v → k'.1 0 11 = -1 → wF k k' → K v k') (q0 : pOk t use = false → ∀ v k', k'.1 0 11 = nI (pTx t use).2.1 → wF k k' → K v k') : MM (d + 45) jX8_worked [.ref 0, .int (nI base), .int (nI t.length), .int (nI use)] k (oh_r1 K) := by
  have hl := hO.2.1
  have ei := mPS_either (nm := nm) (op := 0) (use := use) (D := d + 37) hO (pUn_gd t use 5) (mPS_un hu hO 5 (by omega) d)
  obtain ⟨g1, g2, g3, g4, g5⟩ := pLev_gd (pUn_gd t use 5) 5 0 (by omega)
  have main : ∀ (x : Int32), x = oh_b (decide (use = 1)) → MM (d + 44) jX8_either [.ref 0] (oh_upi (oh_upi (oh_upi (oh_upi (oh_upi (oh_upi k 0 8 (nI base)) 0 9 (0 : Int32)) 0 10 (nI t.length)) 0 11 (-1 : Int32)) 0 12 (0 : Int32)) 0 13 x) (oh_r1 (fun x2 h1 => ((0 ≤ (h1.1 0 11) → oh_r1 K (some (.int x2)) h1) ∧ (¬ 0 ≤ (h1.1 0 11) → (((h1.1 0 10) ≤ (h1.1 0 9) → oh_r1 K (some (.int x2)) h1) ∧ (¬ (h1.1 0 10) ≤ (h1.1 0 9) → MM (d + 44) jX8_wrong [.ref 0] h1 (oh_r1 (fun x4 h3 => oh_r1 K (some (.int x4)) h3))))))) ) := by
    intro x hx
    have f0 : wF k (oh_upi (oh_upi (oh_upi (oh_upi (oh_upi (oh_upi k 0 8 (nI base)) 0 9 (0 : Int32)) 0 10 (nI t.length)) 0 11 (-1 : Int32)) 0 12 (0 : Int32)) 0 13 x) := wF_tr (wF_up k 8 _ (by omega)) (wF_tr (wF_up _ 9 _ (by omega)) (wF_tr (wF_up _ 10 _ (by omega)) (wF_tr (wF_up _ 11 _ (by omega)) (wF_tr (wF_up _ 12 _ (by omega)) (wF_up _ 13 _ (by omega))))))
    refine ei _ _ 0 (by omega) ⟨?_, ?_, ?_, ?_, ?_, ?_, fun i hi => ?_, fun j hj => ?_⟩ (fun v k' c hv hk hf => ?_) (fun v k' c hf hp => ?_)
    · simp only [oh_g1]; simp
    · simp only [oh_g1]; simp; rfl
    · simp only [oh_g1]; simp
    · simp only [oh_g1]; simp
    · simp only [oh_g1]; simp; rfl
    · simp only [oh_g1]; simp; exact hx
    · rw [f0.1 _ _ (by omega)]; exact hb i hi
    · rw [f0.1 _ _ (by omega)]; exact hn j hj
    · rw [hk.2.2.2.1, hk.2.1, hk.2.2.1]
      refine br_f (by decide) ?_
      have f1 := wF_tr f0 (wF_of hf)
      by_cases e : (pLev t (pUn t use 5) 5 0).2.1 = t.length
      · refine br_t (nI_le (by omega) (by omega)) (q1 ?_ v k' hv hk.2.2.2.1 f1)
        unfold pOk pTx
        rw [c, decide_eq_true e]
        rfl
      · refine br_f (nI_ge (by omega) (by omega)) (sX8_wrong hk (q0 ?_ _ _ ?_ (wF_tr f1 (wF_up _ 11 _ (by omega)))))
        · unfold pOk pTx
          rw [c, decide_eq_false e]
          rfl
        · rw [oh_g1, if_pos ⟨rfl, rfl⟩]
          rfl
    · rw [hf]
      refine br_t (nI_pos' (by omega)) (q0 ?_ v k' hf (wF_tr f0 (wF_of hp)))
      unfold pOk pTx
      rw [c]
      rfl
  refine mX8_worked ?_
  have hu2 : use = 0 ∨ use = 1 := by omega
  rcases hu2 with rfl | rfl
  · exact oh_nt (by decide) ⟨oh_i0, main 0 rfl⟩
  · exact oh_nf rfl ⟨oh_i1, main 1 rfl⟩
theorem sX8_held {d : Nat} {K : Int32 → oh_St → Prop} {k : oh_St} {v lo hi : Int32} (q : K (oHeld v lo hi) k) : MM (d + 1) jX8_held [.int v, .int lo, .int hi] k (oh_r1 K) := by
  unfold oHeld at q
  refine mX8_held ⟨fun c => ⟨fun c2 => ?_, fun c2 => ?_⟩, fun c => ?_⟩
  · rw [if_neg (Int32.not_lt.mpr c), if_neg (Int32.not_lt.mpr c2)] at q; exact q
  · rw [if_neg (Int32.not_lt.mpr c), if_pos (Int32.not_le.mp c2)] at q; exact q
  · rw [if_pos (Int32.not_le.mp c)] at q; exact q
/-- the code of a text; none, where there is none -/
def cOf (use : Nat) (t : List Nat) : List Nat := if t = [] then [] else (pTx t use).2.2
/-- the model's text of a use -/
def txIs (k : oh_St) (ar u : Nat) (t : List Nat) : Prop := k.1 ar (38 + u) = nI t.length ∧ (∀ i, i < t.length → k.1 ar (60 + 50 * u + i) = nI (nb t i)) ∧ (∀ x ∈ t, x < 256) ∧ t.length ≤ 50 ∧ (¬ t = [] → pOk t u = true)
def gF (k k' : oh_St) : Prop := (∀ a b, a ≠ 5 → ¬ (a = 0 ∧ 8 ≤ b ∧ b ≤ 13) → k'.1 a b = k.1 a b) ∧ k'.2 = k.2
theorem sX8_gives {d : Nat} {K : Int32 → oh_St → Prop} {k : oh_St} {u : Nat} {t : List Nat} {v1 v2 v3 v4 : Int32} (hu : u < 2) (ht : txIs k 1 u t) (q : ∀ k', gF k k' → K (lwF u (cOf u t) v1 v2 v3 v4) k') : MM (d + 46) jX8_gives [.ref 0, .int (nI u), .int v1, .int v2, .int v3, .int v4] k (oh_r1 K) := by
  obtain ⟨t1, t2, t3, t4, t5⟩ := ht
  have hO : tOk t (60 + 50 * u) := ⟨t3, t4, by omega⟩
  have e38 : (38 : Int32) + nI u = nI (38 + u) := by rw [show (38 : Int32) = nI 38 from rfl, nI_add]
  have e60 : (60 : Int32) + (50 : Int32) * nI u = nI (60 + 50 * u) := by rw [show (60 : Int32) = nI 60 from rfl, show (50 : Int32) = nI 50 from rfl, pk_mul, nI_add]
  have f0 : gF k (oh_upi (oh_upi (oh_upi (oh_upi k 5 0 v1) 5 1 v2) 5 2 v3) 5 3 v4) := ⟨fun a b x _ => by
    simp only [oh_g1]; simp [x], rfl⟩
  have em : t = [] → cOf u t = [] := fun z => by unfold cOf; rw [if_pos z]
  have z0 : t = [] → nI t.length = 0 := fun z => by rw [z]; rfl
  have lt0 : ¬ t = [] → 0 < t.length := fun z => List.length_pos_iff.mpr z
  have wk : ¬ t = [] → ∀ (K2 : Int32 → oh_St → Prop), (∀ k', gF k k' → K2 (eR (oNm v1 v2 v3 v4) (cOf u t)) k') → MM (d + 45) jX8_worked [.ref 0, .int (nI (60 + 50 * u)), .int (nI t.length), .int (nI u)] (oh_upi (oh_upi (oh_upi (oh_upi k 5 0 v1) 5 1 v2) 5 2 v3) 5 3 v4) (oh_r1 K2) := by
    intro z K2 q2
    have gd := pLev_gd (pUn_gd t u 5) 5 0 (by omega)
    refine sX8_worked (nm := oNm v1 v2 v3 v4) hu hO (fun i hi => ?_) (fun j hj => ?_) (fun _ v k' hv _ hf => ?_) (fun e => by rw [t5 z] at e; cases e)
    · rw [f0.1 _ _ (by omega) (by omega)]; exact t2 i hi
    · have : j = 0 ∨ j = 1 ∨ j = 2 ∨ j = 3 := by omega
      rcases this with rfl | rfl | rfl | rfl <;> (simp only [oh_g1]; simp [oNm])
    · have e := pv_eR hv (show (pTx t u).2.2.length ≤ 50 by unfold pTx; omega)
      have e2 : cOf u t = (pTx t u).2.2 := by unfold cOf; rw [if_neg z]
      rw [← e, ← e2]
      exact q2 k' ⟨fun a b x y => (hf.1 a b y).trans (f0.1 a b x y), hf.2.trans f0.2⟩
  have ne : ¬ t = [] → ¬ cOf u t = [] := fun z e => by
    have e2 : cOf u t = (pTx t u).2.2 := by unfold cOf; rw [if_neg z]
    have := t5 z
    rw [e2] at e
    exact pTx_ne this e
  refine mX8_gives ?_
  rw [e38, e60, om_0, om_1, om_2, om_3, oh_cl (by omega), t1]
  have tl : (oh_upi (oh_upi (oh_upi (oh_upi k 5 0 v1) 5 1 v2) 5 2 v3) 5 3 v4).1 1 (38 + u) = nI t.length := by rw [f0.1 _ _ (by omega) (by omega)]; exact t1
  rw [tl]
  unfold lwF at q
  have hu2 : u = 0 ∨ u = 1 := by omega
  rcases hu2 with rfl | rfl
  · rw [if_pos rfl] at q
    refine oh_nf rfl ⟨om_in (by omega), ?_⟩
    by_cases z : t = []
    · rw [if_pos (em z)] at q
      rw [z0 z]
      exact br_t (by decide) (oh_nf rfl (q k ⟨fun _ _ _ _ => rfl, rfl⟩))
    · rw [if_neg (ne z)] at q
      exact br_f (nI_nle (lt0 z) (by omega)) ⟨oh_in (i := 0) (by omega) (by omega), oh_in (i := 1) (by omega) (by omega), oh_in (i := 2) (by omega) (by omega), oh_in (i := 3) (by omega) (by omega), om_in (by omega), wk z _ (fun k' hf => oh_nf rfl (q k' hf))⟩
  · rw [if_neg (by decide)] at q
    refine oh_nt (by decide) ⟨om_in (by omega), ?_⟩
    by_cases z : t = []
    · rw [if_pos (em z)] at q
      rw [z0 z]
      exact br_t (by decide) (oh_nt (by decide) (sX8_held (q k ⟨fun _ _ _ _ => rfl, rfl⟩)))
    · rw [if_neg (ne z)] at q
      exact br_f (nI_nle (lt0 z) (by omega)) ⟨oh_in (i := 0) (by omega) (by omega), oh_in (i := 1) (by omega) (by omega), oh_in (i := 2) (by omega) (by omega), oh_in (i := 3) (by omega) (by omega), om_in (by omega), wk z _ (fun k' hf => oh_nt (by decide) (sX8_held (q k' hf)))⟩

/-! WHAT IS MADE AT FIRST; the law's start -/
def hC0 : oh_St := (fun a => match Nat.beq a 2 || (Nat.beq a 20 || Nat.beq a 37) with
  | true => fun b => match Nat.beq b 6 with
    | true => 3
    | false => 0
  | false => match Nat.beq a 11 || Nat.beq a 29 with
    | true => fun b => match Nat.beq b 0 with
      | true => 1
      | false => 0
    | false => match Nat.beq a 1 || Nat.beq a 19 with
      | true => fun b => match Nat.beq b 5 with
        | true => 1
        | false => 0
      | false => fun _ => 0, fun _ _ => 0)
def kM0 : oh_St := (fun a => match Nat.beq a 1 with
  | true => upd (upd (fun _ => 0) (4 : Int32).toNatClampNeg 3) (5 : Int32).toNatClampNeg 1
  | false => fun _ => 0, fun _ _ => 0)
theorem kM0_1 {b : Nat} (h4 : b ≠ 4) (h5 : b ≠ 5) : kM0.1 1 b = 0 := by
  show upd (upd (fun _ => 0) (4 : Int32).toNatClampNeg 3) (5 : Int32).toNatClampNeg 1 b = 0
  rw [show (4 : Int32).toNatClampNeg = 4 from by decide, show (5 : Int32).toNatClampNeg = 5 from by decide]
  unfold upd
  rw [if_neg h5, if_neg h4]
def S00 : oS := (0, fun _ => 0, fun _ => 0, fun _ => 0, 0, 0, 0, 0)
def B00 : oBk := (S00, false, 3, fun _ => 0, [], [], fun _ => [], 1)
theorem S00_ok : sOk S00 := ⟨Nat.zero_le _, fun p _ => ⟨Nat.zero_le _, Nat.zero_le _, by show 0 < 64; omega⟩, by show 0 < 2 ^ 0; decide, by show 0 < 2 ^ (2 ^ 0); decide, by show 0 < 2 ^ 0; decide, by show 0 < 1000; omega⟩
theorem cOf_nil (u : Nat) : cOf u [] = [] := by unfold cOf; rw [if_pos rfl]
theorem rowIs_nil {h : oh_St} {o : Nat} (e : h.1 o 1 = 0) : rowIs h o [] := ⟨e, fun i hi => absurd hi (Nat.not_lt_zero i), Nat.zero_le _⟩
theorem C00 : cB hC0 1 B00 := by
  refine ⟨⟨rfl, fun p _ => ⟨rfl, rfl, rfl⟩, rfl, rfl, rfl, rfl, S00_ok⟩, rfl, rfl, fun i _ => rfl, ?_, ?_, rowIs_nil rfl, rowIs_nil rfl, rfl⟩
  · show rowIs hC0 8 ((cOf 0 []).map nI)
    rw [cOf_nil]
    exact rowIs_nil rfl
  · show rowIs hC0 12 ((cOf 1 []).map nI)
    rw [cOf_nil]
    exact rowIs_nil rfl
theorem M00 : mB kM0 B00 := by
  refine ⟨⟨kM0_1 (by decide) (by decide), fun p hp => ⟨?_, ?_, ?_, ?_⟩, kM0_1 (by decide) (by decide), kM0_1 (by decide) (by decide)⟩, fun h => (by cases h), kM0_1 (by decide) (by decide), rfl, fun i hi => ?_, ⟨kM0_1 (by decide) (by decide), fun i hi => absurd hi (Nat.not_lt_zero i), fun x hx => absurd hx List.not_mem_nil, Nat.zero_le _, fun h => absurd rfl h⟩, ⟨kM0_1 (by decide) (by decide), fun i hi => absurd hi (Nat.not_lt_zero i), fun x hx => absurd hx List.not_mem_nil, Nat.zero_le _, fun h => absurd rfl h⟩, ⟨kM0_1 (by decide) (by decide), fun i hi => absurd hi (Nat.not_lt_zero i)⟩, ⟨kM0_1 (by decide) (by decide), fun i hi => absurd hi (Nat.not_lt_zero i)⟩, rfl⟩
  · exact kM0_1 (by omega) (by omega)
  · exact kM0_1 (by omega) (by omega)
  · show kM0.1 1 (8 + 5 * p + 2) = oh_b (Nat.testBit 0 p)
    rw [kM0_1 (by omega) (by omega), Nat.zero_testBit]
    rfl
  · exact kM0_1 (by omega) (by omega)
  · exact kM0_1 (by omega) (by omega)
theorem R00 : R hC0 kM0 := by
  refine ⟨B00, C00, M00, ⟨Nat.zero_le _, fun x hx => absurd hx List.not_mem_nil, fun i _ _ => rfl, fun _ => rfl, fun h => (by cases h)⟩, ⟨rfl, rfl⟩, rfl, fun h => absurd rfl h, fun i _ => rfl, ⟨[], rowIs_nil rfl, rfl, fun i hi => absurd hi (Nat.not_lt_zero i)⟩, fun s hs => ?_⟩
  rcases (by omega : s = 0 ∨ s = 1 ∨ s = 2 ∨ s = 3) with rfl | rfl | rfl | rfl
  · exact ⟨⟨rfl, Or.inl rfl⟩, ⟨0, Nat.zero_le _, rfl, rfl⟩, fun i _ => rfl⟩
  · exact ⟨⟨rfl, Or.inl rfl⟩, ⟨0, Nat.zero_le _, rfl, rfl⟩, fun i _ => rfl⟩
  · exact ⟨⟨rfl, Or.inl rfl⟩, ⟨0, Nat.zero_le _, rfl, rfl⟩, fun i _ => rfl⟩
  · exact ⟨⟨rfl, Or.inl rfl⟩, ⟨0, Nat.zero_le _, rfl, rfl⟩, fun i _ => rfl⟩
/-- the addresses made, and those around -/
def adJ (a b : Nat → Nat) (i : Nat) : Nat := match Nat.blt i 1000 with
  | true => a i
  | false => b i
theorem adJ_hi {a b : Nat → Nat} {i : Nat} (h : 1000 ≤ i) : adJ a b i = b i := by
  unfold adJ
  rw [show Nat.blt i 1000 = false from by rw [Bool.eq_false_iff]; exact fun z => Nat.not_lt.mpr h (Nat.le_of_ble_eq_true z)]
def oh_mx {α β : Type} (f : Nat → α → β) : Nat → List α → List β
  | _, [] => []
  | k, x :: l => f k x :: oh_mx f (k + 1) l
theorem oh_mx_eq {α β : Type} (f : Nat → α → β) : ∀ (l : List α) (k : Nat), oh_mx f k l = l.mapIdx (fun i x => f (k + i) x)
  | [], _ => by simp [oh_mx]
  | x :: l, k => by
    rw [oh_mx, oh_mx_eq f l (k + 1), List.mapIdx_cons]
    congr 1
    apply List.mapIdx_eq_mapIdx_iff.mpr
    intro i hi
    rw [show k + 1 + i = k + (i + 1) by omega]
theorem oh_mx_0 {α β : Type} (f : Nat → α → β) (l : List α) : l.mapIdx f = oh_mx f 0 l := by
  rw [oh_mx_eq]
  simp
def oh_cx (cI cR : ClassId) (ad : Nat → Nat) (h : oh_St) (o : Nat) (s : oh_Sh) : va_E := match s with
  | .inl q => .inr (q.1, oh_mx (fun k z => oh_slv ad h o k z) 0 q.2)
  | .inr (.inl n) => .inl (cI, n, .inl (h.1 o))
  | .inr (.inr js) => .inl (cR, js.length, .inr (.inr (.inr (.inr (fun k => (js[k]?).map ad)))))
theorem oh_W_x {cI cR : ClassId} {ad : Nat → Nat} {G : List oh_Sh} {h : oh_St} : oh_W cI cR ad G h = oh_mx (fun o s => (ad o, oh_cx cI cR ad h o s)) 0 G := by
  rw [← oh_mx_0]
  unfold oh_W
  congr 1
  funext o s
  rcases s with q | n | js
  · show (ad o, Sum.inr (q.1, q.2.mapIdx (fun k z => oh_slv ad h o k z))) = (ad o, Sum.inr (q.1, oh_mx (fun k z => oh_slv ad h o k z) 0 q.2))
    rw [oh_mx_0]
  · rfl
  · rfl
theorem she_eq (a : Nat → Nat) : (va_up (va_up (va_up (va_up (fun _ => none) (0 : Int32).toNatClampNeg (some (a 51))) (1 : Int32).toNatClampNeg (some (a 53))) (2 : Int32).toNatClampNeg (some (a 55))) (3 : Int32).toNatClampNeg (some (a 57)) : Nat → Option Nat) = fun k => (([51, 53, 55, 57] : List Nat)[k]?).map a := by
  funext k
  rw [show (0 : Int32).toNatClampNeg = 0 from by decide, show (1 : Int32).toNatClampNeg = 1 from by decide, show (2 : Int32).toNatClampNeg = 2 from by decide, show (3 : Int32).toNatClampNeg = 3 from by decide]
  unfold va_up
  rcases k with _ | _ | _ | _ | k
  · rfl
  · rfl
  · rfl
  · rfl
  · rw [if_neg (by omega), if_neg (by omega), if_neg (by omega), if_neg (by omega)]
    rfl
set_option maxRecDepth 100000 in
theorem hat_W {cI cR : ClassId} {ad : Nat → Nat} : cHat cI cR (ad 2000) ad = oh_W cI cR ad GC hC0 := by
  rw [oh_W_x]
  unfold cHat
  rw [she_eq]
  rfl
set_option maxRecDepth 100000 in
theorem mod_W {cI cR : ClassId} {ad : Nat → Nat} : cMod cI ad = oh_W cI cR ad GM kM0 := by
  rw [oh_W_x]
  rfl
set_option maxRecDepth 100000 in
theorem hat_J {cI cR : ClassId} {t : Nat} {a b : Nat → Nat} : cHat cI cR t a = cHat cI cR t (adJ a b) := rfl
set_option maxRecDepth 100000 in
theorem mod_J {cI : ClassId} {a b : Nat → Nat} : cMod cI a = cMod cI (adJ a b) := rfl
theorem oh_W_ex {cI cR : ClassId} {ad : Nat → Nat} {G : List oh_Sh} {h : oh_St} {i : Nat} (hi : i < G.length) : ∃ e, (oh_W cI cR ad G h)[i]? = some (ad i, e) := ⟨_, oh_W_at (s := G[i]) (by rw [oh_nth_eq]; exact List.getElem?_eq_getElem hi)⟩
theorem oh_W_len {cI cR : ClassId} {ad : Nat → Nat} {G : List oh_Sh} {h : oh_St} : (oh_W cI cR ad G h).length = G.length := by simp [oh_W]
theorem two_W {D : va_G} {cI cR : ClassId} {A : Nat → Prop} {adC adM : Nat → Nat} {h k : oh_St} {H : Heap} (hP : va_P D vwCl (oh_W cI cR adC GC h ++ oh_W cI cR adM GM k) H) (hD : va_D A (oh_W cI cR adC GC h ++ oh_W cI cR adM GM k)) : (va_P D vwCl (oh_W cI cR adC GC h) H ∧ va_P D vwCl (oh_W cI cR adM GM k) H) ∧ (∀ i j, i < GC.length → j < GC.length → adC i = adC j → i = j) ∧ (∀ i j, i < GM.length → j < GM.length → adM i = adM j → i = j) ∧ (∀ i, i < GC.length → A (adC i)) ∧ (∀ i, i < GM.length → A (adM i)) ∧ ∀ i j, i < GC.length → j < GM.length → adC i ≠ adM j := by
  have hlen : (oh_W cI cR adC GC h).length = GC.length := oh_W_len
  have hr : ∀ {k0 : Nat} {x : Nat × va_E}, (oh_W cI cR adM GM k)[k0]? = some x → (oh_W cI cR adC GC h ++ oh_W cI cR adM GM k)[GC.length + k0]? = some x := fun {k0 x} hx => by
    rw [List.getElem?_append_right (by omega), hlen, Nat.add_sub_cancel_left]
    exact hx
  refine ⟨⟨fun k0 x hx => hP k0 x (oc_fst hx), fun k0 x hx => hP _ x (hr hx)⟩, fun i j hi hj e => ?_, fun i j hi hj e => ?_, fun i hi => ?_, fun i hi => ?_, fun i j hi hj e => ?_⟩
  · obtain ⟨e1, h1⟩ := oh_W_ex (cI := cI) (cR := cR) (ad := adC) (h := h) hi
    obtain ⟨e2, h2⟩ := oh_W_ex (cI := cI) (cR := cR) (ad := adC) (h := h) hj
    exact hD.1 i j _ _ (oc_fst h1) (oc_fst h2) e
  · obtain ⟨e1, h1⟩ := oh_W_ex (cI := cI) (cR := cR) (ad := adM) (h := k) hi
    obtain ⟨e2, h2⟩ := oh_W_ex (cI := cI) (cR := cR) (ad := adM) (h := k) hj
    have := hD.1 _ _ _ _ (hr h1) (hr h2) e
    omega
  · obtain ⟨e1, h1⟩ := oh_W_ex (cI := cI) (cR := cR) (ad := adC) (h := h) hi
    exact hD.2 _ _ (oc_fst h1)
  · obtain ⟨e1, h1⟩ := oh_W_ex (cI := cI) (cR := cR) (ad := adM) (h := k) hi
    exact hD.2 _ _ (hr h1)
  · obtain ⟨e1, h1⟩ := oh_W_ex (cI := cI) (cR := cR) (ad := adC) (h := h) hi
    obtain ⟨e2, h2⟩ := oh_W_ex (cI := cI) (cR := cR) (ad := adM) (h := k) hj
    have := hD.1 _ _ _ _ (oc_fst h1) (hr h2) e
    omega
theorem va_P_nil {D : va_G} {cl : List vw_C} {H : Heap} : va_P D cl [] H := fun k x hx => by simp at hx
theorem va_D_nil {A : Nat → Prop} : va_D A [] := ⟨fun i j x y hx => by simp at hx, fun k x hx => by simp at hx⟩
theorem whole_start {p : Program} {e : Env} {s : State} {m : MethodId} {below : List Frame} {meth : Method} {c : Code} (l : Launch) (hflags : l.flags = flags0) {b L : Nat} {xs : Nat → Int32} (hL : L ≤ 384) (C0 : lw_At p s m meth c b L xs) : W p l e room_1 s m #[Value.ref b] below meth c s.heap [] 0 0 (lw_Z below #[Value.ref b] s) (entryFrame m ([Value.ref b] : List Value).toArray 4) := by
  obtain ⟨hx, hb, hr, hml, hown, hts, hX, hbl, hlocks, hgv⟩ := C0
  obtain ⟨D, cI, cR, ad, hAmb, hAO⟩ := lw_amb hts hgv
  have hown : s.vm.findClass RL = some m.cls := hown
  have hl := lv_entry ([Value.ref b]) (n := 4) (Nat.le_of_ble_eq_true rfl)
  rw [lg_entry_eq]
  generalize (lg_sl ([Value.ref b]) ++ List.replicate (4 - (lg_sl ([Value.ref b])).length) Slot.unset).toArray = ls at hl ⊢
  have hl : lv_has ls 4 [(0, .ref b)] := hl
  have hA : ∀ x : Nat, s.heap.size ≤ x → (fun q : Nat => s.heap.size ≤ q) x := fun _ h => h
  refine va_new (ci := 7) (fs := [.null, .null, .null, .null, .null, .null, .null, .int 0]) (C := RX7) (T := TX7) (N := 8) (A := fun q => s.heap.size ≤ q) (ws := []) (H0 := s.heap) hx hb (oh_ts hAmb) (oc_in (ci := 7) rfl) tyX7 tyX7_ok hown (oh_Ab hAmb (oh_wd_i (ps := 115) (by decide +kernel))) (oh_Ab hAmb (oh_wd_i (ps := 116) (by decide +kernel))) (oh_Ab hAmb (oh_wd_i (ps := 97) (by decide +kernel))) hAmb.1 va_P_nil va_D_nil va_S.rf hA rfl (fun j hj => oc_def_7 j hj) (Nat.le_of_ble_eq_true rfl) (Nat.le_of_ble_eq_true rfl) dL_law_0 (fun q1 H hP hD hS => ?_)
  refine lv_dup hx hb dL_law_3 rfl ?_
  refine oc_callI (av := []) (ci := 7) (own := RL) (A := fun q => s.heap.size ≤ q) (wr := []) hx hb hml hown hAmb hAO (fun _ h => h) (Nat.le_refl _) oc_X7 (oh_wd_i (ps := 119) (by decide +kernel)) (oh_wd_i (ps := 97) (by decide +kernel)) (oh_wd_i (ps := 117) (by decide +kernel)) (oh_wd_i (ps := 118) (by decide +kernel)) (by decide +kernel) ⟨Nat.le_of_ble_eq_true rfl, Nat.le_of_ble_eq_true rfl⟩ ⟨Nat.le_of_ble_eq_true rfl, Nat.le_of_ble_eq_true rfl⟩ hl.1 (Nat.le_of_ble_eq_true rfl) hP hD hS hA dL_law_4 (fun aC H2 locs2 aCe nP nD nS => ?_)
  clear hP hD hS
  subst aCe
  refine lv_astore_n hx hb dL_law_7 rfl hl (by omega) rfl (fun ls1 hl1 => ?_)
  have hl1 : lv_has ls1 4 [(1, .ref (aC 0)), (0, .ref b)] := hl1
  have nP : va_P D vwCl (cHat cI cR (ad 2000) aC) H2 := nP
  have nD : va_D (fun q => s.heap.size ≤ q) (cHat cI cR (ad 2000) aC) := nD
  refine W.widen (k := 60) (n := 1099) (by omega) (by omega) ?_
  refine va_new (ci := 8) (fs := [.null, .null, .null, .long 0, .long 0, .long 0, .int 0, .null, .int 0, .int 0, .int 0, .int 0, .int 0, .int 0, .null, .null, .null, .null, .null, .null, .int 0, .int 0, .null, .null, .null, .null]) (C := RX8) (T := TX8) (N := 26) (A := fun q => s.heap.size ≤ q) (H0 := s.heap) hx hb (oh_ts hAmb) (oc_in (ci := 8) rfl) tyX8 tyX8_ok hown (oh_Ab hAmb (oh_wd_i (ps := 894) (by decide +kernel))) (oh_Ab hAmb (oh_wd_i (ps := 895) (by decide +kernel))) (oh_Ab hAmb (oh_wd_i (ps := 106) (by decide +kernel))) hAmb.1 nP nD nS hA rfl (fun j hj => oc_def_8 j hj) (Nat.le_of_ble_eq_true rfl) (Nat.le_of_ble_eq_true rfl) dL_law_8 (fun q2 H3 hP hD hS => ?_)
  refine lv_dup hx hb dL_law_11 rfl ?_
  refine oc_callI (av := []) (ci := 8) (own := RL) (A := fun q => s.heap.size ≤ q) (wr := cHat cI cR (ad 2000) aC) hx hb hml hown hAmb hAO (fun _ h => h) (Nat.le_refl _) oc_X8 (oh_wd_i (ps := 898) (by decide +kernel)) (oh_wd_i (ps := 106) (by decide +kernel)) (oh_wd_i (ps := 896) (by decide +kernel)) (oh_wd_i (ps := 897) (by decide +kernel)) (by decide +kernel) ⟨Nat.le_of_ble_eq_true rfl, Nat.le_of_ble_eq_true rfl⟩ ⟨Nat.le_of_ble_eq_true rfl, Nat.le_of_ble_eq_true rfl⟩ hl1.1 (Nat.le_of_ble_eq_true rfl) hP hD hS hA dL_law_12 (fun aM H4 locs4 aMe mP mD mS => ?_)
  clear hP hD hS
  subst aMe
  refine lv_astore_n hx hb dL_law_15 rfl hl1 (by omega) rfl (fun ls2 hl2 => ?_)
  have hl2 : lv_has ls2 4 [(2, .ref (aM 0)), (1, .ref (aC 0)), (0, .ref b)] := hl2
  refine lv_iconst (v := 0) hx hb dL_law_16 (by decide) (lv_istore_n hx hb dL_law_17 rfl hl2 (by omega) rfl (fun ls3 hl3 => ?_))
  have hl3 : lv_has ls3 4 [(0, .ref b), (1, .ref (adJ aC ad 0)), (2, .ref (adJ aM ad 0)), (3, .int (nI 0))] := lv_sub hl3 [3, 2, 1, 0] rfl
  refine W.widen (k := 100) (n := 4000) (by omega) (by omega) ?_
  rw [hat_J (b := ad), mod_J (b := ad), show ad 2000 = adJ aC ad 2000 from rfl, hat_W, mod_W (cR := cR)] at mP mD
  obtain ⟨⟨pC, pM⟩, iC, iM, bC, bM, dis⟩ := two_W mP mD
  have ambC : oh_Amb D cI cR (adJ aC ad) s.heap.size s s.heap := oh_Amb_ad (fun i hi => adJ_hi hi) hAmb
  have ambM : oh_Amb D cI cR (adJ aM ad) s.heap.size s s.heap := oh_Amb_ad (fun i hi => adJ_hi hi) hAmb
  have X : lwX p l s m c b L xs D cI cR (adJ aC ad) (adJ aM ad) := ⟨⟨hx, hb, hml, hown⟩, ⟨hX, hbl, hL⟩, ⟨ambC, ambM⟩, ⟨oh_sound GC_ok iC bC oh_mi_ok oh_M_ok pr_prim 100, oh_sound GM_ok iM bM oh_mi_ok oh_M_ok pr_prim 100⟩, fun i hi => bC i (by rw [GC_len]; exact hi), fun i hi => bM i (by rw [GM_len]; exact hi), fun i j hi hj => dis i j (by rw [GC_len]; exact hi) (by rw [GM_len]; exact hj)⟩
  exact lw_loop X ⟨by omega, by omega⟩ hr hlocks (L + 1) 0 ls3 H4 locs4 hC0 kM0 (by omega) (Nat.zero_le _) hl3 ⟨pC, pM, mS, R00⟩

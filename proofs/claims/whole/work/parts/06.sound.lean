/-! SOUNDNESS: the clean picture's steps are the machine's -/
def oh_Pm (p : Program) (l : Launch) (e : Env) (R : Room) (s : State) (m : MethodId) (args : Array Value) (below : List Frame) (meth : Method) (c : Code) (D : va_G) (cI cR : ClassId) (ad : Nat → Nat) (G : List oh_Sh) (A : Nat → Prop) (Qm : State → Prop) (mi : List oh_MI) (own : String) (ret : Option FieldType) (bytes : ByteArray) (nL : Nat) : oh_P := fun pc code l' st h => ∀ (H : Heap) (locs : List Loc) (lsc : Array Slot), va_P D vwCl (oh_W cI cR ad G h) H → va_S A s.heap H locs → oh_loc ad lsc nL l' → oh_ckS mi own ret bytes pc code = true → W p l e R s m args below meth c H locs 0 0 Qm (F0 m pc lsc (st.map (oh_V ad)))
section OHS
variable {p : Program} {l : Launch} {e : Env} {R : Room} {s : State} {m : MethodId} {args : Array Value} {below : List Frame} {meth : Method} {c : Code} {D : va_G} {cI cR : ClassId} {ad : Nat → Nat} {G : List oh_Sh} {A : Nat → Prop} {Qm : State → Prop} {mi : List oh_MI} {own : String} {ret : Option FieldType} {bytes : ByteArray} {nL b0 : Nat} {T : oh_T}
theorem oh_J_W {pc : Nat} {l' : oh_L} {st : List Value} {h : oh_St} {H : Heap} {locs : List Loc} {lsc : Array Slot} (hT : oh_ckT mi own ret bytes T = true) (q : oh_J T (oh_Pm p l e R s m args below meth c D cI cR ad G A Qm mi own ret bytes nL) (oh_Pm p l e R s m args below meth c D cI cR ad G A Qm mi own ret bytes nL) pc l' st h) (hP : va_P D vwCl (oh_W cI cR ad G h) H) (hS : va_S A s.heap H locs) (hl : oh_loc ad lsc nL l') : W p l e R s m args below meth c H locs 0 0 Qm (F0 m pc lsc (st.map (oh_V ad))) := by
  unfold oh_J at q
  split at q
  · rename_i c2 hf
    exact q H locs lsc hP hS hl (oh_ckT_i hT hf)
  · rename_i mm c2 hf
    exact q H locs lsc hP hS (oh_loc_less (oh_more_mask mm l') hl) (oh_ckT_i hT hf)
  · exact q.elim
theorem oh_Ab {w : Cond} (hAmb : oh_Amb D cI cR ad b0 s s.heap) (hw : w ∈ lw_tbl ∧ oh_okw w = true) : w.before args s = true := va_Nw.use (oh_okw_on hw.2) (hAmb.2.1 w hw.1 hw.2)
theorem oh_ts (hAmb : oh_Amb D cI cR ad b0 s s.heap) : ∀ w ∈ lw_tbl.filter oh_okw, w.before args s = true := fun w hw => by
  obtain ⟨h1, h2⟩ := List.mem_filter.mp hw
  exact oh_Ab hAmb ⟨h1, h2⟩
theorem oh_getW {C : String} {T' : u_T} {N ci index k o pc : Nat} {sl : List (Nat × Nat)} {z : Nat × Nat} {h : oh_St} {H : Heap} {locs : List Loc} {ls : Array Slot} {rest : List Value} {v : Value} (hx : p.tables.exec = Jvm.exec) (hb : c.code = bytes) (hown : s.vm.findClass own = some m.cls) (hAmb : oh_Amb D cI cR ad b0 s s.heap)
    (hP : va_P D vwCl (oh_W cI cR ad G h) H) (hg : oh_nth G o = some (.inl (ci, sl))) (hc : oh_nth vwCl ci = some (C, T', N)) (hk : k < N) (hC : (T' k).1 = C) {ps : Nat} (hw : oh_wd ps (.fieldLink own index C (T' k).2.1 (T' k).2.2.1) = true ∨ oh_wd ps (.fieldLinkNest own index C (T' k).2.1 (T' k).2.2.1 "OtherHat") = true) (hz : oh_nth sl k = some z) (hv : oh_slv ad h o k z = v) (hdg : decode bytes pc = .ok (.getfield index, 3))
    (kk : W p l e R s m args below meth c H locs 0 0 Qm (F0 m (pc + 3) ls (v :: rest))) : W p l e R s m args below meth c H locs 0 0 Qm (F0 m pc ls (.ref (ad o) :: rest)) := by
  have he : (oh_W cI cR ad G h)[o]? = some (ad o, .inr (ci, sl.mapIdx (fun k z => oh_slv ad h o k z))) := oh_W_at hg
  have hin : ∀ w ∈ u_ws C T' N, w ∈ lw_tbl.filter oh_okw := fun w hw => List.mem_filter.mpr ((oh_cls_w hc) w hw)
  have hfs : (sl.mapIdx (fun k z => oh_slv ad h o k z))[k]? = some v := by
    rw [oh_nth_eq] at hz
    simp [hz, hv]
  have hc' : vwCl[ci]? = some (C, T', N) := by rw [← oh_nth_eq]; exact hc
  rcases hw with hw | hw
  · exact va_get (ref := C) hx hb (oh_ts hAmb) hin hown hAmb.1 hP o he hc' k hk (oh_Ab hAmb (oh_wd_i hw)) (fun x hh => by rw [hC] at hh; exact hh) hfs hdg kk
  · exact va_getN (ref := C) (host := "OtherHat") hx hb (oh_ts hAmb) hin hown hAmb.1 hP o he hc' k hk (oh_Ab hAmb (oh_wd_i hw)) (fun x hh => by rw [hC] at hh; exact hh) hfs hdg kk
theorem oh_putW {C : String} {T' : u_T} {N ci index k o pc : Nat} {sl : List (Nat × Nat)} {z : Nat × Nat} {h h' : oh_St} {H : Heap} {locs : List Loc} {ls : Array Slot} {rest : List Value} {v : Value} {ty : FieldType} (hx : p.tables.exec = Jvm.exec) (hb : c.code = bytes) (hown : s.vm.findClass own = some m.cls) (hAmb : oh_Amb D cI cR ad b0 s s.heap)
    (hP : va_P D vwCl (oh_W cI cR ad G h) H) (hD : va_D A (oh_W cI cR ad G h)) (hS : va_S A s.heap H locs) (hg : oh_nth G o = some (.inl (ci, sl))) (hc : oh_nth vwCl ci = some (C, T', N)) (hk : k < N) (hC : (T' k).1 = C) (hfin : (T' k).2.2.2 = false) {ps : Nat} (hw : oh_wd ps (.fieldLink own index C (T' k).2.1 (T' k).2.2.1) = true ∨ oh_wd ps (.fieldLinkNest own index C (T' k).2.1 (T' k).2.2.1 "OtherHat") = true) (hz : oh_nth sl k = some z)
    (hd : parseFieldDescriptor (T' k).2.2.1 = some ty) (hn : narrow ty v = v) (hfit : fits ty v = true) (hv : oh_slv ad h' o k z = v) (hne : ∀ a, a ≠ o → h'.1 a = h.1 a ∧ h'.2 a = h.2 a) (hne2 : ∀ j, j ≠ k → h'.1 o j = h.1 o j ∧ h'.2 o j = h.2 o j) (hdg : decode bytes pc = .ok (.putfield index, 3))
    (kk : ∀ (H1 : Heap) (locs1 : List Loc), va_P D vwCl (oh_W cI cR ad G h') H1 → va_S A s.heap H1 locs1 → W p l e R s m args below meth c H1 locs1 0 0 Qm (F0 m (pc + 3) ls rest)) : W p l e R s m args below meth c H locs 0 0 Qm (F0 m pc ls (v :: .ref (ad o) :: rest)) := by
  have he : (oh_W cI cR ad G h)[o]? = some (ad o, .inr (ci, sl.mapIdx (fun k z => oh_slv ad h o k z))) := oh_W_at hg
  have hin : ∀ w ∈ u_ws C T' N, w ∈ lw_tbl.filter oh_okw := fun w hw => List.mem_filter.mpr ((oh_cls_w hc) w hw)
  have hl : k < (sl.mapIdx (fun k z => oh_slv ad h o k z)).length := by
    rw [oh_nth_eq] at hz
    simpa using (List.getElem?_eq_some_iff.mp hz).1
  have hc' : vwCl[ci]? = some (C, T', N) := by rw [← oh_nth_eq]; exact hc
  obtain ⟨⟨ty0, hty⟩, hnm⟩ := oh_cls hc
  have hset : (oh_W cI cR ad G h).set o (ad o, .inr (ci, (sl.mapIdx (fun k z => oh_slv ad h o k z)).set k v)) = oh_W cI cR ad G h' := oh_W_set hg hne (by
    show Sum.inr (ci, sl.mapIdx (fun k z => oh_slv ad h' o k z)) = _
    rw [oh_slots_set hz hv hne2])
  rcases hw with hw | hw
  · exact va_put (ref := C) hx hb (oh_ts hAmb) hin ty0 hty hnm hown hAmb.1 hP hD hS o he hc' k hk (oh_Ab hAmb (oh_wd_i hw)) (fun x hh => by rw [hC] at hh; exact hh) hfin hd hn hfit hl hdg (fun H1 locs1 hP1 _ hS1 => kk H1 locs1 (by rw [hset] at hP1; exact hP1) hS1)
  · exact va_putN (ref := C) (host := "OtherHat") hx hb (oh_ts hAmb) hin ty0 hty hnm hown hAmb.1 hP hD hS o he hc' k hk (oh_Ab hAmb (oh_wd_i hw)) (fun x hh => by rw [hC] at hh; exact hh) hfin hd hn hfit hl hdg (fun H1 locs1 hP1 _ hS1 => kk H1 locs1 (by rw [hset] at hP1; exact hP1) hS1)
theorem oh_csum_eq : ∀ st : List Value, ((st.map (oh_V ad)).map fun v => v.category).sum = oh_csum st
  | [] => rfl
  | v :: r => by simp only [List.map_cons, List.sum_cons, oh_csum, oh_V_cat, oh_csum_eq r]
/-- which cells change: those of the world, and new ones -/
theorem oh_A_sub {H : Heap} {locs : List Loc} (hA : ∀ q, A q ↔ oh_A ad G s.heap.size q) (hS : va_S A s.heap H locs) : ∀ q, oh_A ad G H.size q → A q := by
  intro q hq
  rw [hA]
  rcases hq with h | h
  · exact Or.inl h
  · exact Or.inr (Nat.le_trans hS.1 h)
theorem oh_AmbU {H : Heap} {locs : List Loc} {U : State} (hAmb : oh_Amb D cI cR ad b0 s s.heap) (hAB : ∀ q, A q → b0 ≤ q) (hS : va_S A s.heap H locs) (hU : U.heap = H) (hW : s.WarmedH U.vm) : oh_Amb D cI cR ad b0 U U.heap := by
  rw [hU]
  exact oh_Amb_go hAmb hW (fun a h1 h2 => hS.2.1 a h1 (fun z => h2 (hAB a z)))
/-- what is known of the methods that are called -/
def oh_Ms (l : Launch) (D : va_G) (cI cR : ClassId) (ad : Nat → Nat) (b0 : Nat) (G : List oh_Sh) (mi : List oh_MI) (d : Nat) (E : oh_E) : Prop :=
  ∀ (j : Nat) (q : oh_MI), oh_nth mi j = some q → ∀ (av : List Value) (h : oh_St) (Q : oh_Q) (sz : Nat), b0 ≤ sz → E j av h Q → Met l q.1 [.code q.1 q.2.1 q.2.2.1 q.2.2.2.1] (oh_rm d) (oh_Pc D cI cR ad b0 G h av sz) (oh_Qc D cI cR ad G Q sz) 0 0 (oh_A ad G sz)
theorem oh_ckM_i {q : oh_MI} (h : oh_ckM q = true) : (Cond.code q.1 q.2.1 q.2.2.1 q.2.2.2.1 ∈ lw_tbl ∧ oh_okw (.code q.1 q.2.1 q.2.2.1 q.2.2.2.1) = true) ∧ ((q.2.2.2.2.1 = true ∧ Cond.static q.1 ∈ lw_tbl ∧ oh_okw (.static q.1) = true) ∨ (q.2.2.2.2.1 = false ∧ (Cond.instanceMethod q.1 ∈ lw_tbl ∧ oh_okw (.instanceMethod q.1) = true) ∧ (Cond.selects q.1.cls q.1 q.1 ∈ lw_tbl ∧ oh_okw (.selects q.1.cls q.1 q.1) = true))) ∧ (Cond.initialized q.1.cls ∈ lw_tbl ∧ oh_okw (.initialized q.1.cls) = true) ∧ (q.1.cls ≠ "java/lang/invoke/MethodHandle" ∧ q.1.cls ≠ "java/lang/invoke/VarHandle") ∧ plainFor q.1 = true ∧ q.2.2.1 ≤ 40 := by
  obtain ⟨y, bs, mL, rt, stc, p1, p2, p3, p4⟩ := q
  unfold oh_ckM at h
  simp only [Bool.and_eq_true] at h
  obtain ⟨⟨⟨⟨⟨⟨h1, h2⟩, h3⟩, h4⟩, h5⟩, h6⟩, h7⟩ := h
  refine ⟨oh_wd_i h1, ?_, oh_wd_i h3, ⟨of_decide_eq_true h4, of_decide_eq_true h5⟩, h6, Nat.le_of_ble_eq_true h7⟩
  cases stc with
  | true => exact Or.inl ⟨rfl, oh_wd_i h2⟩
  | false =>
    obtain ⟨h8, h9⟩ := (Bool.and_eq_true _ _).mp h2
    exact Or.inr ⟨rfl, oh_wd_i h8, oh_wd_i h9⟩
theorem oh_good_code {y : MethodName} {bs : ByteArray} {mL : Nat} {rt : Option FieldType} (h : oh_okw (.code y bs mL rt) = true) : ((Cond.code y bs mL rt).onTables && (Cond.code y bs mL rt).keeps) = true := by
  unfold oh_okw at h
  rcases (Bool.or_eq_true _ _).mp h with h | h
  · exact h
  · cases h
/-- a call of a method of an object -/
theorem oh_callV {d j n k pc x ps e' : Nat} {q : oh_MI} {E : oh_E} {st : List Value} {h : oh_St} {H : Heap} {locs : List Loc} {lsc : Array Slot} {K : List Value → oh_St → Prop} (hx : p.tables.exec = Jvm.exec) (hb : c.code = bytes) (hml : c.maxLocals = nL) (hown : s.vm.findClass own = some m.cls) (hAmb : oh_Amb D cI cR ad b0 s s.heap) (hA : ∀ q, A q ↔ oh_A ad G s.heap.size q) (hAB : ∀ q, A q → b0 ≤ q) (hR : R = oh_rm (d + 1)) (hE : oh_Ms l D cI cR ad b0 G mi d E)
    (hP : va_P D vwCl (oh_W cI cR ad G h) H) (hS : va_S A s.heap H locs) (hsz : lsc.size = nL) (hq : oh_nth mi j = some q) (hM : oh_ckM q = true) (hstc : q.2.2.2.2.1 = false) (hY : oh_ckY own x q.1 ps = true) (hdes : (parseMethodDescriptor q.1.desc).map (fun d => d.parameters.length) = some (n - 1)) (hn0 : 0 < n) (hC : oh_ckC e' q.1.cls = true) (hdg : decode bytes pc = .ok (.invokevirtual x, 3)) (hrc : oh_rcv G e' n st (oh_call E j n k st h K)) (hbs : b0 ≤ s.heap.size)
    (kk : ∀ (r : Option Value) (h' : oh_St) (H1 : Heap) (locs1 : List Loc), K (r.toList ++ st.drop n) h' → va_P D vwCl (oh_W cI cR ad G h') H1 → va_S A s.heap H1 locs1 → W p l e R s m args below meth c H1 locs1 0 0 Qm (F0 m (pc + 3) lsc ((r.map (oh_V ad)).toList ++ (st.drop n).map (oh_V ad)))) : W p l e R s m args below meth c H locs 0 0 Qm (F0 m pc lsc (st.map (oh_V ad))) := by
  obtain ⟨o, As, hst, hcls, hcall⟩ := oh_rcv_i hrc
  obtain ⟨hnl, hcs, Q', hEj, hQ'⟩ := oh_call_i hcall
  obtain ⟨hcode, hinst, hini, hmh, hpl, hmL⟩ := oh_ckM_i hM
  rcases hinst with ⟨z, -⟩ | ⟨-, hin, hsel⟩
  · rw [hstc] at z; cases z
  have hlen : (st.take n).reverse.length = n := by simp [hnl]
  rw [hst] at hlen
  have hAs : As.length = n - 1 := by simp at hlen; omega
  have hstk : st = As.reverse ++ .ref o :: st.drop n := by
    have h1 : st.take n = As.reverse ++ [.ref o] := by
      have := congrArg List.reverse hst
      simpa using this
    calc st = st.take n ++ st.drop n := (List.take_append_drop n st).symm
      _ = As.reverse ++ .ref o :: st.drop n := by rw [h1]; simp
  have hMet := hE j q hq (st.take n).reverse h _ H.size (Nat.le_trans hbs hS.1) hEj
  have hfix : CallFix p m c bytes nL s args (lw_tbl.filter oh_okw) own := ⟨hx, hb, hml, hown, oh_ts hAmb⟩
  have hroom : (oh_rm d).frames + 1 ≤ R.frames ∧ 8 + (q.2.2.1 + 11) + (oh_rm d).locals ≤ R.locals := by
    rw [hR]; simp only [oh_rm]; omega
  have hws : ∀ w ∈ [Cond.code q.1 q.2.1 q.2.2.1 q.2.2.2.1], ∀ (a' : Array Value) (U : State), s.WarmedH U.vm → w.before a' U = true := fun w hw a' U hW => by
    rw [List.mem_singleton] at hw
    subst hw
    exact word_at (args := args) hW (Or.inl (oh_good_code hcode.2)) (oh_Ab hAmb hcode)
  have hpar : ∀ sig, parseMethodDescriptor q.1.desc = some sig → n - 1 = sig.parameters.length := fun sig hs => by
    rw [hs] at hdes
    exact (Option.some.inj hdes).symm
  have hPcU : ∀ U : State, U.heap = H → s.WarmedH U.vm → oh_Pc D cI cR ad b0 G h (st.take n).reverse H.size (Value.ref (ad o) :: As.map (oh_V ad)).toArray U := fun U hU hW => by
    refine ⟨?_, by rw [hU], by rw [hU]; exact hP, oh_AmbU hAmb hAB hS hU hW⟩
    rw [hst]; rfl
  have hcell : ∃ cellB : Cell, H[ad o]? = some cellB ∧ cellB.vm.isStatics = false ∧ s.vm.findClass q.1.cls = some cellB.cls := by
    rcases hcls with ⟨h9, ho1, ho2⟩ | ⟨h9, sl, hg⟩
    · subst h9
      have hcn : q.1.cls = "java/lang/String" := of_decide_eq_true hC
      rw [hcn]
      have := vk_recv (H := H) (i := o - 2000) (vk_S.narrow hAmb.2.2.2.2.2.2.1 hAB) (by omega) hS
      rw [show 2000 + (o - 2000) = o by omega] at this
      exact this
    · unfold oh_ckC at hC
      split at hC
      · rename_i hb9
        exact absurd (Nat.eq_of_beq_eq_true hb9) h9
      · split at hC
        · rename_i C2 T2 N2 hcl
          have hcn : C2 = q.1.cls := of_decide_eq_true hC
          rw [← hcn]
          exact va_recv (q := (C2, T2, N2)) hAmb.1 hP (by rw [← oh_nth_eq]; exact hcl) (oh_W_at hg)
        · cases hC
  have hstack : (F0 m pc lsc (st.map (oh_V ad))).stack = (As.map (oh_V ad)).reverse ++ .ref (ad o) :: (st.drop n).map (oh_V ad) := by
    show st.map (oh_V ad) = _
    conv => lhs; rw [hstk]
    simp [oh_V]
  have hWr : 2 * (F0 m pc lsc (st.map (oh_V ad))).monitorRoom + (((st.drop n).map (oh_V ad)).map fun v => v.category).sum ≤ 8 := lv_room (by rw [oh_csum_eq]; exact hcs)
  unfold oh_ckY at hY
  rcases (Bool.or_eq_true _ _).mp hY with hY | hY
  · refine oh_callW (va_runV (C := q.1.cls) (As := As.map (oh_V ad)) (rest := (st.drop n).map (oh_V ad)) (n := n - 1) hfix hMet ⟨⟨rfl, rfl, hroom.1, hroom.2, hws, List.mem_cons_self, oh_Ab hAmb hcode, oh_Ab hAmb hini, hmh, hpar, oh_Ab hAmb (oh_wd_i hY)⟩, oh_Ab hAmb hin, oh_Ab hAmb hsel⟩ ⟨oh_Pc_blind, hcell, hPcU⟩ rfl (by simpa using hAs) hsz hstack hWr hdg ⟨Nat.zero_le _, Nat.zero_le _⟩) hS (oh_A_sub hA hS) ?_
    exact fun r h' H1 locs1 hq => kk r h' H1 locs1 (hQ' r h' hq)
  · refine oh_callW (va_runVN (C := q.1.cls) (host := "OtherHat") (As := As.map (oh_V ad)) (rest := (st.drop n).map (oh_V ad)) (n := n - 1) hfix hMet ⟨⟨⟨rfl, rfl, hroom.1, hroom.2, hws, List.mem_cons_self⟩, oh_Ab hAmb hcode, oh_Ab hAmb hini, hmh, hpar, oh_Ab hAmb (oh_wd_i hY)⟩, oh_Ab hAmb hin, oh_Ab hAmb hsel⟩ ⟨oh_Pc_blind, hcell, hPcU⟩ rfl (by simpa using hAs) hsz hstack hWr hdg ⟨Nat.zero_le _, Nat.zero_le _⟩) hS (oh_A_sub hA hS) ?_
    exact fun r h' H1 locs1 hq => kk r h' H1 locs1 (hQ' r h' hq)
/-- a call of a static method -/
theorem oh_callS {d j n k pc x ps : Nat} {q : oh_MI} {E : oh_E} {st : List Value} {h : oh_St} {H : Heap} {locs : List Loc} {lsc : Array Slot} {K : List Value → oh_St → Prop} (hx : p.tables.exec = Jvm.exec) (hb : c.code = bytes) (hml : c.maxLocals = nL) (hown : s.vm.findClass own = some m.cls) (hAmb : oh_Amb D cI cR ad b0 s s.heap) (hA : ∀ q, A q ↔ oh_A ad G s.heap.size q) (hAB : ∀ q, A q → b0 ≤ q) (hR : R = oh_rm (d + 1)) (hE : oh_Ms l D cI cR ad b0 G mi d E)
    (hP : va_P D vwCl (oh_W cI cR ad G h) H) (hS : va_S A s.heap H locs) (hsz : lsc.size = nL) (hq : oh_nth mi j = some q) (hM : oh_ckM q = true) (hstc : q.2.2.2.2.1 = true) (hY : oh_ckY own x q.1 ps = true) (hdes : (parseMethodDescriptor q.1.desc).map (fun d => d.parameters.length) = some n) (hdg : decode bytes pc = .ok (.invokestatic x, 3)) (hcall : oh_call E j n k st h K) (hbs : b0 ≤ s.heap.size)
    (kk : ∀ (r : Option Value) (h' : oh_St) (H1 : Heap) (locs1 : List Loc), K (r.toList ++ st.drop n) h' → va_P D vwCl (oh_W cI cR ad G h') H1 → va_S A s.heap H1 locs1 → W p l e R s m args below meth c H1 locs1 0 0 Qm (F0 m (pc + 3) lsc ((r.map (oh_V ad)).toList ++ (st.drop n).map (oh_V ad)))) : W p l e R s m args below meth c H locs 0 0 Qm (F0 m pc lsc (st.map (oh_V ad))) := by
  obtain ⟨hnl, hcs, Q', hEj, hQ'⟩ := oh_call_i hcall
  obtain ⟨hcode, hinst, hini, hmh, hpl, hmL⟩ := oh_ckM_i hM
  rcases hinst with ⟨-, hst⟩ | ⟨z, -⟩
  case inr => rw [hstc] at z; cases z
  have hMet := hE j q hq (st.take n).reverse h _ H.size (Nat.le_trans hbs hS.1) hEj
  have hfix : CallFix p m c bytes nL s args (lw_tbl.filter oh_okw) own := ⟨hx, hb, hml, hown, oh_ts hAmb⟩
  have hroom : (oh_rm d).frames + 1 ≤ R.frames ∧ 8 + (q.2.2.1 + 11) + (oh_rm d).locals ≤ R.locals := by
    rw [hR]; simp only [oh_rm]; omega
  have hws : ∀ w ∈ [Cond.code q.1 q.2.1 q.2.2.1 q.2.2.2.1], ∀ (a' : Array Value) (U : State), s.WarmedH U.vm → w.before a' U = true := fun w hw a' U hW => by
    rw [List.mem_singleton] at hw
    subst hw
    exact word_at (args := args) hW (Or.inl (oh_good_code hcode.2)) (oh_Ab hAmb hcode)
  have hpar : ∀ sig, parseMethodDescriptor q.1.desc = some sig → n = sig.parameters.length := fun sig hs => by
    rw [hs] at hdes
    exact (Option.some.inj hdes).symm
  have hPcU : ∀ U : State, U.heap = H → s.WarmedH U.vm → oh_Pc D cI cR ad b0 G h (st.take n).reverse H.size ((st.take n).reverse.map (oh_V ad)).toArray U := fun U hU hW => ⟨rfl, by rw [hU], by rw [hU]; exact hP, oh_AmbU hAmb hAB hS hU hW⟩
  have hstack : (F0 m pc lsc (st.map (oh_V ad))).stack = ((st.take n).reverse.map (oh_V ad)).reverse ++ (st.drop n).map (oh_V ad) := by
    show st.map (oh_V ad) = _
    rw [List.map_reverse, List.reverse_reverse, ← List.map_append, List.take_append_drop]
  have hWr : 2 * (F0 m pc lsc (st.map (oh_V ad))).monitorRoom + (((st.drop n).map (oh_V ad)).map fun v => v.category).sum ≤ 8 := lv_room (by rw [oh_csum_eq]; exact hcs)
  unfold oh_ckY at hY
  rcases (Bool.or_eq_true _ _).mp hY with hY | hY
  · refine oh_callW (va_runS (As := (st.take n).reverse.map (oh_V ad)) (rest := (st.drop n).map (oh_V ad)) (n := n) hfix hMet ⟨⟨rfl, rfl, hroom.1, hroom.2, hws, List.mem_cons_self, oh_Ab hAmb hcode, oh_Ab hAmb hini, hmh, hpar, oh_Ab hAmb (oh_wd_i hY)⟩, oh_Ab hAmb hst⟩ ⟨oh_Pc_blind, hPcU⟩ rfl (by simp [hnl]) hsz hstack hWr hdg ⟨Nat.zero_le _, Nat.zero_le _⟩) hS (oh_A_sub hA hS) ?_
    exact fun r h' H1 locs1 hq => kk r h' H1 locs1 (hQ' r h' hq)
  · refine oh_callW (va_runSN (host := "OtherHat") (As := (st.take n).reverse.map (oh_V ad)) (rest := (st.drop n).map (oh_V ad)) (n := n) hfix hMet ⟨⟨⟨rfl, rfl, hroom.1, hroom.2, hws, List.mem_cons_self⟩, oh_Ab hAmb hcode, oh_Ab hAmb hini, hmh, hpar, oh_Ab hAmb (oh_wd_i hY)⟩, oh_Ab hAmb hst, trivial⟩ ⟨oh_Pc_blind, hPcU⟩ rfl (by simp [hnl]) hsz hstack hWr hdg ⟨Nat.zero_le _, Nat.zero_le _⟩) hS (oh_A_sub hA hS) ?_
    exact fun r h' H1 locs1 hq => kk r h' H1 locs1 (hQ' r h' hq)
end OHS

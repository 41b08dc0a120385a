/-! MAKING OBJECTS: how constructors are told, called -/
theorem oc_in {ci : Nat} {C : String} {T : u_T} {N : Nat} (h : oh_nth vwCl ci = some (C, T, N)) : ∀ w ∈ u_ws C T N, w ∈ lw_tbl.filter oh_okw := fun w hw => List.mem_filter.mpr (oh_cls_w h w hw)
def oc_Pc (D : va_G) (cI cR : ClassId) (ad : Nat → Nat) (b0 : Nat) (av : List Value) (ws : va_W) (sz : Nat) : Array Value → State → Prop := fun v U => v = av.toArray ∧ U.heap.size = sz ∧ va_P D vwCl ws U.heap ∧ va_D (oh_B b0) ws ∧ oh_Amb D cI cR ad b0 U U.heap ∧ va_AO RX5 U
def oc_Qc (D : va_G) (cl : (Nat → Nat) → va_W) (h0 : Nat) (A : Nat → Prop) : Array Value → State → Outcome → State → Prop := fun _ st oc t => (oc = .returned none ∧ ∃ a : Nat → Nat, a 0 = h0 ∧ va_P D vwCl (cl a) t.heap ∧ va_D A (cl a)) ∧ va_F A st t
theorem oc_Pc_blind {D : va_G} {cI cR : ClassId} {ad : Nat → Nat} {b0 : Nat} {av : List Value} {ws : va_W} {sz : Nat} : FrameBlind (oc_Pc D cI cR ad b0 av ws sz) := fun _ U _ _ q => ⟨q.1, q.2.1, q.2.2.1, q.2.2.2.1, oh_Amb_same q.2.2.2.2.1 rfl, va_AO.moved (u := U) (Vm.Alike.refl U.vm) q.2.2.2.2.2⟩
def oc_rm (fr cs ss : Nat) : Room := { frames := fr, cells := cs, slots := ss, locals := 60 * fr }
/-- a constructor's contract: the new object with default fields comes to be the cells cl a, a 0 the object -/
def oc_M (l : Launch) (D : va_G) (cI cR : ClassId) (ad : Nat → Nat) (b0 : Nat) (y : MethodName) (bs : ByteArray) (mL fr cs ss ci : Nat) (fs av : List Value) (cl : (Nat → Nat) → va_W) : Prop :=
  ∀ h0 sz : Nat, b0 ≤ sz → Met l y [.code y bs mL none] (oc_rm fr cs ss) (oc_Pc D cI cR ad b0 (.ref h0 :: av) [(h0, .inr (ci, fs))] sz) (oc_Qc D cl h0 (va_A [(h0, .inr (ci, fs))] sz)) cs ss (va_A [(h0, .inr (ci, fs))] sz)
theorem oc_last {wr : va_W} {x : Nat × va_E} : (wr ++ [x])[wr.length]? = some x := by simp
theorem oc_fst {wr w : va_W} {x : Nat × va_E} {k : Nat} (h : wr[k]? = some x) : (wr ++ w)[k]? = some x := by
  rw [List.getElem?_append_left (List.getElem?_eq_some_iff.mp h).1]; exact h
/-- behind a constructor: the other cells, and those that it made -/
theorem oc_join {A0 : Nat → Prop} {D : va_G} {cl : List vw_C} {wr w1 : va_W} {q : Nat} {e : va_E} {H H1 : Heap} (hP : va_P D cl (wr ++ [(q, e)]) H) (hD : va_D A0 (wr ++ [(q, e)])) (hk : ∀ x : Nat, x < H.size → ¬ va_A [(q, e)] H.size x → H1[x]? = H[x]?) (hF : ∀ x, va_A [(q, e)] H.size x → A0 x) (hP1 : va_P D cl w1 H1) (hD1 : va_D (va_A [(q, e)] H.size) w1) : va_P D cl (wr ++ w1) H1 ∧ va_D A0 (wr ++ w1) := by
  have apart : ∀ (k : Nat) (x : Nat × va_E), wr[k]? = some x → x.1 < H.size ∧ ¬ va_A [(q, e)] H.size x.1 := by
    intro k x hx
    have hl := (hP k x (oc_fst hx)).lt
    refine ⟨hl, fun h => ?_⟩
    rcases h with ⟨j, e', h⟩ | h
    · have hj : j < 1 := (List.getElem?_eq_some_iff.mp h).1
      rw [show j = 0 by omega] at h
      cases h
      have := hD.1 k wr.length x (x.1, e) (oc_fst hx) oc_last rfl
      have := (List.getElem?_eq_some_iff.mp hx).1
      omega
    · omega
  have hDr : va_D A0 wr := ⟨fun i j x y hi hj hxy => hD.1 i j x y (oc_fst hi) (oc_fst hj) hxy, fun k x hx => hD.2 k x (oc_fst hx)⟩
  refine ⟨va_P.app (fun k x hx => ?_) hP1, va_D.app hDr (hD1.weaken (fun k x _ h => hF x.1 h)) (fun i j x y hx hy hxy => ?_)⟩
  · obtain ⟨g1, g2⟩ := apart k x hx
    exact (hP k x (oc_fst hx)).kept (hk x.1 g1 g2)
  · exact (apart i x hx).2 (by rw [hxy]; exact hD1.2 j y hy)
section OC
variable {p : Program} {l : Launch} {e : Env} {R : Room} {s : State} {m : MethodId} {args : Array Value} {below : List Frame} {meth : Method} {c : Code} {H : Heap} {locs : List Loc} {cells slots : Nat} {Q : State → Prop}
variable {bytes : ByteArray} {pc nL : Nat} {ls : Array Slot} {rest : List Value} {D : va_G} {A : Nat → Prop} {cI cR : ClassId} {ad : Nat → Nat} {b0 : Nat} {own : String}
theorem oc_run {aa : Array Value} {wr : va_W} {q mc ms ci : Nat} {fs st0 : List Value} {cl : (Nat → Nat) → va_W} (hr : va_Run p l e R s m args below meth c H locs cells slots mc ms (F0 m pc ls st0) rest (oc_Qc D cl q (va_A [(q, .inr (ci, fs))] H.size) aa) (va_A [(q, .inr (ci, fs))] H.size)) (hP : va_P D vwCl (wr ++ [(q, .inr (ci, fs))]) H) (hD : va_D A (wr ++ [(q, .inr (ci, fs))])) (hS : va_S A s.heap H locs) (hA : ∀ x, s.heap.size ≤ x → A x)
    (kk : ∀ (a : Nat → Nat) (H1 : Heap) (locs1 : List Loc), a 0 = q → va_P D vwCl (wr ++ cl a) H1 → va_D A (wr ++ cl a) → va_S A s.heap H1 locs1 → W p l e R s m args below meth c H1 locs1 (cells + mc) (slots + ms) Q (F0 m (pc + 3) ls rest)) : W p l e R s m args below meth c H locs cells slots Q (F0 m pc ls st0) := by
  have hF : ∀ x, va_A [(q, .inr (ci, fs))] H.size x → A x := fun x h => by
    rcases h with ⟨j, e', h⟩ | h
    · have hj : j < 1 := (List.getElem?_eq_some_iff.mp h).1
      rw [show j = 0 by omega] at h
      cases h
      exact hD.2 wr.length _ oc_last
    · exact hA x (Nat.le_trans hS.1 h)
  intro T hT X
  obtain ⟨v, st₀, t, T', L, h0, X', hL, e1, e2, ⟨⟨hv, a, ha, hp1, hd1⟩, hz, hk⟩, st⟩ := hr T hT X
  cases hv
  rw [h0] at hz hk
  rw [← e1] at hp1 hz hk
  obtain ⟨hP', hD'⟩ := oc_join hP hD hk hF hp1 hd1
  obtain ⟨t2, a1, b1⟩ := kk a T'.heap (locs ++ L) ha hP' hD' ⟨Nat.le_trans hS.1 hz, fun x h1 h2 => by rw [hk x (Nat.lt_of_lt_of_le h1 hS.1) (fun z => h2 (hF x z))]; exact hS.2.1 x h1 h2, fun x hx => by
    rcases List.mem_append.mp hx with h | h
    · exact hS.2.2 x h
    · exact hF _ (hL x h)⟩ T' rfl X'
  exact ⟨t2, st t2 a1, b1⟩
theorem oc_pre {wr : va_W} {q ci : Nat} {fs av : List Value} (hAmb : oh_Amb D cI cR ad b0 s s.heap) (hAO : va_AO RX5 s) (hAB : ∀ x, A x → b0 ≤ x) (hP : va_P D vwCl (wr ++ [(q, .inr (ci, fs))]) H) (hD : va_D A (wr ++ [(q, .inr (ci, fs))])) (hS : va_S A s.heap H locs) : PreS s H (oc_Pc D cI cR ad b0 (.ref q :: av) [(q, .inr (ci, fs))] H.size) (.ref q :: av) := by
  refine ⟨oc_Pc_blind, fun U hU hW => ⟨rfl, by rw [hU], fun k x hx => ?_, ⟨fun i j x y hi hj _ => ?_, fun k x hx => ?_⟩, oh_AmbU hAmb hAB hS hU hW, va_AO.moved hW.alike hAO⟩⟩
  · have hk : k < 1 := (List.getElem?_eq_some_iff.mp hx).1
    rw [show k = 0 by omega] at hx
    cases hx
    rw [hU]
    exact hP wr.length _ oc_last
  · have h1 : i < 1 := (List.getElem?_eq_some_iff.mp hi).1
    have h2 : j < 1 := (List.getElem?_eq_some_iff.mp hj).1
    omega
  · have hk : k < 1 := (List.getElem?_eq_some_iff.mp hx).1
    rw [show k = 0 by omega] at hx
    cases hx
    exact hAB q (hD.2 wr.length _ oc_last)
/-- a constructor of a nest mate is called -/
theorem oc_callN {y : MethodName} {bs : ByteArray} {mL fr cs ss ci x q : Nat} {fs av : List Value} {cl : (Nat → Nat) → va_W} {wr : va_W} (hx : p.tables.exec = Jvm.exec) (hb : c.code = bytes) (hml : c.maxLocals = nL) (hown : s.vm.findClass own = some m.cls) (hAmb : oh_Amb D cI cR ad b0 s s.heap) (hAO : va_AO RX5 s) (hAB : ∀ x, A x → b0 ≤ x) (hbs : b0 ≤ s.heap.size) (hM : oc_M l D cI cR ad b0 y bs mL fr cs ss ci fs av cl)
    (wc : Cond.code y bs mL none ∈ lw_tbl ∧ oh_okw (.code y bs mL none) = true) (wi : Cond.initialized y.cls ∈ lw_tbl ∧ oh_okw (.initialized y.cls) = true) (wl : Cond.methodLinkNest own x y "OtherHat" ∈ lw_tbl ∧ oh_okw (.methodLinkNest own x y "OtherHat") = true) (wm : Cond.instanceMethod y ∈ lw_tbl ∧ oh_okw (.instanceMethod y) = true)
    (hy : y.name = "<init>" ∧ (y.cls ≠ "java/lang/invoke/MethodHandle" ∧ y.cls ≠ "java/lang/invoke/VarHandle") ∧ (parseMethodDescriptor y.desc).map (fun d => d.parameters.length) = some av.length) (hR : fr + 1 ≤ R.frames ∧ 8 + (mL + 11) + 60 * fr ≤ R.locals) (hC : cells + cs ≤ R.cells ∧ slots + ss ≤ R.slots) (hsz : ls.size = nL) (hcat : (rest.map fun v => v.category).sum ≤ 8)
    (hP : va_P D vwCl (wr ++ [(q, .inr (ci, fs))]) H) (hD : va_D A (wr ++ [(q, .inr (ci, fs))])) (hS : va_S A s.heap H locs) (hA : ∀ x, s.heap.size ≤ x → A x) (hdg : decode bytes pc = .ok (.invokespecial x, 3))
    (kk : ∀ (a : Nat → Nat) (H1 : Heap) (locs1 : List Loc), a 0 = q → va_P D vwCl (wr ++ cl a) H1 → va_D A (wr ++ cl a) → va_S A s.heap H1 locs1 → W p l e R s m args below meth c H1 locs1 (cells + cs) (slots + ss) Q (F0 m (pc + 3) ls rest)) : W p l e R s m args below meth c H locs cells slots Q (F0 m pc ls (av.reverse ++ .ref q :: rest)) := by
  have hws : ∀ w ∈ [Cond.code y bs mL none], ∀ (a' : Array Value) (U : State), s.WarmedH U.vm → w.before a' U = true := fun w hw a' U hW => by
    rw [List.mem_singleton] at hw
    subst hw
    exact word_at (args := args) hW (Or.inl (oh_good_code wc.2)) (oh_Ab hAmb wc)
  have hpar : ∀ sig, parseMethodDescriptor y.desc = some sig → av.length = sig.parameters.length := fun sig hs => by
    have h2 := hy.2.2
    rw [hs] at h2
    exact (Option.some.inj h2).symm
  have hfix : CallFix p m c bytes nL s args (lw_tbl.filter oh_okw) own := ⟨hx, hb, hml, hown, oh_ts hAmb⟩
  exact oc_run (va_runIN (host := "OtherHat") (As := av) (rest := rest) (n := av.length) hfix (hM q H.size (Nat.le_trans hbs hS.1)) ⟨⟨⟨rfl, rfl, hR.1, hR.2, hws, List.mem_cons_self⟩, oh_Ab hAmb wc, oh_Ab hAmb wi, hy.2.1, hpar, oh_Ab hAmb wl⟩, hy.1, oh_Ab hAmb wm⟩ (oc_pre hAmb hAO hAB hP hD hS) rfl rfl hsz rfl (lv_room hcat) hdg hC) hP hD hS hA kk
/-- a constructor is called -/
theorem oc_callI {y : MethodName} {bs : ByteArray} {mL fr cs ss ci x q : Nat} {fs av : List Value} {cl : (Nat → Nat) → va_W} {wr : va_W} (hx : p.tables.exec = Jvm.exec) (hb : c.code = bytes) (hml : c.maxLocals = nL) (hown : s.vm.findClass own = some m.cls) (hAmb : oh_Amb D cI cR ad b0 s s.heap) (hAO : va_AO RX5 s) (hAB : ∀ x, A x → b0 ≤ x) (hbs : b0 ≤ s.heap.size) (hM : oc_M l D cI cR ad b0 y bs mL fr cs ss ci fs av cl)
    (wc : Cond.code y bs mL none ∈ lw_tbl ∧ oh_okw (.code y bs mL none) = true) (wi : Cond.initialized y.cls ∈ lw_tbl ∧ oh_okw (.initialized y.cls) = true) (wl : Cond.methodLink own x y ∈ lw_tbl ∧ oh_okw (.methodLink own x y) = true) (wm : Cond.instanceMethod y ∈ lw_tbl ∧ oh_okw (.instanceMethod y) = true)
    (hy : y.name = "<init>" ∧ (y.cls ≠ "java/lang/invoke/MethodHandle" ∧ y.cls ≠ "java/lang/invoke/VarHandle") ∧ (parseMethodDescriptor y.desc).map (fun d => d.parameters.length) = some av.length) (hR : fr + 1 ≤ R.frames ∧ 8 + (mL + 11) + 60 * fr ≤ R.locals) (hC : cells + cs ≤ R.cells ∧ slots + ss ≤ R.slots) (hsz : ls.size = nL) (hcat : (rest.map fun v => v.category).sum ≤ 8)
    (hP : va_P D vwCl (wr ++ [(q, .inr (ci, fs))]) H) (hD : va_D A (wr ++ [(q, .inr (ci, fs))])) (hS : va_S A s.heap H locs) (hA : ∀ x, s.heap.size ≤ x → A x) (hdg : decode bytes pc = .ok (.invokespecial x, 3))
    (kk : ∀ (a : Nat → Nat) (H1 : Heap) (locs1 : List Loc), a 0 = q → va_P D vwCl (wr ++ cl a) H1 → va_D A (wr ++ cl a) → va_S A s.heap H1 locs1 → W p l e R s m args below meth c H1 locs1 (cells + cs) (slots + ss) Q (F0 m (pc + 3) ls rest)) : W p l e R s m args below meth c H locs cells slots Q (F0 m pc ls (av.reverse ++ .ref q :: rest)) := by
  have hws : ∀ w ∈ [Cond.code y bs mL none], ∀ (a' : Array Value) (U : State), s.WarmedH U.vm → w.before a' U = true := fun w hw a' U hW => by
    rw [List.mem_singleton] at hw
    subst hw
    exact word_at (args := args) hW (Or.inl (oh_good_code wc.2)) (oh_Ab hAmb wc)
  have hpar : ∀ sig, parseMethodDescriptor y.desc = some sig → av.length = sig.parameters.length := fun sig hs => by
    have h2 := hy.2.2
    rw [hs] at h2
    exact (Option.some.inj h2).symm
  have hfix : CallFix p m c bytes nL s args (lw_tbl.filter oh_okw) own := ⟨hx, hb, hml, hown, oh_ts hAmb⟩
  exact oc_run (va_runI (As := av) (rest := rest) (n := av.length) hfix (hM q H.size (Nat.le_trans hbs hS.1)) ⟨⟨rfl, rfl, hR.1, hR.2, hws, List.mem_cons_self, oh_Ab hAmb wc, oh_Ab hAmb wi, hy.2.1, hpar, oh_Ab hAmb wl⟩, hy.1, oh_Ab hAmb wm⟩ (oc_pre hAmb hAO hAB hP hD hS) rfl rfl hsz rfl (lv_room hcat) hdg hC) hP hD hS hA kk
/-- a new row of ints -/
theorem oc_newI {ws : va_W} {n : Int32} {N' : Nat} (hx : p.tables.exec = Jvm.exec) (hb : c.code = bytes) (hAmb : oh_Amb D cI cR ad b0 s s.heap) (hP : va_P D vwCl ws H) (hD : va_D A ws) (hS : va_S A s.heap H locs) (hA : ∀ x, s.heap.size ≤ x → A x) (hn : ¬ n < 0) (hN : n.toNatClampNeg = N') (hbytes : N' * 4 ≤ 536870912) (hcells : cells + 1 ≤ R.cells) (hslots : slots + N' ≤ R.slots) (hdg : decode bytes pc = .ok (.newarray .int, 2))
    (kk : ∀ (q : Nat) (H1 : Heap), va_P D vwCl (ws ++ [(q, .inl (cI, N', .inl (fun _ => 0)))]) H1 → va_D A (ws ++ [(q, .inl (cI, N', .inl (fun _ => 0)))]) → va_S A s.heap H1 locs → W p l e R s m args below meth c H1 locs (cells + 1) (slots + N') Q (F0 m (pc + 2) ls (.ref q :: rest))) : W p l e R s m args below meth c H locs cells slots Q (F0 m pc ls (.int n :: rest)) := by
  have wa : (Cond.arrayClass .int).before args s = true := by
    have e9 : s.vm.findClass ("[" ++ FieldType.int.toString) = some cI := (hAmb.1.2 0 (cI, .int) rfl).2
    obtain ⟨_, kA, h2, comp, h3⟩ := (hAmb.1.2 0 (cI, .int) rfl).1 0 (fun _ => .null)
    have h2 : s.vm.classes[cI]? = some kA := h2
    simp [Cond.before, Cond.holds, Cond.value, e9, h2, h3]
  refine va_newa (atype := .int) (ty := .int) (a0 := (N', .inl (fun _ => 0))) hx hb wa rfl hAmb.1 hP hD hS hA (fun cA => rfl) hn hN hbytes hcells hslots hdg (fun q cA H1 hK1 hP1 hD1 hS1 => ?_)
  have e1 : s.vm.findClass ("[" ++ FieldType.int.toString) = some cA := (hK1.2 2 (cA, .int) rfl).2
  have e2 : s.vm.findClass ("[" ++ FieldType.int.toString) = some cI := (hK1.2 0 (cI, .int) rfl).2
  have e3 : cA = cI := Option.some.inj (e1.symm.trans e2)
  subst e3
  exact kk q H1 hP1 hD1 hS1
end OC

/-! String.indexOf ON THE THREE TEXTS, by hand (wip/whole/gen6.py writes the decode rows beside it) -/
theorem dJ0_length_8abf5_0 : decode cJ0_length_8abf5 0 = .ok (.aload_n 0, 1) := by decide +kernel
theorem dJ0_length_8abf5_1 : decode cJ0_length_8abf5 1 = .ok (.getfield 9, 3) := by decide +kernel
theorem dJ0_length_8abf5_4 : decode cJ0_length_8abf5 4 = .ok (.arraylength, 1) := by decide +kernel
theorem dJ0_length_8abf5_5 : decode cJ0_length_8abf5 5 = .ok (.aload_n 0, 1) := by decide +kernel
theorem dJ0_length_8abf5_6 : decode cJ0_length_8abf5 6 = .ok (.invokevirtual 335, 3) := by decide +kernel
theorem dJ0_length_8abf5_9 : decode cJ0_length_8abf5 9 = .ok (.ishr, 1) := by decide +kernel
theorem dJ0_length_8abf5_10 : decode cJ0_length_8abf5 10 = .ok (.ireturn, 1) := by decide +kernel
theorem dJ0_indexOf_0f7a4_0 : decode cJ0_indexOf_0f7a4 0 = .ok (.aload_n 0, 1) := by decide +kernel
theorem dJ0_indexOf_0f7a4_1 : decode cJ0_indexOf_0f7a4 1 = .ok (.iload_n 1, 1) := by decide +kernel
theorem dJ0_indexOf_0f7a4_2 : decode cJ0_indexOf_0f7a4 2 = .ok (.iconst 0, 1) := by decide +kernel
theorem dJ0_indexOf_0f7a4_3 : decode cJ0_indexOf_0f7a4 3 = .ok (.invokevirtual 633, 3) := by decide +kernel
theorem dJ0_indexOf_0f7a4_6 : decode cJ0_indexOf_0f7a4 6 = .ok (.ireturn, 1) := by decide +kernel
theorem dJ0_indexOf_7cf53_0 : decode cJ0_indexOf_7cf53 0 = .ok (.aload_n 0, 1) := by decide +kernel
theorem dJ0_indexOf_7cf53_1 : decode cJ0_indexOf_7cf53 1 = .ok (.invokevirtual 492, 3) := by decide +kernel
theorem dJ0_indexOf_7cf53_4 : decode cJ0_indexOf_7cf53 4 = .ok (.ifCond .eq 19, 3) := by decide +kernel
theorem dJ0_indexOf_7cf53_7 : decode cJ0_indexOf_7cf53 7 = .ok (.aload_n 0, 1) := by decide +kernel
theorem dJ0_indexOf_7cf53_8 : decode cJ0_indexOf_7cf53 8 = .ok (.getfield 9, 3) := by decide +kernel
theorem dJ0_indexOf_7cf53_11 : decode cJ0_indexOf_7cf53 11 = .ok (.iload_n 1, 1) := by decide +kernel
theorem dJ0_indexOf_7cf53_12 : decode cJ0_indexOf_7cf53 12 = .ok (.iload_n 2, 1) := by decide +kernel
theorem dJ0_indexOf_7cf53_13 : decode cJ0_indexOf_7cf53 13 = .ok (.aload_n 0, 1) := by decide +kernel
theorem dJ0_indexOf_7cf53_14 : decode cJ0_indexOf_7cf53 14 = .ok (.invokevirtual 505, 3) := by decide +kernel
theorem dJ0_indexOf_7cf53_17 : decode cJ0_indexOf_7cf53 17 = .ok (.invokestatic 637, 3) := by decide +kernel
theorem dJ0_indexOf_7cf53_20 : decode cJ0_indexOf_7cf53 20 = .ok (.goto 16, 3) := by decide +kernel
theorem dJ0_indexOf_7cf53_23 : decode cJ0_indexOf_7cf53 23 = .ok (.aload_n 0, 1) := by decide +kernel
theorem dJ0_indexOf_7cf53_24 : decode cJ0_indexOf_7cf53 24 = .ok (.getfield 9, 3) := by decide +kernel
theorem dJ0_indexOf_7cf53_27 : decode cJ0_indexOf_7cf53 27 = .ok (.iload_n 1, 1) := by decide +kernel
theorem dJ0_indexOf_7cf53_28 : decode cJ0_indexOf_7cf53 28 = .ok (.iload_n 2, 1) := by decide +kernel
theorem dJ0_indexOf_7cf53_29 : decode cJ0_indexOf_7cf53 29 = .ok (.aload_n 0, 1) := by decide +kernel
theorem dJ0_indexOf_7cf53_30 : decode cJ0_indexOf_7cf53 30 = .ok (.invokevirtual 505, 3) := by decide +kernel
theorem dJ0_indexOf_7cf53_33 : decode cJ0_indexOf_7cf53 33 = .ok (.invokestatic 640, 3) := by decide +kernel
theorem dJ0_indexOf_7cf53_36 : decode cJ0_indexOf_7cf53 36 = .ok (.ireturn, 1) := by decide +kernel
theorem dJ0_coder_7d493_0 : decode cJ0_coder_7d493 0 = .ok (.getstatic 38, 3) := by decide +kernel
theorem dJ0_coder_7d493_3 : decode cJ0_coder_7d493 3 = .ok (.ifCond .eq 10, 3) := by decide +kernel
theorem dJ0_coder_7d493_6 : decode cJ0_coder_7d493 6 = .ok (.aload_n 0, 1) := by decide +kernel
theorem dJ0_coder_7d493_7 : decode cJ0_coder_7d493 7 = .ok (.getfield 15, 3) := by decide +kernel
theorem dJ0_coder_7d493_10 : decode cJ0_coder_7d493 10 = .ok (.goto 4, 3) := by decide +kernel
theorem dJ0_coder_7d493_13 : decode cJ0_coder_7d493 13 = .ok (.iconst 1, 1) := by decide +kernel
theorem dJ0_coder_7d493_14 : decode cJ0_coder_7d493 14 = .ok (.ireturn, 1) := by decide +kernel
theorem dJ0_isLatin1_aae02_0 : decode cJ0_isLatin1_aae02 0 = .ok (.getstatic 38, 3) := by decide +kernel
theorem dJ0_isLatin1_aae02_3 : decode cJ0_isLatin1_aae02 3 = .ok (.ifCond .eq 14, 3) := by decide +kernel
theorem dJ0_isLatin1_aae02_6 : decode cJ0_isLatin1_aae02 6 = .ok (.aload_n 0, 1) := by decide +kernel
theorem dJ0_isLatin1_aae02_7 : decode cJ0_isLatin1_aae02 7 = .ok (.getfield 15, 3) := by decide +kernel
theorem dJ0_isLatin1_aae02_10 : decode cJ0_isLatin1_aae02 10 = .ok (.ifCond .ne 7, 3) := by decide +kernel
theorem dJ0_isLatin1_aae02_13 : decode cJ0_isLatin1_aae02 13 = .ok (.iconst 1, 1) := by decide +kernel
theorem dJ0_isLatin1_aae02_14 : decode cJ0_isLatin1_aae02 14 = .ok (.goto 4, 3) := by decide +kernel
theorem dJ0_isLatin1_aae02_17 : decode cJ0_isLatin1_aae02 17 = .ok (.iconst 0, 1) := by decide +kernel
theorem dJ0_isLatin1_aae02_18 : decode cJ0_isLatin1_aae02 18 = .ok (.ireturn, 1) := by decide +kernel
theorem dJ1_canEncode_9a6ad_0 : decode cJ1_canEncode_9a6ad 0 = .ok (.iload_n 0, 1) := by decide +kernel
theorem dJ1_canEncode_9a6ad_1 : decode cJ1_canEncode_9a6ad 1 = .ok (.ifCond .lt 14, 3) := by decide +kernel
theorem dJ1_canEncode_9a6ad_4 : decode cJ1_canEncode_9a6ad 4 = .ok (.iload_n 0, 1) := by decide +kernel
theorem dJ1_canEncode_9a6ad_5 : decode cJ1_canEncode_9a6ad 5 = .ok (.sipush 255, 3) := by decide +kernel
theorem dJ1_canEncode_9a6ad_8 : decode cJ1_canEncode_9a6ad 8 = .ok (.if_icmp .gt 7, 3) := by decide +kernel
theorem dJ1_canEncode_9a6ad_11 : decode cJ1_canEncode_9a6ad 11 = .ok (.iconst 1, 1) := by decide +kernel
theorem dJ1_canEncode_9a6ad_12 : decode cJ1_canEncode_9a6ad 12 = .ok (.goto 4, 3) := by decide +kernel
theorem dJ1_canEncode_9a6ad_15 : decode cJ1_canEncode_9a6ad 15 = .ok (.iconst 0, 1) := by decide +kernel
theorem dJ1_canEncode_9a6ad_16 : decode cJ1_canEncode_9a6ad 16 = .ok (.ireturn, 1) := by decide +kernel
theorem dJ1_indexOf_4cfef_0 : decode cJ1_indexOf_4cfef 0 = .ok (.iload_n 1, 1) := by decide +kernel
theorem dJ1_indexOf_4cfef_1 : decode cJ1_indexOf_4cfef 1 = .ok (.invokestatic 88, 3) := by decide +kernel
theorem dJ1_indexOf_4cfef_4 : decode cJ1_indexOf_4cfef 4 = .ok (.ifCond .ne 5, 3) := by decide +kernel
theorem dJ1_indexOf_4cfef_7 : decode cJ1_indexOf_4cfef 7 = .ok (.iconst (-1), 1) := by decide +kernel
theorem dJ1_indexOf_4cfef_8 : decode cJ1_indexOf_4cfef 8 = .ok (.ireturn, 1) := by decide +kernel
theorem dJ1_indexOf_4cfef_9 : decode cJ1_indexOf_4cfef 9 = .ok (.iload_n 2, 1) := by decide +kernel
theorem dJ1_indexOf_4cfef_10 : decode cJ1_indexOf_4cfef 10 = .ok (.iconst 0, 1) := by decide +kernel
theorem dJ1_indexOf_4cfef_11 : decode cJ1_indexOf_4cfef 11 = .ok (.invokestatic 92, 3) := by decide +kernel
theorem dJ1_indexOf_4cfef_14 : decode cJ1_indexOf_4cfef 14 = .ok (.istore_n 2, 1) := by decide +kernel
theorem dJ1_indexOf_4cfef_15 : decode cJ1_indexOf_4cfef 15 = .ok (.iload_n 3, 1) := by decide +kernel
theorem dJ1_indexOf_4cfef_16 : decode cJ1_indexOf_4cfef 16 = .ok (.aload_n 0, 1) := by decide +kernel
theorem dJ1_indexOf_4cfef_17 : decode cJ1_indexOf_4cfef 17 = .ok (.arraylength, 1) := by decide +kernel
theorem dJ1_indexOf_4cfef_18 : decode cJ1_indexOf_4cfef 18 = .ok (.invokestatic 38, 3) := by decide +kernel
theorem dJ1_indexOf_4cfef_21 : decode cJ1_indexOf_4cfef 21 = .ok (.istore_n 3, 1) := by decide +kernel
theorem dJ1_indexOf_4cfef_22 : decode cJ1_indexOf_4cfef 22 = .ok (.iload_n 2, 1) := by decide +kernel
theorem dJ1_indexOf_4cfef_23 : decode cJ1_indexOf_4cfef 23 = .ok (.iload_n 3, 1) := by decide +kernel
theorem dJ1_indexOf_4cfef_24 : decode cJ1_indexOf_4cfef 24 = .ok (.if_icmp .lt 5, 3) := by decide +kernel
theorem dJ1_indexOf_4cfef_27 : decode cJ1_indexOf_4cfef 27 = .ok (.iconst (-1), 1) := by decide +kernel
theorem dJ1_indexOf_4cfef_28 : decode cJ1_indexOf_4cfef 28 = .ok (.ireturn, 1) := by decide +kernel
theorem dJ1_indexOf_4cfef_29 : decode cJ1_indexOf_4cfef 29 = .ok (.aload_n 0, 1) := by decide +kernel
theorem dJ1_indexOf_4cfef_30 : decode cJ1_indexOf_4cfef 30 = .ok (.iload_n 1, 1) := by decide +kernel
theorem dJ1_indexOf_4cfef_31 : decode cJ1_indexOf_4cfef 31 = .ok (.iload_n 2, 1) := by decide +kernel
theorem dJ1_indexOf_4cfef_32 : decode cJ1_indexOf_4cfef 32 = .ok (.iload_n 3, 1) := by decide +kernel
theorem dJ1_indexOf_4cfef_33 : decode cJ1_indexOf_4cfef 33 = .ok (.invokestatic 95, 3) := by decide +kernel
theorem dJ1_indexOf_4cfef_36 : decode cJ1_indexOf_4cfef 36 = .ok (.ireturn, 1) := by decide +kernel
theorem dJ1_indexOfChar_4cfef_0 : decode cJ1_indexOfChar_4cfef 0 = .ok (.iload_n 1, 1) := by decide +kernel
theorem dJ1_indexOfChar_4cfef_1 : decode cJ1_indexOfChar_4cfef 1 = .ok (.i2b, 1) := by decide +kernel
theorem dJ1_indexOfChar_4cfef_2 : decode cJ1_indexOfChar_4cfef 2 = .ok (.istore 4, 2) := by decide +kernel
theorem dJ1_indexOfChar_4cfef_4 : decode cJ1_indexOfChar_4cfef 4 = .ok (.iload_n 2, 1) := by decide +kernel
theorem dJ1_indexOfChar_4cfef_5 : decode cJ1_indexOfChar_4cfef 5 = .ok (.istore 5, 2) := by decide +kernel
theorem dJ1_indexOfChar_4cfef_7 : decode cJ1_indexOfChar_4cfef 7 = .ok (.iload 5, 2) := by decide +kernel
theorem dJ1_indexOfChar_4cfef_9 : decode cJ1_indexOfChar_4cfef 9 = .ok (.iload_n 3, 1) := by decide +kernel
theorem dJ1_indexOfChar_4cfef_10 : decode cJ1_indexOfChar_4cfef 10 = .ok (.if_icmp .ge 21, 3) := by decide +kernel
theorem dJ1_indexOfChar_4cfef_13 : decode cJ1_indexOfChar_4cfef 13 = .ok (.aload_n 0, 1) := by decide +kernel
theorem dJ1_indexOfChar_4cfef_14 : decode cJ1_indexOfChar_4cfef 14 = .ok (.iload 5, 2) := by decide +kernel
theorem dJ1_indexOfChar_4cfef_16 : decode cJ1_indexOfChar_4cfef 16 = .ok (.baload, 1) := by decide +kernel
theorem dJ1_indexOfChar_4cfef_17 : decode cJ1_indexOfChar_4cfef 17 = .ok (.iload 4, 2) := by decide +kernel
theorem dJ1_indexOfChar_4cfef_19 : decode cJ1_indexOfChar_4cfef 19 = .ok (.if_icmp .ne 6, 3) := by decide +kernel
theorem dJ1_indexOfChar_4cfef_22 : decode cJ1_indexOfChar_4cfef 22 = .ok (.iload 5, 2) := by decide +kernel
theorem dJ1_indexOfChar_4cfef_24 : decode cJ1_indexOfChar_4cfef 24 = .ok (.ireturn, 1) := by decide +kernel
theorem dJ1_indexOfChar_4cfef_25 : decode cJ1_indexOfChar_4cfef 25 = .ok (.iinc 5 1, 3) := by decide +kernel
theorem dJ1_indexOfChar_4cfef_28 : decode cJ1_indexOfChar_4cfef 28 = .ok (.goto (-21), 3) := by decide +kernel
theorem dJ1_indexOfChar_4cfef_31 : decode cJ1_indexOfChar_4cfef 31 = .ok (.iconst (-1), 1) := by decide +kernel
theorem dJ1_indexOfChar_4cfef_32 : decode cJ1_indexOfChar_4cfef 32 = .ok (.ireturn, 1) := by decide +kernel
def pr_P (D : va_G) (cI cR : ClassId) (ad : Nat → Nat) (b0 : Nat) (av : List Value) : Array Value → State → Prop := fun v U => v = av.toArray ∧ oh_Amb D cI cR ad b0 U U.heap
theorem pr_P_blind {D : va_G} {cI cR : ClassId} {ad : Nat → Nat} {b0 : Nat} {av : List Value} : FrameBlind (pr_P D cI cR ad b0 av) := fun _ _ _ _ q => ⟨q.1, oh_Amb_same q.2 rfl⟩
def pr_Q (v : Value) : Array Value → State → Outcome → State → Prop := fun _ st oc t => oc = .returned (some v) ∧ t.heap = st.heap
def pr_M (l : Launch) (D : va_G) (cI cR : ClassId) (ad : Nat → Nat) (b0 : Nat) (y : MethodName) (bs : ByteArray) (mL : Nat) (ty : FieldType) (fr : Nat) (av : List Value) (v : Value) : Prop := Met l y [.code y bs mL (some ty)] (oh_rm fr) (pr_P D cI cR ad b0 av) (pr_Q v) 0 0 (fun _ => False)
section PR
variable {p : Program} {l : Launch} {e : Env} {R : Room} {s : State} {m : MethodId} {args : Array Value} {below : List Frame} {meth : Method} {c : Code} {cells slots : Nat} {Q : State → Prop}
variable {bytes : ByteArray} {pc nL : Nat} {ls : Array Slot} {rest st0 : List Value} {D : va_G} {cI cR : ClassId} {ad : Nat → Nat} {b0 : Nat} {own : String}
theorem pr_run {aa : Array Value} {v : Value} {H : Heap} {locs : List Loc} (hr : va_Run p l e R s m args below meth c H locs cells slots 0 0 (F0 m pc ls st0) rest (pr_Q v aa) (fun _ => False)) (kk : W p l e R s m args below meth c H locs cells slots Q (F0 m (pc + 3) ls (v :: rest))) : W p l e R s m args below meth c H locs cells slots Q (F0 m pc ls st0) := by
  intro T hT X
  obtain ⟨w, st₀, t, T', L, h0, X', hL, e1, e2, ⟨hv, hh⟩, st⟩ := hr T hT X
  cases hv
  have hLn : L = [] := List.eq_nil_iff_forall_not_mem.mpr (fun z hz => hL z hz)
  subst hLn
  rw [List.append_nil] at X'
  obtain ⟨t2, a1, b1⟩ := kk T' (by rw [e1, hh, h0]) X'
  exact ⟨t2, st t2 a1, b1⟩
theorem pr_amb (hAmb : oh_Amb D cI cR ad b0 s s.heap) {U : State} (hU : U.heap = s.heap) (hW : s.WarmedH U.vm) : oh_Amb D cI cR ad b0 U U.heap := oh_AmbU (A := fun _ => False) (locs := []) hAmb (fun _ z => z.elim) va_S.rf hU hW
theorem pr_callS {y : MethodName} {bs : ByteArray} {mL fr x : Nat} {ty : FieldType} {av : List Value} {v : Value} (hx : p.tables.exec = Jvm.exec) (hb : c.code = bytes) (hml : c.maxLocals = nL) (hown : s.vm.findClass own = some m.cls) (hAmb : oh_Amb D cI cR ad b0 s s.heap) (hM : pr_M l D cI cR ad b0 y bs mL ty fr av v)
    (wc : Cond.code y bs mL (some ty) ∈ lw_tbl ∧ oh_okw (.code y bs mL (some ty)) = true) (wi : Cond.initialized y.cls ∈ lw_tbl ∧ oh_okw (.initialized y.cls) = true) (wl : Cond.methodLink own x y ∈ lw_tbl ∧ oh_okw (.methodLink own x y) = true) (wm : Cond.static y ∈ lw_tbl ∧ oh_okw (.static y) = true)
    (hy : y.cls ≠ "java/lang/invoke/MethodHandle" ∧ y.cls ≠ "java/lang/invoke/VarHandle") (hn : (parseMethodDescriptor y.desc).map (fun d => d.parameters.length) = some av.length) (hR : fr + 1 ≤ R.frames ∧ 8 + (mL + 11) + 60 * fr ≤ R.locals) (hC : cells ≤ R.cells ∧ slots ≤ R.slots) (hsz : ls.size = nL) (hcat : (rest.map fun v => v.category).sum ≤ 8) (hst : st0 = av.reverse ++ rest) (hdg : decode bytes pc = .ok (.invokestatic x, 3))
    (kk : W p l e R s m args below meth c s.heap [] cells slots Q (F0 m (pc + 3) ls (v :: rest))) : W p l e R s m args below meth c s.heap [] cells slots Q (F0 m pc ls st0) := by
  subst hst
  have hws : ∀ w ∈ [Cond.code y bs mL (some ty)], ∀ (a' : Array Value) (U : State), s.WarmedH U.vm → w.before a' U = true := fun w hw a' U hW => by
    rw [List.mem_singleton] at hw
    subst hw
    exact word_at (args := args) hW (Or.inl (oh_good_code wc.2)) (oh_Ab hAmb wc)
  have hpar : ∀ sig, parseMethodDescriptor y.desc = some sig → av.length = sig.parameters.length := fun sig hs => by
    rw [hs] at hn
    exact (Option.some.inj hn).symm
  have hfix : CallFix p m c bytes nL s args (lw_tbl.filter oh_okw) own := ⟨hx, hb, hml, hown, oh_ts hAmb⟩
  exact pr_run (va_runS (As := av) (rest := rest) (n := av.length) hfix hM ⟨⟨rfl, rfl, hR.1, hR.2, hws, List.mem_cons_self, oh_Ab hAmb wc, oh_Ab hAmb wi, hy, hpar, oh_Ab hAmb wl⟩, oh_Ab hAmb wm⟩ ⟨pr_P_blind, fun U hU hW => ⟨rfl, pr_amb hAmb hU hW⟩⟩ rfl rfl hsz rfl (lv_room hcat) hdg hC) kk
theorem pr_callV {y : MethodName} {bs : ByteArray} {mL fr x i : Nat} {ty : FieldType} {av : List Value} {v : Value} (hx : p.tables.exec = Jvm.exec) (hb : c.code = bytes) (hml : c.maxLocals = nL) (hown : s.vm.findClass own = some m.cls) (hAmb : oh_Amb D cI cR ad b0 s s.heap) (hi : i < 3) (hM : pr_M l D cI cR ad b0 y bs mL ty fr (.ref (ad (2000 + i)) :: av) v)
    (wc : Cond.code y bs mL (some ty) ∈ lw_tbl ∧ oh_okw (.code y bs mL (some ty)) = true) (wi : Cond.initialized y.cls ∈ lw_tbl ∧ oh_okw (.initialized y.cls) = true) (wl : Cond.methodLink own x y ∈ lw_tbl ∧ oh_okw (.methodLink own x y) = true) (wm : Cond.instanceMethod y ∈ lw_tbl ∧ oh_okw (.instanceMethod y) = true) (wz : Cond.selects y.cls y y ∈ lw_tbl ∧ oh_okw (.selects y.cls y y) = true)
    (hy : y.cls = "java/lang/String") (hn : (parseMethodDescriptor y.desc).map (fun d => d.parameters.length) = some av.length) (hR : fr + 1 ≤ R.frames ∧ 8 + (mL + 11) + 60 * fr ≤ R.locals) (hC : cells ≤ R.cells ∧ slots ≤ R.slots) (hsz : ls.size = nL) (hcat : (rest.map fun v => v.category).sum ≤ 8) (hst : st0 = av.reverse ++ .ref (ad (2000 + i)) :: rest) (hdg : decode bytes pc = .ok (.invokevirtual x, 3))
    (kk : W p l e R s m args below meth c s.heap [] cells slots Q (F0 m (pc + 3) ls (v :: rest))) : W p l e R s m args below meth c s.heap [] cells slots Q (F0 m pc ls st0) := by
  subst hst
  have hws : ∀ w ∈ [Cond.code y bs mL (some ty)], ∀ (a' : Array Value) (U : State), s.WarmedH U.vm → w.before a' U = true := fun w hw a' U hW => by
    rw [List.mem_singleton] at hw
    subst hw
    exact word_at (args := args) hW (Or.inl (oh_good_code wc.2)) (oh_Ab hAmb wc)
  have hpar : ∀ sig, parseMethodDescriptor y.desc = some sig → av.length = sig.parameters.length := fun sig hs => by
    rw [hs] at hn
    exact (Option.some.inj hn).symm
  have hmh : y.cls ≠ "java/lang/invoke/MethodHandle" ∧ y.cls ≠ "java/lang/invoke/VarHandle" := by rw [hy]; decide
  have hfix : CallFix p m c bytes nL s args (lw_tbl.filter oh_okw) own := ⟨hx, hb, hml, hown, oh_ts hAmb⟩
  have hcell : ∃ cellB : Cell, s.heap[ad (2000 + i)]? = some cellB ∧ cellB.vm.isStatics = false ∧ s.vm.findClass y.cls = some cellB.cls := by
    rw [hy]
    exact vk_recv (A := fun _ => False) (locs := []) (i := i) (adK := fun i => ad (2000 + i)) (vk_S.narrow hAmb.2.2.2.2.2.2.1 (fun _ z => z.elim)) hi va_S.rf
  exact pr_run (va_runV (g := F0 m pc ls (av.reverse ++ .ref (ad (2000 + i)) :: rest)) (As := av) (rest := rest) (n := av.length) (C := y.cls) hfix hM ⟨⟨rfl, rfl, hR.1, hR.2, hws, List.mem_cons_self, oh_Ab hAmb wc, oh_Ab hAmb wi, hmh, hpar, oh_Ab hAmb wl⟩, oh_Ab hAmb wm, oh_Ab hAmb wz⟩ ⟨pr_P_blind, hcell, fun U hU hW => ⟨rfl, pr_amb hAmb hU hW⟩⟩ rfl rfl hsz rfl (lv_room hcat) hdg hC) kk
end PR
def pr_can (x : Int32) : Int32 := if x < 0 then 0 else if 255 < x then 0 else 1
theorem oh_ixF_out {x : Int32} : ∀ {l : List Int32} {k : Nat}, (∀ b ∈ l, b ≠ x) → oh_ixF x l k = -1
  | [], _, _ => rfl
  | b :: l, k, h => by
    unfold oh_ixF
    rw [if_neg (h b List.mem_cons_self)]
    exact oh_ixF_out (fun b hb => h b (List.mem_cons_of_mem _ hb))
theorem oh_ixF_eq {x y : Int32} : ∀ {l : List Int32} {k : Nat}, (∀ b ∈ l, (b = x ↔ b = y)) → oh_ixF x l k = oh_ixF y l k
  | [], _, _ => rfl
  | b :: l, k, h => by
    have ih := oh_ixF_eq (k := k + 1) (fun b hb => h b (List.mem_cons_of_mem _ hb))
    unfold oh_ixF
    rw [ih]
    by_cases hb : b = x
    · rw [if_pos hb, if_pos ((h b List.mem_cons_self).mp hb)]
    · rw [if_neg hb, if_neg (fun z => hb ((h b List.mem_cons_self).mpr z))]
theorem pr_tx1 : ∀ i, i < 3 → ∀ b ∈ oh_tx.getD i [], pr_can b = 1 := by decide +kernel
theorem pr_tx2 : ∀ i, i < 3 → ∀ b ∈ oh_tx.getD i [], ∀ t, t < 256 → (b = (nI t).toInt8.toInt32 ↔ b = nI t) := by decide +kernel
theorem pr_tx3 : ∀ i, i < 3 → (oh_tx.map List.length).getD i 0 = (oh_tx.getD i []).length ∧ (oh_tx.getD i []).length < 100 ∧ nI (oh_tx.getD i []).length >>> (0 &&& 31) = nI (oh_tx.getD i []).length := by decide +kernel
theorem pr_ix1 {i : Nat} {x : Int32} (hi : i < 3) (h : pr_can x = 0) : oh_ixF x (oh_tx.getD i []) 0 = -1 := oh_ixF_out (fun b hb e => by
  subst e
  rw [pr_tx1 i hi b hb] at h
  cases h)
theorem pr_ix2 {i : Nat} {x : Int32} (hi : i < 3) (h : ¬ pr_can x = 0) : oh_ixF x.toInt8.toInt32 (oh_tx.getD i []) 0 = oh_ixF x (oh_tx.getD i []) 0 := by
  have h1 : ¬ x < 0 := fun z => h (by unfold pr_can; rw [if_pos z])
  have h2 : ¬ 255 < x := fun z => h (by unfold pr_can; rw [if_neg h1, if_pos z])
  obtain ⟨t, ht, rfl⟩ := oh_nat h1
  have h3 : ¬ nI 255 < nI t := h2
  rw [nI_ltI (by omega) ht] at h3
  exact oh_ixF_eq (fun b hb => pr_tx2 i hi b hb t (by omega))

theorem pr_canEncode {l : Launch} {D : va_G} {cI cR : ClassId} {ad : Nat → Nat} {b0 : Nat} {x : Int32} : pr_M l D cI cR ad b0 yJ1_canEncode_9a6ad cJ1_canEncode_9a6ad 1 .boolean 0 [.int x] (.int (pr_can x)) := by
  refine oh_ofW (cc := cJ1_canEncode_9a6ad) (maxL := 1) (ret := some .boolean) (by decide +kernel) rfl ?_
  intro p e s m args below meth c s₁ B hml hv
  obtain ⟨rfl, hAmb⟩ := hv
  have hx := B.exec
  have hb := B.bytes
  have hr := B.returns
  have hlocks := B.notSynchronized
  have hown : s.vm.findClass RJ1 = some m.cls := findClass_of_methodNamed B.named
  have hl := lv_entry ([.int x]) (n := 1) (Nat.le_of_ble_eq_true rfl)
  rw [lg_entry_eq]
  generalize (lg_sl ([.int x]) ++ List.replicate (1 - (lg_sl ([.int x])).length) Slot.unset).toArray = ls at hl ⊢
  have hl : lv_has ls 1 [(0, .int x)] := hl
  have hS : va_S (fun _ => False) s.heap s.heap [] := va_S.rf
  refine lv_iload_n hx hb dJ1_canEncode_9a6ad_0 rfl (lv_at hl 0 rfl) (lv_if_lt (tgt := 15) hx hb dJ1_canEncode_9a6ad_1 (by decide) (fun h1 => ?_) (fun h1 => ?_))
  · refine lv_iconst (v := 0) hx hb dJ1_canEncode_9a6ad_15 (by decide) ?_
    exact W.zret (v := 0) (ty := .boolean) hx hb hr (by decide +kernel) (fun t ht hW => ⟨by unfold pr_can; rw [if_pos h1], ht⟩) (fun q hq => by cases hq) dJ1_canEncode_9a6ad_16 (hlocks := hlocks)
  · refine lv_iload_n hx hb dJ1_canEncode_9a6ad_4 rfl (lv_at hl 0 rfl) (lv_sipush (v := 255) hx hb dJ1_canEncode_9a6ad_5 (by decide) (lv_icmp_gt (tgt := 15) hx hb dJ1_canEncode_9a6ad_8 (by decide) (fun h2 => ?_) (fun h2 => ?_)))
    · refine lv_iconst (v := 0) hx hb dJ1_canEncode_9a6ad_15 (by decide) ?_
      exact W.zret (v := 0) (ty := .boolean) hx hb hr (by decide +kernel) (fun t ht hW => ⟨by unfold pr_can; rw [if_neg h1, if_pos h2], ht⟩) (fun q hq => by cases hq) dJ1_canEncode_9a6ad_16 (hlocks := hlocks)
    · refine lv_iconst (v := 1) hx hb dJ1_canEncode_9a6ad_11 (by decide) (lv_goto (tgt := 16) hx hb dJ1_canEncode_9a6ad_12 (by decide) ?_)
      exact W.zret (v := 1) (ty := .boolean) hx hb hr (by decide +kernel) (fun t ht hW => ⟨by unfold pr_can; rw [if_neg h1, if_neg h2], ht⟩) (fun q hq => by cases hq) dJ1_canEncode_9a6ad_16 (hlocks := hlocks)
theorem pr_coder {l : Launch} {D : va_G} {cI cR : ClassId} {ad : Nat → Nat} {b0 : Nat} {i : Nat} (hi : i < 3) : pr_M l D cI cR ad b0 yJ0_coder_7d493 cJ0_coder_7d493 1 .byte 0 [.ref (ad (2000 + i))] (.int 0) := by
  refine oh_ofW (cc := cJ0_coder_7d493) (maxL := 1) (ret := some .byte) (by decide +kernel) rfl ?_
  intro p e s m args below meth c s₁ B hml hv
  obtain ⟨rfl, hAmb⟩ := hv
  have hx := B.exec
  have hb := B.bytes
  have hr := B.returns
  have hlocks := B.notSynchronized
  have hown : s.vm.findClass RJ0 = some m.cls := findClass_of_methodNamed B.named
  have hl := lv_entry ([.ref (ad (2000 + i))]) (n := 1) (Nat.le_of_ble_eq_true rfl)
  rw [lg_entry_eq]
  generalize (lg_sl ([.ref (ad (2000 + i))]) ++ List.replicate (1 - (lg_sl ([.ref (ad (2000 + i))])).length) Slot.unset).toArray = ls at hl ⊢
  have hl : lv_has ls 1 [(0, .ref (ad (2000 + i)))] := hl
  have hS : va_S (fun _ => False) s.heap s.heap [] := va_S.rf
  refine va_gets hx hb (va_Z.narrow hAmb.2.2.2.2.2.2.2 (fun _ z => z.elim)) hS hown (oh_Ab hAmb (oh_wd_i (ps := 480) (by decide +kernel))) (fun _ h9 => h9) dJ0_coder_7d493_0 (lv_if_eq (tgt := 13) hx hb dJ0_coder_7d493_3 (by decide) (fun h => absurd h (by decide)) (fun _ => ?_))
  refine lv_aload_n hx hb dJ0_coder_7d493_6 rfl (lv_at hl 0 rfl) (vk_getf hx hb (vk_S.narrow hAmb.2.2.2.2.2.2.1 (B := fun _ => False) (fun _ z => z.elim) |>.1 i hi |>.2.1) hS hown (oh_Ab hAmb (oh_wd_i (ps := 1360) (by decide +kernel))) (fun _ h9 => h9) dJ0_coder_7d493_7 (lv_goto (tgt := 14) hx hb dJ0_coder_7d493_10 (by decide) ?_))
  exact W.zret (v := 0) (ty := .byte) hx hb hr (by decide +kernel) (fun t ht hW => ⟨rfl, ht⟩) (fun q hq => by cases hq) dJ0_coder_7d493_14 (hlocks := hlocks)
theorem pr_isLatin1 {l : Launch} {D : va_G} {cI cR : ClassId} {ad : Nat → Nat} {b0 : Nat} {i : Nat} (hi : i < 3) : pr_M l D cI cR ad b0 yJ0_isLatin1_aae02 cJ0_isLatin1_aae02 1 .boolean 0 [.ref (ad (2000 + i))] (.int 1) := by
  refine oh_ofW (cc := cJ0_isLatin1_aae02) (maxL := 1) (ret := some .boolean) (by decide +kernel) rfl ?_
  intro p e s m args below meth c s₁ B hml hv
  obtain ⟨rfl, hAmb⟩ := hv
  have hx := B.exec
  have hb := B.bytes
  have hr := B.returns
  have hlocks := B.notSynchronized
  have hown : s.vm.findClass RJ0 = some m.cls := findClass_of_methodNamed B.named
  have hl := lv_entry ([.ref (ad (2000 + i))]) (n := 1) (Nat.le_of_ble_eq_true rfl)
  rw [lg_entry_eq]
  generalize (lg_sl ([.ref (ad (2000 + i))]) ++ List.replicate (1 - (lg_sl ([.ref (ad (2000 + i))])).length) Slot.unset).toArray = ls at hl ⊢
  have hl : lv_has ls 1 [(0, .ref (ad (2000 + i)))] := hl
  have hS : va_S (fun _ => False) s.heap s.heap [] := va_S.rf
  refine va_gets hx hb (va_Z.narrow hAmb.2.2.2.2.2.2.2 (fun _ z => z.elim)) hS hown (oh_Ab hAmb (oh_wd_i (ps := 480) (by decide +kernel))) (fun _ h9 => h9) dJ0_isLatin1_aae02_0 (lv_if_eq (tgt := 17) hx hb dJ0_isLatin1_aae02_3 (by decide) (fun h => absurd h (by decide)) (fun _ => ?_))
  refine lv_aload_n hx hb dJ0_isLatin1_aae02_6 rfl (lv_at hl 0 rfl) (vk_getf hx hb (vk_S.narrow hAmb.2.2.2.2.2.2.1 (B := fun _ => False) (fun _ z => z.elim) |>.1 i hi |>.2.1) hS hown (oh_Ab hAmb (oh_wd_i (ps := 1360) (by decide +kernel))) (fun _ h9 => h9) dJ0_isLatin1_aae02_7 (lv_if_ne (tgt := 17) hx hb dJ0_isLatin1_aae02_10 (by decide) (fun h => absurd rfl h) (fun _ => ?_)))
  refine lv_iconst (v := 1) hx hb dJ0_isLatin1_aae02_13 (by decide) (lv_goto (tgt := 18) hx hb dJ0_isLatin1_aae02_14 (by decide) ?_)
  exact W.zret (v := 1) (ty := .boolean) hx hb hr (by decide +kernel) (fun t ht hW => ⟨rfl, ht⟩) (fun q hq => by cases hq) dJ0_isLatin1_aae02_18 (hlocks := hlocks)
theorem pr_length {l : Launch} {D : va_G} {cI cR : ClassId} {ad : Nat → Nat} {b0 : Nat} {i : Nat} (hi : i < 3) : pr_M l D cI cR ad b0 yJ0_length_8abf5 cJ0_length_8abf5 1 .int 1 [.ref (ad (2000 + i))] (.int (nI (oh_tx.getD i []).length)) := by
  refine oh_ofW (cc := cJ0_length_8abf5) (maxL := 1) (ret := some .int) (by decide +kernel) rfl ?_
  intro p e s m args below meth c s₁ B hml hv
  obtain ⟨rfl, hAmb⟩ := hv
  have hx := B.exec
  have hb := B.bytes
  have hr := B.returns
  have hlocks := B.notSynchronized
  have hown : s.vm.findClass RJ0 = some m.cls := findClass_of_methodNamed B.named
  have hl := lv_entry ([.ref (ad (2000 + i))]) (n := 1) (Nat.le_of_ble_eq_true rfl)
  rw [lg_entry_eq]
  generalize (lg_sl ([.ref (ad (2000 + i))]) ++ List.replicate (1 - (lg_sl ([.ref (ad (2000 + i))])).length) Slot.unset).toArray = ls at hl ⊢
  have hl : lv_has ls 1 [(0, .ref (ad (2000 + i)))] := hl
  have hS : va_S (fun _ => False) s.heap s.heap [] := va_S.rf
  obtain ⟨e1, e2, e3⟩ := pr_tx3 i hi
  refine lv_aload_n hx hb dJ0_length_8abf5_0 rfl (lv_at hl 0 rfl) (vk_getf hx hb (vk_S.narrow hAmb.2.2.2.2.2.2.1 (B := fun _ => False) (fun _ z => z.elim) |>.1 i hi |>.2.2.1) hS hown (oh_Ab hAmb (oh_wd_i (ps := 1361) (by decide +kernel))) (fun _ h9 => h9) dJ0_length_8abf5_1 (va_tlen (v := nI (oh_tx.getD i []).length) hx hb (vk_S.narrow hAmb.2.2.2.2.2.2.1 (B := fun _ => False) (fun _ z => z.elim) |>.1 i hi |>.2.2.2) hS (by rw [e1]; rfl) dJ0_length_8abf5_4 ?_))
  refine lv_aload_n hx hb dJ0_length_8abf5_5 rfl (lv_at hl 0 rfl) ?_
  refine pr_callV (av := []) (rest := [.int (nI (oh_tx.getD i []).length)]) hx hb hml hown hAmb hi (pr_coder hi) (oh_wd_i (ps := 489) (by decide +kernel)) (oh_wd_i (ps := 107) (by decide +kernel)) (oh_wd_i (ps := 486) (by decide +kernel)) (oh_wd_i (ps := 487) (by decide +kernel)) (oh_wd_i (ps := 488) (by decide +kernel)) rfl (by decide +kernel) ⟨Nat.le_of_ble_eq_true rfl, Nat.le_of_ble_eq_true rfl⟩ ⟨Nat.le_of_ble_eq_true rfl, Nat.le_of_ble_eq_true rfl⟩ hl.1 (Nat.le_of_ble_eq_true rfl) rfl dJ0_length_8abf5_6 ?_
  refine lv_ishr hx hb dJ0_length_8abf5_9 ?_
  rw [e3]
  exact W.iret (v := nI (oh_tx.getD i []).length) hx hb hr (fun t ht hW => ⟨rfl, ht⟩) (fun q hq => by cases hq) dJ0_length_8abf5_10 (hlocks := hlocks)
theorem pr_indexOfChar {l : Launch} {D : va_G} {cI cR : ClassId} {ad : Nat → Nat} {b0 : Nat} {i : Nat} {x : Int32} (hi : i < 3) : pr_M l D cI cR ad b0 yJ1_indexOfChar_4cfef cJ1_indexOfChar_4cfef 6 .int 0 [.ref (ad (3000 + i)), .int x, .int 0, .int (nI (oh_tx.getD i []).length)] (.int (oh_ixF x.toInt8.toInt32 (oh_tx.getD i []) 0)) := by
  refine oh_ofW (cc := cJ1_indexOfChar_4cfef) (maxL := 6) (ret := some .int) (by decide +kernel) rfl ?_
  intro p e s m args below meth c s₁ B hml hv
  obtain ⟨rfl, hAmb⟩ := hv
  have hx := B.exec
  have hb := B.bytes
  have hr := B.returns
  have hlocks := B.notSynchronized
  have hown : s.vm.findClass RJ1 = some m.cls := findClass_of_methodNamed B.named
  have hl := lv_entry ([.ref (ad (3000 + i)), .int x, .int 0, .int (nI (oh_tx.getD i []).length)]) (n := 6) (Nat.le_of_ble_eq_true rfl)
  rw [lg_entry_eq]
  generalize (lg_sl ([.ref (ad (3000 + i)), .int x, .int 0, .int (nI (oh_tx.getD i []).length)]) ++ List.replicate (6 - (lg_sl ([.ref (ad (3000 + i)), .int x, .int 0, .int (nI (oh_tx.getD i []).length)])).length) Slot.unset).toArray = ls at hl ⊢
  have hl : lv_has ls 6 [(0, .ref (ad (3000 + i))), (1, .int x), (2, .int 0), (3, .int (nI (oh_tx.getD i []).length))] := hl
  have hS : va_S (fun _ => False) s.heap s.heap [] := va_S.rf
  obtain ⟨e1, e2, e3⟩ := pr_tx3 i hi
  have hT := (vk_S.narrow hAmb.2.2.2.2.2.2.1 (B := fun _ => False) (fun _ z => z.elim) |>.1 i hi |>.2.2.2)
  rw [e1] at hT
  refine lv_iload_n hx hb dJ1_indexOfChar_4cfef_0 rfl (lv_at hl 1 rfl) (lv_i2b (v := x.toInt8.toInt32) hx hb dJ1_indexOfChar_4cfef_1 rfl (lv_istore hx hb dJ1_indexOfChar_4cfef_2 hl (by omega) rfl (fun ls1 hl1 => ?_)))
  refine lv_iload_n hx hb dJ1_indexOfChar_4cfef_4 rfl (lv_at hl1 3 rfl) (lv_istore hx hb dJ1_indexOfChar_4cfef_5 hl1 (by omega) rfl (fun ls2 hl2 => ?_))
  have hl2 : lv_has ls2 6 [(0, .ref (ad (3000 + i))), (3, .int (nI (oh_tx.getD i []).length)), (4, .int x.toInt8.toInt32), (5, .int (nI 0))] := lv_sub hl2 [2, 5, 1, 0] rfl
  generalize ([.ref (ad (3000 + i)), .int x, .int 0, .int (nI (oh_tx.getD i []).length)] : List Value).toArray = aa
  generalize x.toInt8.toInt32 = y at hl2 ⊢
  generalize oh_tx.getD i [] = tx at e2 hT hl2 ⊢
  have loop : ∀ (li : List Int32) (k : Nat) (ls : Array Slot), tx.drop k = li → k ≤ tx.length → oh_ixF y li k = oh_ixF y tx 0 → lv_has ls 6 [(0, .ref (ad (3000 + i))), (3, .int (nI tx.length)), (4, .int y), (5, .int (nI k))] → W p l e (oh_rm 0) s m aa below meth c s.heap [] 0 0 (MQ below (pr_Q (.int (oh_ixF y tx 0))) aa s 0 0 (fun _ => False)) (F0 m 7 ls []) := by
    intro li
    induction li with
    | nil =>
      intro k ls hd hk hv hl
      have hk2 : tx.length ≤ k := by
        have := congrArg List.length hd
        rw [List.length_drop] at this
        simp at this
        omega
      refine lv_iload hx hb dJ1_indexOfChar_4cfef_7 (lv_at hl 3 rfl) (lv_iload_n hx hb dJ1_indexOfChar_4cfef_9 rfl (lv_at hl 1 rfl) (lv_icmp_ge (tgt := 31) hx hb dJ1_indexOfChar_4cfef_10 (by decide) (fun _ => ?_) (fun h => absurd ((nI_leI (by omega) (by omega)).mpr hk2) h)))
      refine lv_iconst (v := -1) hx hb dJ1_indexOfChar_4cfef_31 (by decide) ?_
      exact W.iret (v := -1) hx hb hr (fun t ht hW => ⟨by rw [← hv]; rfl, ht⟩) (fun q hq => by cases hq) dJ1_indexOfChar_4cfef_32 (hlocks := hlocks)
    | cons a li ih =>
      intro k ls hd hk hv hl
      have hk2 : k < tx.length := by
        have := congrArg List.length hd
        rw [List.length_drop, List.length_cons] at this
        omega
      rw [List.drop_eq_getElem_cons hk2] at hd
      obtain ⟨ha, hd2⟩ := List.cons.inj hd
      have hget : tx.getD k 0 = a := by rw [← ha]; simp [hk2]
      refine lv_iload hx hb dJ1_indexOfChar_4cfef_7 (lv_at hl 3 rfl) (lv_iload_n hx hb dJ1_indexOfChar_4cfef_9 rfl (lv_at hl 1 rfl) (lv_icmp_ge (tgt := 31) hx hb dJ1_indexOfChar_4cfef_10 (by decide) (fun h => absurd ((nI_leI (by omega) (by omega)).mp h) (by omega)) (fun _ => ?_)))
      refine lv_aload_n hx hb dJ1_indexOfChar_4cfef_13 rfl (lv_at hl 0 rfl) (lv_iload hx hb dJ1_indexOfChar_4cfef_14 (lv_at hl 3 rfl) (va_tb (v := .int a) hx hb hT hS (oh_in hk2 (by omega)) (by rw [oh_cl (by omega)]; exact congrArg Value.int hget) dJ1_indexOfChar_4cfef_16 (lv_iload hx hb dJ1_indexOfChar_4cfef_17 (lv_at hl 2 rfl) (lv_icmp_ne (tgt := 25) hx hb dJ1_indexOfChar_4cfef_19 (by decide) (fun h => ?_) (fun h => ?_)))))
      · refine lv_iinc (v := nI (k + 1)) (k := 3) hx hb dJ1_indexOfChar_4cfef_25 hl rfl (by rw [show Int32.ofInt 1 = nI 1 from rfl, nI_add]) (by omega) rfl (fun ls' hl' => lv_goto (tgt := 7) hx hb dJ1_indexOfChar_4cfef_28 (by decide) (ih (k + 1) ls' hd2 hk2 ?_ (lv_sub hl' [1, 2, 3, 0] rfl)))
        rw [← hv, oh_ixF, if_neg h]
      · refine lv_iload hx hb dJ1_indexOfChar_4cfef_22 (lv_at hl 3 rfl) ?_
        exact W.iret (v := nI k) hx hb hr (fun t ht hW => ⟨by rw [← hv, oh_ixF, if_pos h], ht⟩) (fun q hq => by cases hq) dJ1_indexOfChar_4cfef_24 (hlocks := hlocks)
  exact loop tx 0 ls2 rfl (Nat.zero_le _) rfl hl2
theorem pr_indexOfL {l : Launch} {D : va_G} {cI cR : ClassId} {ad : Nat → Nat} {b0 : Nat} {i : Nat} {x : Int32} (hi : i < 3) : pr_M l D cI cR ad b0 yJ1_indexOf_4cfef cJ1_indexOf_4cfef 4 .int 1 [.ref (ad (3000 + i)), .int x, .int 0, .int (nI (oh_tx.getD i []).length)] (.int (oh_ixF x (oh_tx.getD i []) 0)) := by
  refine oh_ofW (cc := cJ1_indexOf_4cfef) (maxL := 4) (ret := some .int) (by decide +kernel) rfl ?_
  intro p e s m args below meth c s₁ B hml hv
  obtain ⟨rfl, hAmb⟩ := hv
  have hx := B.exec
  have hb := B.bytes
  have hr := B.returns
  have hlocks := B.notSynchronized
  have hown : s.vm.findClass RJ1 = some m.cls := findClass_of_methodNamed B.named
  have hl := lv_entry ([.ref (ad (3000 + i)), .int x, .int 0, .int (nI (oh_tx.getD i []).length)]) (n := 4) (Nat.le_of_ble_eq_true rfl)
  rw [lg_entry_eq]
  generalize (lg_sl ([.ref (ad (3000 + i)), .int x, .int 0, .int (nI (oh_tx.getD i []).length)]) ++ List.replicate (4 - (lg_sl ([.ref (ad (3000 + i)), .int x, .int 0, .int (nI (oh_tx.getD i []).length)])).length) Slot.unset).toArray = ls at hl ⊢
  have hl : lv_has ls 4 [(0, .ref (ad (3000 + i))), (1, .int x), (2, .int 0), (3, .int (nI (oh_tx.getD i []).length))] := hl
  have hS : va_S (fun _ => False) s.heap s.heap [] := va_S.rf
  obtain ⟨e1, e2, e3⟩ := pr_tx3 i hi
  refine lv_iload_n hx hb dJ1_indexOf_4cfef_0 rfl (lv_at hl 1 rfl) ?_
  refine pr_callS (av := [.int x]) (rest := []) hx hb hml hown hAmb pr_canEncode (oh_wd_i (ps := 495) (by decide +kernel)) (oh_wd_i (ps := 108) (by decide +kernel)) (oh_wd_i (ps := 493) (by decide +kernel)) (oh_wd_i (ps := 494) (by decide +kernel)) (by decide) (show (parseMethodDescriptor yJ1_canEncode_9a6ad.desc).map (fun d => d.parameters.length) = some 1 by decide +kernel) ⟨Nat.le_of_ble_eq_true rfl, Nat.le_of_ble_eq_true rfl⟩ ⟨Nat.le_of_ble_eq_true rfl, Nat.le_of_ble_eq_true rfl⟩ hl.1 (Nat.le_of_ble_eq_true rfl) rfl dJ1_indexOf_4cfef_1 ?_
  refine lv_if_ne (tgt := 9) hx hb dJ1_indexOf_4cfef_4 (by decide) (fun h1 => ?_) (fun h1 => ?_)
  · refine lv_iload_n hx hb dJ1_indexOf_4cfef_9 rfl (lv_at hl 2 rfl) (lv_iconst (v := 0) hx hb dJ1_indexOf_4cfef_10 (by decide) ?_)
    refine va_mmax hx hb (by rw [hml]; exact hl.1.symm) hown (oh_Ab hAmb (oh_wd_i (ps := 496) (by decide +kernel))) (oh_Ab hAmb (oh_wd_i (ps := 197) (by decide +kernel))) (oh_Ab hAmb (oh_wd_i (ps := 102) (by decide +kernel))) (oh_Ab hAmb (oh_wd_i (ps := 198) (by decide +kernel))) (Nat.le_of_ble_eq_true rfl) (Nat.le_of_ble_eq_true rfl) (Nat.le_of_ble_eq_true rfl) (Nat.le_of_ble_eq_true rfl) dJ1_indexOf_4cfef_11 ?_
    rw [show (if (0 : Int32) < 0 then (0 : Int32) else 0) = 0 from rfl]
    refine lv_istore_n hx hb dJ1_indexOf_4cfef_14 rfl hl (by omega) rfl (fun ls1 hl1 => ?_)
    refine lv_iload_n hx hb dJ1_indexOf_4cfef_15 rfl (lv_at hl1 3 rfl) (lv_aload_n hx hb dJ1_indexOf_4cfef_16 rfl (lv_at hl1 1 rfl) (va_tlen (v := nI (oh_tx.getD i []).length) hx hb (vk_S.narrow hAmb.2.2.2.2.2.2.1 (B := fun _ => False) (fun _ z => z.elim) |>.1 i hi |>.2.2.2) hS (by rw [e1]; rfl) dJ1_indexOf_4cfef_17 ?_))
    refine va_mmin hx hb (by rw [hml]; exact hl1.1.symm) hown (oh_Ab hAmb (oh_wd_i (ps := 497) (by decide +kernel))) (oh_Ab hAmb (oh_wd_i (ps := 361) (by decide +kernel))) (oh_Ab hAmb (oh_wd_i (ps := 102) (by decide +kernel))) (oh_Ab hAmb (oh_wd_i (ps := 362) (by decide +kernel))) (Nat.le_of_ble_eq_true rfl) (Nat.le_of_ble_eq_true rfl) (Nat.le_of_ble_eq_true rfl) (Nat.le_of_ble_eq_true rfl) dJ1_indexOf_4cfef_18 ?_
    rw [ite_self]
    refine lv_istore_n hx hb dJ1_indexOf_4cfef_21 rfl hl1 (by omega) rfl (fun ls2 hl2 => ?_)
    refine lv_iload_n hx hb dJ1_indexOf_4cfef_22 rfl (lv_at hl2 1 rfl) (lv_iload_n hx hb dJ1_indexOf_4cfef_23 rfl (lv_at hl2 0 rfl) (lv_icmp_lt (tgt := 29) hx hb dJ1_indexOf_4cfef_24 (by decide) (fun h2 => ?_) (fun h2 => ?_)))
    · refine lv_aload_n hx hb dJ1_indexOf_4cfef_29 rfl (lv_at hl2 2 rfl) (lv_iload_n hx hb dJ1_indexOf_4cfef_30 rfl (lv_at hl2 3 rfl) (lv_iload_n hx hb dJ1_indexOf_4cfef_31 rfl (lv_at hl2 1 rfl) (lv_iload_n hx hb dJ1_indexOf_4cfef_32 rfl (lv_at hl2 0 rfl) ?_)))
      refine pr_callS (av := [.ref (ad (3000 + i)), .int x, .int 0, .int (nI (oh_tx.getD i []).length)]) (rest := []) hx hb hml hown hAmb (pr_indexOfChar hi) (oh_wd_i (ps := 500) (by decide +kernel)) (oh_wd_i (ps := 108) (by decide +kernel)) (oh_wd_i (ps := 498) (by decide +kernel)) (oh_wd_i (ps := 499) (by decide +kernel)) (by decide) (show (parseMethodDescriptor yJ1_indexOfChar_4cfef.desc).map (fun d => d.parameters.length) = some 4 by decide +kernel) ⟨Nat.le_of_ble_eq_true rfl, Nat.le_of_ble_eq_true rfl⟩ ⟨Nat.le_of_ble_eq_true rfl, Nat.le_of_ble_eq_true rfl⟩ hl2.1 (Nat.le_of_ble_eq_true rfl) rfl dJ1_indexOf_4cfef_33 ?_
      rw [pr_ix2 hi h1]
      exact W.iret (v := oh_ixF x (oh_tx.getD i []) 0) hx hb hr (fun t ht hW => ⟨rfl, ht⟩) (fun q hq => by cases hq) dJ1_indexOf_4cfef_36 (hlocks := hlocks)
    · refine lv_iconst (v := -1) hx hb dJ1_indexOf_4cfef_27 (by decide) ?_
      have h3 : ¬ nI 0 < nI (oh_tx.getD i []).length := h2
      rw [nI_ltI (by omega) (by omega)] at h3
      have h4 : oh_tx.getD i [] = [] := List.eq_nil_of_length_eq_zero (by omega)
      exact W.iret (v := -1) hx hb hr (fun t ht hW => ⟨by rw [h4]; rfl, ht⟩) (fun q hq => by cases hq) dJ1_indexOf_4cfef_28 (hlocks := hlocks)
  · refine lv_iconst (v := -1) hx hb dJ1_indexOf_4cfef_7 (by decide) ?_
    exact W.iret (v := -1) hx hb hr (fun t ht hW => ⟨by rw [pr_ix1 hi h1], ht⟩) (fun q hq => by cases hq) dJ1_indexOf_4cfef_8 (hlocks := hlocks)
theorem pr_indexOf2 {l : Launch} {D : va_G} {cI cR : ClassId} {ad : Nat → Nat} {b0 : Nat} {i : Nat} {x : Int32} (hi : i < 3) : pr_M l D cI cR ad b0 yJ0_indexOf_7cf53 cJ0_indexOf_7cf53 3 .int 2 [.ref (ad (2000 + i)), .int x, .int 0] (.int (oh_ixF x (oh_tx.getD i []) 0)) := by
  refine oh_ofW (cc := cJ0_indexOf_7cf53) (maxL := 3) (ret := some .int) (by decide +kernel) rfl ?_
  intro p e s m args below meth c s₁ B hml hv
  obtain ⟨rfl, hAmb⟩ := hv
  have hx := B.exec
  have hb := B.bytes
  have hr := B.returns
  have hlocks := B.notSynchronized
  have hown : s.vm.findClass RJ0 = some m.cls := findClass_of_methodNamed B.named
  have hl := lv_entry ([.ref (ad (2000 + i)), .int x, .int 0]) (n := 3) (Nat.le_of_ble_eq_true rfl)
  rw [lg_entry_eq]
  generalize (lg_sl ([.ref (ad (2000 + i)), .int x, .int 0]) ++ List.replicate (3 - (lg_sl ([.ref (ad (2000 + i)), .int x, .int 0])).length) Slot.unset).toArray = ls at hl ⊢
  have hl : lv_has ls 3 [(0, .ref (ad (2000 + i))), (1, .int x), (2, .int 0)] := hl
  have hS : va_S (fun _ => False) s.heap s.heap [] := va_S.rf
  refine lv_aload_n hx hb dJ0_indexOf_7cf53_0 rfl (lv_at hl 0 rfl) ?_
  refine pr_callV (av := []) (rest := []) hx hb hml hown hAmb hi (pr_isLatin1 hi) (oh_wd_i (ps := 479) (by decide +kernel)) (oh_wd_i (ps := 107) (by decide +kernel)) (oh_wd_i (ps := 476) (by decide +kernel)) (oh_wd_i (ps := 477) (by decide +kernel)) (oh_wd_i (ps := 478) (by decide +kernel)) rfl (by decide +kernel) ⟨Nat.le_of_ble_eq_true rfl, Nat.le_of_ble_eq_true rfl⟩ ⟨Nat.le_of_ble_eq_true rfl, Nat.le_of_ble_eq_true rfl⟩ hl.1 (Nat.le_of_ble_eq_true rfl) rfl dJ0_indexOf_7cf53_1 ?_
  refine lv_if_eq (tgt := 23) hx hb dJ0_indexOf_7cf53_4 (by decide) (fun h => absurd h (by decide)) (fun _ => ?_)
  refine lv_aload_n hx hb dJ0_indexOf_7cf53_7 rfl (lv_at hl 0 rfl) (vk_getf hx hb (vk_S.narrow hAmb.2.2.2.2.2.2.1 (B := fun _ => False) (fun _ z => z.elim) |>.1 i hi |>.2.2.1) hS hown (oh_Ab hAmb (oh_wd_i (ps := 1361) (by decide +kernel))) (fun _ h9 => h9) dJ0_indexOf_7cf53_8 (lv_iload_n hx hb dJ0_indexOf_7cf53_11 rfl (lv_at hl 1 rfl) (lv_iload_n hx hb dJ0_indexOf_7cf53_12 rfl (lv_at hl 2 rfl) (lv_aload_n hx hb dJ0_indexOf_7cf53_13 rfl (lv_at hl 0 rfl) ?_))))
  refine pr_callV (av := []) (rest := [.int 0, .int x, .ref (ad (3000 + i))]) hx hb hml hown hAmb hi (pr_length hi) (oh_wd_i (ps := 485) (by decide +kernel)) (oh_wd_i (ps := 107) (by decide +kernel)) (oh_wd_i (ps := 482) (by decide +kernel)) (oh_wd_i (ps := 483) (by decide +kernel)) (oh_wd_i (ps := 484) (by decide +kernel)) rfl (by decide +kernel) ⟨Nat.le_of_ble_eq_true rfl, Nat.le_of_ble_eq_true rfl⟩ ⟨Nat.le_of_ble_eq_true rfl, Nat.le_of_ble_eq_true rfl⟩ hl.1 (Nat.le_of_ble_eq_true rfl) rfl dJ0_indexOf_7cf53_14 ?_
  refine pr_callS (av := [.ref (ad (3000 + i)), .int x, .int 0, .int (nI (oh_tx.getD i []).length)]) (rest := []) hx hb hml hown hAmb (pr_indexOfL hi) (oh_wd_i (ps := 492) (by decide +kernel)) (oh_wd_i (ps := 108) (by decide +kernel)) (oh_wd_i (ps := 490) (by decide +kernel)) (oh_wd_i (ps := 491) (by decide +kernel)) (by decide) (show (parseMethodDescriptor yJ1_indexOf_4cfef.desc).map (fun d => d.parameters.length) = some 4 by decide +kernel) ⟨Nat.le_of_ble_eq_true rfl, Nat.le_of_ble_eq_true rfl⟩ ⟨Nat.le_of_ble_eq_true rfl, Nat.le_of_ble_eq_true rfl⟩ hl.1 (Nat.le_of_ble_eq_true rfl) rfl dJ0_indexOf_7cf53_17 ?_
  refine lv_goto (tgt := 36) hx hb dJ0_indexOf_7cf53_20 (by decide) ?_
  exact W.iret (v := oh_ixF x (oh_tx.getD i []) 0) hx hb hr (fun t ht hW => ⟨rfl, ht⟩) (fun q hq => by cases hq) dJ0_indexOf_7cf53_36 (hlocks := hlocks)
theorem pr_only : ∀ j, j < 202 → (oh_nth oh_M j).map Prod.fst ≠ some 0 := by decide +kernel
theorem pr_len : oh_M.length = 203 := by decide +kernel
theorem pr_j {j : Nat} {T : oh_T} (h : oh_nth oh_M j = some (0, T)) : j = 202 := by
  by_cases hj : j < 202
  · exact absurd (by rw [h]; rfl) (pr_only j hj)
  · rw [oh_nth_eq] at h
    have := (List.getElem?_eq_some_iff.mp h).1
    rw [pr_len] at this
    omega
theorem pr_mi : (oh_nth oh_mi 202).map (fun q => (q.1, q.2.1, q.2.2.1, q.2.2.2.1)) = some (yJ0_indexOf_0f7a4, cJ0_indexOf_0f7a4, 2, some .int) := by decide +kernel
theorem pr_prim {l : Launch} {D : va_G} {cI cR : ClassId} {ad : Nat → Nat} {b0 : Nat} {G : List oh_Sh} : oh_Prim l D cI cR ad b0 G oh_mi oh_M := by
  intro j q T hq hT d k x h Q sz hsz hd hk1 hk2 hQ
  obtain rfl := pr_j hT
  have e := pr_mi
  rw [hq] at e
  have e := Option.some.inj e
  obtain ⟨q1, q2, q3, q4, q5⟩ := q
  simp only [Prod.mk.injEq] at e
  obtain ⟨rfl, rfl, rfl, rfl⟩ := e
  obtain ⟨i, hi, rfl⟩ : ∃ i, i < 3 ∧ k = 2000 + i := ⟨k - 2000, by omega, by omega⟩
  rw [Nat.add_sub_cancel_left] at hQ
  refine oh_ofW (cc := cJ0_indexOf_0f7a4) (maxL := 2) (ret := some .int) (show plainFor yJ0_indexOf_0f7a4 = true by decide +kernel) rfl ?_
  intro p e s m args below meth c s₁ B hml hv
  obtain ⟨rfl, hsz', hP, hAmb⟩ := hv
  subst hsz'
  have hx := B.exec
  have hb := B.bytes
  have hr := B.returns
  have hlocks := B.notSynchronized
  have hown : s.vm.findClass RJ0 = some m.cls := findClass_of_methodNamed B.named
  show W p l e (oh_rm (d + 1)) s m ([Value.ref (ad (2000 + i)), .int x] : List Value).toArray below meth c s.heap [] 0 0 (MQ below (oh_Qc D cI cR ad G Q s.heap.size) ([Value.ref (ad (2000 + i)), .int x] : List Value).toArray s 0 0 (oh_A ad G s.heap.size)) (entryFrame m ([Value.ref (ad (2000 + i)), .int x] : List Value).toArray 2)
  have hl := lv_entry ([.ref (ad (2000 + i)), .int x]) (n := 2) (Nat.le_of_ble_eq_true rfl)
  rw [lg_entry_eq]
  generalize (lg_sl ([.ref (ad (2000 + i)), .int x]) ++ List.replicate (2 - (lg_sl ([.ref (ad (2000 + i)), .int x])).length) Slot.unset).toArray = ls at hl ⊢
  have hl : lv_has ls 2 [(0, .ref (ad (2000 + i))), (1, .int x)] := hl
  refine lv_aload_n hx hb dJ0_indexOf_0f7a4_0 rfl (lv_at hl 0 rfl) (lv_iload_n hx hb dJ0_indexOf_0f7a4_1 rfl (lv_at hl 1 rfl) (lv_iconst (v := 0) hx hb dJ0_indexOf_0f7a4_2 (by decide) ?_))
  refine pr_callV (av := [.int x, .int 0]) (rest := []) hx hb hml hown hAmb hi (pr_indexOf2 hi) (oh_wd_i (ps := 475) (by decide +kernel)) (oh_wd_i (ps := 107) (by decide +kernel)) (oh_wd_i (ps := 472) (by decide +kernel)) (oh_wd_i (ps := 473) (by decide +kernel)) (oh_wd_i (ps := 474) (by decide +kernel)) rfl (show (parseMethodDescriptor yJ0_indexOf_7cf53.desc).map (fun d => d.parameters.length) = some 2 by decide +kernel) ⟨by show 2 + 1 ≤ d + 1; omega, by show 8 + (3 + 11) + 60 * 2 ≤ 60 * (d + 1); omega⟩ ⟨Nat.zero_le _, Nat.zero_le _⟩ hl.1 (Nat.le_of_ble_eq_true rfl) rfl dJ0_indexOf_0f7a4_3 ?_
  exact W.iret (v := oh_ixF x (oh_tx.getD i []) 0) hx hb hr (fun t ht hW => ⟨⟨some (.int (oh_ixF x (oh_tx.getD i []) 0)), h, rfl, hQ, by rw [ht]; exact hP⟩, va_S.rf.F ht⟩) (fun q hq => by cases hq) dJ0_indexOf_0f7a4_6 (hlocks := hlocks)

/-! THE LAW: its loop -/
def R_law : String := "OtherHatLaw"
def lw_P (b : Addr) (xs : List Int32) (args : Array Value) (s : State) : Prop := args = #[.ref b] ∧ s.IntsAt b xs ∧ xs.length ≤ 384 ∧ (Jvm.Cond.and given_1 narrow_1).before args s = true
def lw_Q (_ : Array Value) (s : State) (o : Outcome) (t : State) : Prop := o = .returned (some (.int 1)) ∧ Framed s o t [] 600000 7302250
def lw_Z (below : List Frame) (a : Array Value) (s : State) : State → Prop := fun t => ∃ o, t.status = .running ∧ Ended t below o ∧ lw_Q a s o t
/-- the law's own end, with 1 on the stack, nothing written that was there before, its room as the claim has it -/
theorem lw_ret {p : Program} {l : Launch} {e : Env} {s : State} {m : MethodId} {below : List Frame} {meth : Method} {c : Code} {b : Nat} (hx : p.tables.exec = Jvm.exec) (hb : c.code = code) (hr : meth.sig.returnType = ret) (hlocks : meth.locks = false) {pc : Nat} {H : Heap} {ls : Array Slot} (hdg : decode code pc = .ok (.ireturn, 1)) : W p l e room_1 s m #[Value.ref b] below meth c H [] 600000 7302250 (lw_Z below #[Value.ref b] s) (F0 m pc ls [.int 1]) := by
  intro T hT X
  obtain ⟨fs, hret, hrun, hended, hW, hframe⟩ := X.leave (v := some (.int 1)) (hlocks := hlocks) (fun h => by rw [hr] at h; cases h)
  have hmeth' : T.vm.method? m = some meth := X.method'
  refine ⟨T.setFrames fs, ?_, .returned (some (.int 1)), hrun, hended, rfl, ⟨_, rfl⟩, hW, hframe⟩
  jvm_step X.here [X.here.top, hx, hb, hdg, hmeth', hr, ret, narrow_b1]
  (try refine ⟨rfl, ?_⟩); (try refine ⟨rfl, ?_⟩)
  first | (intro acts; rw [hret _ acts rfl rfl rfl]) | rw [hret _ _ rfl rfl rfl]
  exact Steps.refl _
/-- what holds at the law's entry: the machine, the code, the tables' words (any of lw_tbl by 'hts w (by decide +kernel)'), the script of L ints xs at the cell b, what the Statement gives of the start (any of its parts by flat_of_before) -/
def lw_At (p : Program) (s : State) (m : MethodId) (meth : Method) (c : Code) (b L : Nat) (xs : Nat → Int32) : Prop :=
  p.tables.exec = Jvm.exec ∧ c.code = code ∧ meth.sig.returnType = ret ∧ c.maxLocals = 4 ∧ s.vm.findClass R_law = some m.cls ∧ (∀ w ∈ lw_tbl, w.before #[Value.ref b] s = true) ∧ va_X b L xs s s.heap ∧ b < s.heap.size ∧ meth.locks = false ∧ (Jvm.Cond.and given_1 narrow_1).before #[Value.ref b] s = true
theorem lw_offs : ∀ t : Nat, t < 38 → (#[167, 190, 223, 266, 299, 332, 355, 418, 441, 504, 517, 530, 553, 576, 599, 632, 665, 698, 721, 754, 787, 800, 833, 866, 889, 923, 946, 989, 1012, 1055, 1098, 1161, 1184, 1197, 1210, 1233, 1246, 1269] : Array Int)[t]? = some ((lw_tg.getD t 0 : Nat) - 33 : Int) := by decide +kernel
theorem lw_round {p : Program} {l : Launch} {e : Env} {s : State} {m : MethodId} {below : List Frame} {meth : Method} {c : Code} {cells slots : Nat} {b L : Nat} {xs : Nat → Int32} {D : va_G} {cI cR : ClassId} {adC adM : Nat → Nat} (C : lwX p l s m c b L xs D cI cR adC adM) (hcs : cells ≤ 600000 ∧ slots ≤ 7302250) (hr : meth.sig.returnType = ret) (hlocks : meth.locks = false) {i : Nat} {ls : Array Slot} {H : Heap} {locs : List Loc} {h k : oh_St} (hi : i ≤ 400) (hl : lv_has ls 4 [(0, .ref b), (1, .ref (adC 0)), (2, .ref (adM 0)), (3, .int (nI i))]) (I : lwI s D cI cR adC adM H locs h k)
    (ih : i + 6 ≤ L → ∀ (ls : Array Slot) (H : Heap) (locs : List Loc) (h k : oh_St), lv_has ls 4 [(0, .ref b), (1, .ref (adC 0)), (2, .ref (adM 0)), (3, .int (nI (i + 6)))] → lwI s D cI cR adC adM H locs h k → W p l e room_1 s m #[Value.ref b] below meth c H locs cells slots (lw_Z below #[Value.ref b] s) (F0 m 18 ls [])) : W p l e room_1 s m #[Value.ref b] below meth c H locs cells slots (lw_Z below #[Value.ref b] s) (F0 m 18 ls []) := by
  obtain ⟨⟨hx, hb, hml, hown⟩, ⟨hX, hbl, hL⟩, -⟩ := id C
  have hbA : ¬ (fun q : Nat => s.heap.size ≤ q) b := Nat.not_le.mpr hbl
  have hS := I.2.2.1
  refine lv_iload_n hx hb dL_law_18 rfl (lv_at hl 3 rfl) (lv_aload_n hx hb dL_law_19 rfl (lv_at hl 0 rfl) (va_slen hx hb hX hbl hbA hS dL_law_20 (lv_bipush (v := nI 6) hx hb dL_law_21 (by decide) (lv_isub hx hb dL_law_23 ?_))))
  refine lv_icmp_gt (tgt := 1331) hx hb dL_law_24 (by decide) (fun _ => ?_) (fun hc => ?_)
  · refine lv_iconst (v := 1) hx hb dL_law_1331 (by decide) ?_
    exact va_forget (fun q hq => hS.2.2 q hq) (W.widen (k := 600000) (n := 7302250) hcs.1 hcs.2 (lw_ret hx hb hr hlocks dL_law_1332))
  · have hc2 : i + 6 ≤ L := by
      have hc : ¬ nI L - nI 6 < nI i := hc
      rw [sub_lt2 (by omega) (by omega) (by omega)] at hc
      omega
    refine lv_aload_n hx hb dL_law_27 rfl (lv_at hl 0 rfl) (lv_iload_n hx hb dL_law_28 rfl (lv_at hl 3 rfl) (va_sld hx hb hX hbl hbA hS (oh_in (by omega) (by omega)) dL_law_29 ?_))
    rw [oh_cl (by omega)]
    refine lv_bipush (v := 63) hx hb dL_law_30 (by decide) (lv_iand hx hb dL_law_32 ?_)
    obtain ⟨t, ht, et⟩ := and_63 (xs i)
    rw [et]
    have nx : ∀ (h' k' : oh_St) (H1 : Heap) (locs1 : List Loc), lwI s D cI cR adC adM H1 locs1 h' k' → W p l e room_1 s m #[Value.ref b] below meth c H1 locs1 cells slots (lw_Z below #[Value.ref b] s) (F0 m 1325 ls []) := fun h' k' H1 locs1 I1 => by
      refine lv_iinc (v := nI (i + 6)) (k := 3) hx hb dL_law_1325 hl rfl ?_ (by omega) rfl (fun ls' hl' => lv_goto (tgt := 18) hx hb dL_law_1328 (by decide) (ih hc2 ls' H1 locs1 h' k' ?_ I1))
      · rw [show Int32.ofInt 6 = nI 6 from rfl, nI_add]
      · refine ⟨hl'.1, hl'.2.1, fun q hq => hl'.2.2 q ?_⟩
        simp only [List.mem_cons, List.not_mem_nil, or_false] at hq
        rcases hq with rfl | rfl | rfl | rfl
        · exact List.mem_of_getElem? (i := 1) rfl
        · exact List.mem_of_getElem? (i := 2) rfl
        · exact List.mem_of_getElem? (i := 3) rfl
        · exact List.mem_of_getElem? (i := 0) rfl
    have ti : (nI t).toInt = (t : Int) := nI_toInt (by omega)
    by_cases h38 : t < 38
    · refine lv_tableIn (off := (lw_tg.getD t 0 : Nat) - 33) (tgt := lw_tg.getD t 0) hx hb dL_law_33 (by rw [ti]; omega) (by rw [ti]; omega) (by rw [ti, Int.sub_zero, Int.toNat_natCast]; exact lw_offs t h38) (by omega) ?_
      exact lw_to C hcs hc2 hl I h38 nx
    · exact lv_tableOut (tgt := 1325) hx hb dL_law_33 (Or.inr (by rw [ti]; omega)) (by decide) (nx h k H locs I)
theorem lw_loop {p : Program} {l : Launch} {e : Env} {s : State} {m : MethodId} {below : List Frame} {meth : Method} {c : Code} {cells slots : Nat} {b L : Nat} {xs : Nat → Int32} {D : va_G} {cI cR : ClassId} {adC adM : Nat → Nat} (C : lwX p l s m c b L xs D cI cR adC adM) (hcs : cells ≤ 600000 ∧ slots ≤ 7302250) (hr : meth.sig.returnType = ret) (hlocks : meth.locks = false) : ∀ (n i : Nat) (ls : Array Slot) (H : Heap) (locs : List Loc) (h k : oh_St), L < i + n → i ≤ L → lv_has ls 4 [(0, .ref b), (1, .ref (adC 0)), (2, .ref (adM 0)), (3, .int (nI i))] → lwI s D cI cR adC adM H locs h k → W p l e room_1 s m #[Value.ref b] below meth c H locs cells slots (lw_Z below #[Value.ref b] s) (F0 m 18 ls []) := by
  intro n
  induction n with
  | zero => intro i ls H locs h k hn hi; exact absurd hn (by omega)
  | succ n ih =>
    intro i ls H locs h k hn hi hl I
    exact lw_round C hcs hr hlocks (Nat.le_trans hi (Nat.le_trans C.2.1.2.2 (by omega))) hl I (fun h6 ls' H' locs' h' k' hl' I' => ih (i + 6) ls' H' locs' h' k' (by omega) h6 hl' I')

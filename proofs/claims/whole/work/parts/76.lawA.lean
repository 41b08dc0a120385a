/-! THE LAW: its cases, by program (wip/whole/gen5.py) -/
theorem dL_law_0 : decode cL_law 0 = .ok (.new 7, 3) := by decide +kernel
theorem dL_law_3 : decode cL_law 3 = .ok (.dup, 1) := by decide +kernel
theorem dL_law_4 : decode cL_law 4 = .ok (.invokespecial 9, 3) := by decide +kernel
theorem dL_law_7 : decode cL_law 7 = .ok (.astore_n 1, 1) := by decide +kernel
theorem dL_law_8 : decode cL_law 8 = .ok (.new 10, 3) := by decide +kernel
theorem dL_law_11 : decode cL_law 11 = .ok (.dup, 1) := by decide +kernel
theorem dL_law_12 : decode cL_law 12 = .ok (.invokespecial 12, 3) := by decide +kernel
theorem dL_law_15 : decode cL_law 15 = .ok (.astore_n 2, 1) := by decide +kernel
theorem dL_law_16 : decode cL_law 16 = .ok (.iconst 0, 1) := by decide +kernel
theorem dL_law_17 : decode cL_law 17 = .ok (.istore_n 3, 1) := by decide +kernel
theorem dL_law_18 : decode cL_law 18 = .ok (.iload_n 3, 1) := by decide +kernel
theorem dL_law_19 : decode cL_law 19 = .ok (.aload_n 0, 1) := by decide +kernel
theorem dL_law_20 : decode cL_law 20 = .ok (.arraylength, 1) := by decide +kernel
theorem dL_law_21 : decode cL_law 21 = .ok (.bipush 6, 2) := by decide +kernel
theorem dL_law_23 : decode cL_law 23 = .ok (.isub, 1) := by decide +kernel
theorem dL_law_24 : decode cL_law 24 = .ok (.if_icmp .gt 1307, 3) := by decide +kernel
theorem dL_law_27 : decode cL_law 27 = .ok (.aload_n 0, 1) := by decide +kernel
theorem dL_law_28 : decode cL_law 28 = .ok (.iload_n 3, 1) := by decide +kernel
theorem dL_law_29 : decode cL_law 29 = .ok (.iaload, 1) := by decide +kernel
theorem dL_law_30 : decode cL_law 30 = .ok (.bipush 63, 2) := by decide +kernel
theorem dL_law_32 : decode cL_law 32 = .ok (.iand, 1) := by decide +kernel
theorem dL_law_33 : decode cL_law 33 = .ok (.tableswitch 1292 0 37 #[167, 190, 223, 266, 299, 332, 355, 418, 441, 504, 517, 530, 553, 576, 599, 632, 665, 698, 721, 754, 787, 800, 833, 866, 889, 923, 946, 989, 1012, 1055, 1098, 1161, 1184, 1197, 1210, 1233, 1246, 1269], 167) := by decide +kernel
theorem dL_law_388 : decode cL_law 388 = .ok (.aload_n 1, 1) := by decide +kernel
theorem dL_law_389 : decode cL_law 389 = .ok (.aload_n 0, 1) := by decide +kernel
theorem dL_law_390 : decode cL_law 390 = .ok (.iload_n 3, 1) := by decide +kernel
theorem dL_law_391 : decode cL_law 391 = .ok (.iconst 1, 1) := by decide +kernel
theorem dL_law_392 : decode cL_law 392 = .ok (.iadd, 1) := by decide +kernel
theorem dL_law_393 : decode cL_law 393 = .ok (.iaload, 1) := by decide +kernel
theorem dL_law_394 : decode cL_law 394 = .ok (.i2l, 1) := by decide +kernel
theorem dL_law_395 : decode cL_law 395 = .ok (.bipush 32, 2) := by decide +kernel
theorem dL_law_397 : decode cL_law 397 = .ok (.lshl, 1) := by decide +kernel
theorem dL_law_398 : decode cL_law 398 = .ok (.aload_n 0, 1) := by decide +kernel
theorem dL_law_399 : decode cL_law 399 = .ok (.iload_n 3, 1) := by decide +kernel
theorem dL_law_400 : decode cL_law 400 = .ok (.iconst 2, 1) := by decide +kernel
theorem dL_law_401 : decode cL_law 401 = .ok (.iadd, 1) := by decide +kernel
theorem dL_law_402 : decode cL_law 402 = .ok (.iaload, 1) := by decide +kernel
theorem dL_law_403 : decode cL_law 403 = .ok (.i2l, 1) := by decide +kernel
theorem dL_law_404 : decode cL_law 404 = .ok (.ldc2_w 40, 3) := by decide +kernel
theorem dL_law_407 : decode cL_law 407 = .ok (.land, 1) := by decide +kernel
theorem dL_law_408 : decode cL_law 408 = .ok (.lor, 1) := by decide +kernel
theorem dL_law_409 : decode cL_law 409 = .ok (.aload_n 0, 1) := by decide +kernel
theorem dL_law_410 : decode cL_law 410 = .ok (.iload_n 3, 1) := by decide +kernel
theorem dL_law_411 : decode cL_law 411 = .ok (.iconst 3, 1) := by decide +kernel
theorem dL_law_412 : decode cL_law 412 = .ok (.iadd, 1) := by decide +kernel
theorem dL_law_413 : decode cL_law 413 = .ok (.iaload, 1) := by decide +kernel
theorem dL_law_414 : decode cL_law 414 = .ok (.invokevirtual 42, 3) := by decide +kernel
theorem dL_law_417 : decode cL_law 417 = .ok (.aload_n 2, 1) := by decide +kernel
theorem dL_law_418 : decode cL_law 418 = .ok (.aload_n 0, 1) := by decide +kernel
theorem dL_law_419 : decode cL_law 419 = .ok (.iload_n 3, 1) := by decide +kernel
theorem dL_law_420 : decode cL_law 420 = .ok (.iconst 1, 1) := by decide +kernel
theorem dL_law_421 : decode cL_law 421 = .ok (.iadd, 1) := by decide +kernel
theorem dL_law_422 : decode cL_law 422 = .ok (.iaload, 1) := by decide +kernel
theorem dL_law_423 : decode cL_law 423 = .ok (.i2l, 1) := by decide +kernel
theorem dL_law_424 : decode cL_law 424 = .ok (.bipush 32, 2) := by decide +kernel
theorem dL_law_426 : decode cL_law 426 = .ok (.lshl, 1) := by decide +kernel
theorem dL_law_427 : decode cL_law 427 = .ok (.aload_n 0, 1) := by decide +kernel
theorem dL_law_428 : decode cL_law 428 = .ok (.iload_n 3, 1) := by decide +kernel
theorem dL_law_429 : decode cL_law 429 = .ok (.iconst 2, 1) := by decide +kernel
theorem dL_law_430 : decode cL_law 430 = .ok (.iadd, 1) := by decide +kernel
theorem dL_law_431 : decode cL_law 431 = .ok (.iaload, 1) := by decide +kernel
theorem dL_law_432 : decode cL_law 432 = .ok (.i2l, 1) := by decide +kernel
theorem dL_law_433 : decode cL_law 433 = .ok (.ldc2_w 40, 3) := by decide +kernel
theorem dL_law_436 : decode cL_law 436 = .ok (.land, 1) := by decide +kernel
theorem dL_law_437 : decode cL_law 437 = .ok (.lor, 1) := by decide +kernel
theorem dL_law_438 : decode cL_law 438 = .ok (.aload_n 0, 1) := by decide +kernel
theorem dL_law_439 : decode cL_law 439 = .ok (.iload_n 3, 1) := by decide +kernel
theorem dL_law_440 : decode cL_law 440 = .ok (.iconst 3, 1) := by decide +kernel
theorem dL_law_441 : decode cL_law 441 = .ok (.iadd, 1) := by decide +kernel
theorem dL_law_442 : decode cL_law 442 = .ok (.iaload, 1) := by decide +kernel
theorem dL_law_443 : decode cL_law 443 = .ok (.invokevirtual 46, 3) := by decide +kernel
theorem dL_law_446 : decode cL_law 446 = .ok (.if_icmp .eq 879, 3) := by decide +kernel
theorem dL_law_449 : decode cL_law 449 = .ok (.iconst 0, 1) := by decide +kernel
theorem dL_law_450 : decode cL_law 450 = .ok (.ireturn, 1) := by decide +kernel
theorem dL_law_922 : decode cL_law 922 = .ok (.aload_n 1, 1) := by decide +kernel
theorem dL_law_923 : decode cL_law 923 = .ok (.aload_n 0, 1) := by decide +kernel
theorem dL_law_924 : decode cL_law 924 = .ok (.iload_n 3, 1) := by decide +kernel
theorem dL_law_925 : decode cL_law 925 = .ok (.iconst 1, 1) := by decide +kernel
theorem dL_law_926 : decode cL_law 926 = .ok (.iadd, 1) := by decide +kernel
theorem dL_law_927 : decode cL_law 927 = .ok (.iaload, 1) := by decide +kernel
theorem dL_law_928 : decode cL_law 928 = .ok (.aload_n 0, 1) := by decide +kernel
theorem dL_law_929 : decode cL_law 929 = .ok (.iload_n 3, 1) := by decide +kernel
theorem dL_law_930 : decode cL_law 930 = .ok (.iconst 2, 1) := by decide +kernel
theorem dL_law_931 : decode cL_law 931 = .ok (.iadd, 1) := by decide +kernel
theorem dL_law_932 : decode cL_law 932 = .ok (.iaload, 1) := by decide +kernel
theorem dL_law_933 : decode cL_law 933 = .ok (.invokevirtual 117, 3) := by decide +kernel
theorem dL_law_936 : decode cL_law 936 = .ok (.aload_n 2, 1) := by decide +kernel
theorem dL_law_937 : decode cL_law 937 = .ok (.aload_n 0, 1) := by decide +kernel
theorem dL_law_938 : decode cL_law 938 = .ok (.iload_n 3, 1) := by decide +kernel
theorem dL_law_939 : decode cL_law 939 = .ok (.iconst 1, 1) := by decide +kernel
theorem dL_law_940 : decode cL_law 940 = .ok (.iadd, 1) := by decide +kernel
theorem dL_law_941 : decode cL_law 941 = .ok (.iaload, 1) := by decide +kernel
theorem dL_law_942 : decode cL_law 942 = .ok (.aload_n 0, 1) := by decide +kernel
theorem dL_law_943 : decode cL_law 943 = .ok (.iload_n 3, 1) := by decide +kernel
theorem dL_law_944 : decode cL_law 944 = .ok (.iconst 2, 1) := by decide +kernel
theorem dL_law_945 : decode cL_law 945 = .ok (.iadd, 1) := by decide +kernel
theorem dL_law_946 : decode cL_law 946 = .ok (.iaload, 1) := by decide +kernel
theorem dL_law_947 : decode cL_law 947 = .ok (.invokevirtual 121, 3) := by decide +kernel
theorem dL_law_950 : decode cL_law 950 = .ok (.lcmp, 1) := by decide +kernel
theorem dL_law_951 : decode cL_law 951 = .ok (.ifCond .eq 374, 3) := by decide +kernel
theorem dL_law_954 : decode cL_law 954 = .ok (.iconst 0, 1) := by decide +kernel
theorem dL_law_955 : decode cL_law 955 = .ok (.ireturn, 1) := by decide +kernel
theorem dL_law_1325 : decode cL_law 1325 = .ok (.iinc 3 6, 3) := by decide +kernel
theorem dL_law_1328 : decode cL_law 1328 = .ok (.goto (-1310), 3) := by decide +kernel
theorem dL_law_1331 : decode cL_law 1331 = .ok (.iconst 1, 1) := by decide +kernel
theorem dL_law_1332 : decode cL_law 1332 = .ok (.ireturn, 1) := by decide +kernel
def lw_ckC (pc : Nat) (ks : List Nat) (xc xm : Nat) : Bool := decide (decode code pc = .ok (.aload_n 1, 1)) && (lw_ckA (pc + 1) ks && (decide (decode code (pc + 1 + 5 * ks.length) = .ok (.invokevirtual xc, 3)) && (decide (decode code (pc + 1 + 5 * ks.length + 3) = .ok (.aload_n 2, 1)) && (lw_ckA (pc + 1 + 5 * ks.length + 3 + 1) ks && (decide (decode code (pc + 1 + 5 * ks.length + 3 + 1 + 5 * ks.length) = .ok (.invokevirtual xm, 3)) && decide (decode code (pc + 1 + 5 * ks.length + 3 + 1 + 5 * ks.length + 3) = .ok (.if_icmp .eq (1325 - ((pc + 1 + 5 * ks.length + 3 + 1 + 5 * ks.length + 3 : Nat) : Int)), 3)))))))
/-- what stands throughout the law -/
def lwX (p : Program) (l : Launch) (s : State) (m : MethodId) (c : Code) (b L : Nat) (xs : Nat → Int32) (D : va_G) (cI cR : ClassId) (adC adM : Nat → Nat) : Prop :=
  (p.tables.exec = Jvm.exec ∧ c.code = code ∧ c.maxLocals = 4 ∧ s.vm.findClass RL = some m.cls) ∧ (va_X b L xs s s.heap ∧ b < s.heap.size ∧ L ≤ 384) ∧ (oh_Amb D cI cR adC s.heap.size s s.heap ∧ oh_Amb D cI cR adM s.heap.size s s.heap) ∧ (oh_Ms l D cI cR adC s.heap.size GC oh_mi 100 (oh_mwp GC oh_M 100) ∧ oh_Ms l D cI cR adM s.heap.size GM oh_mi 100 (oh_mwp GM oh_M 100)) ∧ (∀ i, i < 60 → s.heap.size ≤ adC i) ∧ (∀ i, i < 15 → s.heap.size ≤ adM i) ∧ ∀ i j, i < 60 → j < 15 → adC i ≠ adM j
/-- class and model beside each other -/
def lwI (s : State) (D : va_G) (cI cR : ClassId) (adC adM : Nat → Nat) (H : Heap) (locs : List Loc) (h k : oh_St) : Prop := va_P D vwCl (oh_W cI cR adC GC h) H ∧ va_P D vwCl (oh_W cI cR adM GM k) H ∧ va_S (fun q => s.heap.size ≤ q) s.heap H locs ∧ R h k
theorem GC_len : GC.length = 60 := by decide +kernel
theorem GM_len : GM.length = 15 := by decide +kernel
section LWS
variable {p : Program} {l : Launch} {e : Env} {s : State} {m : MethodId} {args : Array Value} {below : List Frame} {meth : Method} {c : Code} {H : Heap} {locs : List Loc} {cells slots : Nat} {Q : State → Prop} {b L : Nat} {xs : Nat → Int32} {D : va_G} {cI cR : ClassId} {adC adM : Nat → Nat} {ls : Array Slot} {h k : oh_St}
theorem lw_callC {j x pc : Nat} {q : oh_MI} {av st0 rest : List Value} {Qo : oh_Q} (C : lwX p l s m c b L xs D cI cR adC adM) (hcs : cells ≤ 600000 ∧ slots ≤ 7302250) (hq : oh_nth oh_mi j = some q) (hstc : q.2.2.2.2.1 = false) (hcl : q.1.cls = RX7) (wl : Cond.methodLink RL x q.1 ∈ lw_tbl ∧ oh_okw (.methodLink RL x q.1) = true) (hdes : (parseMethodDescriptor q.1.desc).map (fun d => d.parameters.length) = some av.length)
    (hE : oh_mwp GC oh_M 100 j (.ref 0 :: av) h Qo) (hP : va_P D vwCl (oh_W cI cR adC GC h) H) (hS : va_S (fun q => s.heap.size ≤ q) s.heap H locs) (hPo : va_P D vwCl (oh_W cI cR adM GM k) H) (hsz : ls.size = 4) (hcat : (rest.map fun v => v.category).sum ≤ 8) (hst : st0 = (av.map (oh_V adC)).reverse ++ .ref (adC 0) :: rest) (hdg : decode code pc = .ok (.invokevirtual x, 3))
    (kk : ∀ (r : Option Value) (h' : oh_St) (H1 : Heap) (locs1 : List Loc), Qo r h' → va_P D vwCl (oh_W cI cR adC GC h') H1 → va_P D vwCl (oh_W cI cR adM GM k) H1 → va_S (fun q => s.heap.size ≤ q) s.heap H1 locs1 → W p l e room_1 s m args below meth c H1 locs1 cells slots Q (F0 m (pc + 3) ls ((r.map (oh_V adC)).toList ++ rest))) : W p l e room_1 s m args below meth c H locs cells slots Q (F0 m pc ls st0) := by
  obtain ⟨⟨hx, hb, hml, hown⟩, ⟨hX, hbl, hL⟩, ⟨aC, aM⟩, ⟨mC, mM⟩, bC, bM, dis⟩ := C
  have hmL := (oh_ckM_i (oh_mi_ok j q hq)).2.2.2.2.2
  refine lw_call (A := fun q => s.heap.size ≤ q) (ci := 7) (T := TX7) (N := 8) hx hb hml hown aC (fun _ h => h) (Nat.le_refl _) mC hq hstc wl hdes rfl (by rw [hcl]; rfl) hE hP hS (fun _ h => h) (fun i hi => bC i (by rw [← GC_len]; exact hi)) hPo (fun k9 y hy i hi => ?_) ⟨by show 100 + 1 ≤ 2048; omega, by show 8 + (q.2.2.1 + 11) + 60 * 100 ≤ 84000; omega⟩ hcs hsz hcat hst hdg kk
  obtain ⟨a1, a2⟩ := oh_W_inv hy
  rw [a2]
  exact fun z => dis i k9 (by rw [← GC_len]; exact hi) (by rw [← GM_len]; exact a1) z.symm
theorem lw_callM {j x pc : Nat} {q : oh_MI} {av st0 rest : List Value} {Qo : oh_Q} (C : lwX p l s m c b L xs D cI cR adC adM) (hcs : cells ≤ 600000 ∧ slots ≤ 7302250) (hq : oh_nth oh_mi j = some q) (hstc : q.2.2.2.2.1 = false) (hcl : q.1.cls = RX8) (wl : Cond.methodLink RL x q.1 ∈ lw_tbl ∧ oh_okw (.methodLink RL x q.1) = true) (hdes : (parseMethodDescriptor q.1.desc).map (fun d => d.parameters.length) = some av.length)
    (hE : oh_mwp GM oh_M 100 j (.ref 0 :: av) k Qo) (hP : va_P D vwCl (oh_W cI cR adM GM k) H) (hS : va_S (fun q => s.heap.size ≤ q) s.heap H locs) (hPo : va_P D vwCl (oh_W cI cR adC GC h) H) (hsz : ls.size = 4) (hcat : (rest.map fun v => v.category).sum ≤ 8) (hst : st0 = (av.map (oh_V adM)).reverse ++ .ref (adM 0) :: rest) (hdg : decode code pc = .ok (.invokevirtual x, 3))
    (kk : ∀ (r : Option Value) (k' : oh_St) (H1 : Heap) (locs1 : List Loc), Qo r k' → va_P D vwCl (oh_W cI cR adM GM k') H1 → va_P D vwCl (oh_W cI cR adC GC h) H1 → va_S (fun q => s.heap.size ≤ q) s.heap H1 locs1 → W p l e room_1 s m args below meth c H1 locs1 cells slots Q (F0 m (pc + 3) ls ((r.map (oh_V adM)).toList ++ rest))) : W p l e room_1 s m args below meth c H locs cells slots Q (F0 m pc ls st0) := by
  obtain ⟨⟨hx, hb, hml, hown⟩, ⟨hX, hbl, hL⟩, ⟨aC, aM⟩, ⟨mC, mM⟩, bC, bM, dis⟩ := C
  have hmL := (oh_ckM_i (oh_mi_ok j q hq)).2.2.2.2.2
  refine lw_call (A := fun q => s.heap.size ≤ q) (ci := 8) (T := TX8) (N := 26) hx hb hml hown aM (fun _ h => h) (Nat.le_refl _) mM hq hstc wl hdes rfl (by rw [hcl]; rfl) hE hP hS (fun _ h => h) (fun i hi => bM i (by rw [← GM_len]; exact hi)) hPo (fun k9 y hy i hi => ?_) ⟨by show 100 + 1 ≤ 2048; omega, by show 8 + (q.2.2.1 + 11) + 60 * 100 ≤ 84000; omega⟩ hcs hsz hcat hst hdg kk
  obtain ⟨a1, a2⟩ := oh_W_inv hy
  rw [a2]
  exact fun z => dis k9 i (by rw [← GC_len]; exact a1) (by rw [← GM_len]; exact hi) z
theorem lw_ints (f : Nat → Int32) (ad : Nat → Nat) (ks : List Nat) : (ks.map (fun k => Value.int (f k))).map (oh_V ad) = ks.map (fun k => Value.int (f k)) := by
  rw [List.map_map]
  rfl
theorem lw_case {pc i : Nat} (ks : List Nat) (xc xm : Nat) {jc jm : Nat} {qc qm : oh_MI} (C : lwX p l s m c b L xs D cI cR adC adM) (hcs : cells ≤ 600000 ∧ slots ≤ 7302250) (hi : i + 6 ≤ L) (hl : lv_has ls 4 [(0, .ref b), (1, .ref (adC 0)), (2, .ref (adM 0)), (3, .int (nI i))]) (I : lwI s D cI cR adC adM H locs h k) (hqc : oh_nth oh_mi jc = some qc) (hqm : oh_nth oh_mi jm = some qm) (hs : qc.2.2.2.2.1 = false ∧ qm.2.2.2.2.1 = false ∧ qc.1.cls = RX7 ∧ qm.1.cls = RX8) (wc : Cond.methodLink RL xc qc.1 ∈ lw_tbl ∧ oh_okw (.methodLink RL xc qc.1) = true) (wm : Cond.methodLink RL xm qm.1 ∈ lw_tbl ∧ oh_okw (.methodLink RL xm qm.1) = true)
    (hd : (parseMethodDescriptor qc.1.desc).map (fun d => d.parameters.length) = some ks.length ∧ (parseMethodDescriptor qm.1.desc).map (fun d => d.parameters.length) = some ks.length) (ck : lw_ckC pc ks xc xm = true) (both : Both jc jm (ks.map (fun k => Value.int (xs (i + k)))) h k)
    (nx : ∀ (h' k' : oh_St) (H1 : Heap) (locs1 : List Loc), lwI s D cI cR adC adM H1 locs1 h' k' → W p l e room_1 s m args below meth c H1 locs1 cells slots Q (F0 m 1325 ls [])) : W p l e room_1 s m args below meth c H locs cells slots Q (F0 m pc ls []) := by
  obtain ⟨⟨hx, hb, hml, hown⟩, ⟨hX, hbl, hL⟩, -⟩ := id C
  have hbA : ¬ (fun q : Nat => s.heap.size ≤ q) b := Nat.not_le.mpr hbl
  obtain ⟨hP, hPm, hS, -⟩ := I
  unfold lw_ckC at ck
  simp only [Bool.and_eq_true, decide_eq_true_eq] at ck
  obtain ⟨d0, cA, d1, d2, cB, d3, d4⟩ := ck
  refine lv_aload_n hx hb d0 rfl (lv_at hl 1 rfl) (lw_push hx hb hX hbl hbA hS hL hi hl ks (pc + 1) _ cA ?_)
  refine lw_callC (av := ks.map (fun k => Value.int (xs (i + k)))) (rest := []) C hcs hqc hs.1 hs.2.2.1 wc (by rw [hd.1]; simp) (both 0) hP hS hPm hl.1 (Nat.zero_le _) (by rw [lw_ints (fun k => xs (i + k))]) d1 (fun r h' H1 locs1 hq hP1 hPm1 hS1 => ?_)
  obtain ⟨x, rfl, hM⟩ := oh_r1_i hq
  show W p l e room_1 s m args below meth c H1 locs1 cells slots Q (F0 m (pc + 1 + 5 * ks.length + 3) ls [.int x])
  refine lv_aload_n hx hb d2 rfl (lv_at hl 2 rfl) (lw_push hx hb hX hbl hbA hS1 hL hi hl ks (pc + 1 + 5 * ks.length + 3 + 1) _ cB ?_)
  refine lw_callM (av := ks.map (fun k => Value.int (xs (i + k)))) (rest := [.int x]) C hcs hqm hs.2.1 hs.2.2.2 wm (by rw [hd.2]; simp) hM hPm1 hS1 hP1 hl.1 (by show 1 + 0 ≤ 8; omega) (by rw [lw_ints (fun k => xs (i + k))]) d3 (fun r2 k' H2 locs2 hq2 hPm2 hP2 hS2 => ?_)
  obtain ⟨y, rfl, exy, HR⟩ := oh_r1_i hq2
  show W p l e room_1 s m args below meth c H2 locs2 cells slots Q (F0 m (pc + 1 + 5 * ks.length + 3 + 1 + 5 * ks.length + 3) ls [.int y, .int x])
  exact lv_icmp_eq (tgt := 1325) hx hb d4 (by omega) (fun _ => nx h' k' H2 locs2 ⟨hP2, hPm2, hS2, HR⟩) (fun z => absurd exy z)

theorem lw_odds {i : Nat} (C : lwX p l s m c b L xs D cI cR adC adM) (hcs : cells ≤ 600000 ∧ slots ≤ 7302250) (hi : i + 6 ≤ L) (hl : lv_has ls 4 [(0, .ref b), (1, .ref (adC 0)), (2, .ref (adM 0)), (3, .int (nI i))]) (I : lwI s D cI cR adC adM H locs h k)
    (nx : ∀ (h' k' : oh_St) (H1 : Heap) (locs1 : List Loc), lwI s D cI cR adC adM H1 locs1 h' k' → W p l e room_1 s m args below meth c H1 locs1 cells slots Q (F0 m 1325 ls [])) : W p l e room_1 s m args below meth c H locs cells slots Q (F0 m 922 ls []) := by
  obtain ⟨⟨hx, hb, hml, hown⟩, ⟨hX, hbl, hL⟩, -⟩ := id C
  have hbA : ¬ (fun q : Nat => s.heap.size ≤ q) b := Nat.not_le.mpr hbl
  obtain ⟨hP, hPm, hS, HR0⟩ := I
  refine lv_aload_n hx hb dL_law_922 rfl (lv_at hl 1 rfl) (lw_push hx hb hX hbl hbA hS hL hi hl [1, 2] 923 _ (by decide +kernel) ?_)
  refine lw_callC (j := jX7_odds) (x := 117) (av := [.int (xs (i + 1)), .int (xs (i + 2))]) (rest := []) C hcs rfl rfl rfl (oh_wd_i (ps := 784) (by decide +kernel)) (show (parseMethodDescriptor yX7_odds.desc).map (fun d => d.parameters.length) = some 2 by decide +kernel) (p_odds HR0 0) hP hS hPm hl.1 (Nat.zero_le _) rfl dL_law_933 (fun r h' H1 locs1 hq hP1 hPm1 hS1 => ?_)
  obtain ⟨x, rfl, hM⟩ := oh_r2_i hq
  show W p l e room_1 s m args below meth c H1 locs1 cells slots Q (F0 m 936 ls [.long x])
  refine lv_aload_n hx hb dL_law_936 rfl (lv_at hl 2 rfl) (lw_push hx hb hX hbl hbA hS1 hL hi hl [1, 2] 937 _ (by decide +kernel) ?_)
  refine lw_callM (j := jX8_odds) (x := 121) (av := [.int (xs (i + 1)), .int (xs (i + 2))]) (rest := [.long x]) C hcs rfl rfl rfl (oh_wd_i (ps := 1272) (by decide +kernel)) (show (parseMethodDescriptor yX8_odds.desc).map (fun d => d.parameters.length) = some 2 by decide +kernel) hM hPm1 hS1 hP1 hl.1 (by show 2 + 0 ≤ 8; omega) rfl dL_law_947 (fun r2 k' H2 locs2 hq2 hPm2 hP2 hS2 => ?_)
  obtain ⟨y, rfl, exy, HR⟩ := oh_r2_i hq2
  show W p l e room_1 s m args below meth c H2 locs2 cells slots Q (F0 m 950 ls [.long y, .long x])
  refine W.lcmp hx hb dL_law_950 ?_
  refine lv_if_eq (tgt := 1325) hx hb dL_law_951 (by decide) (fun _ => nx h' k' H2 locs2 ⟨hP2, hPm2, hS2, HR⟩) (fun z => absurd ((oh_cmp0 x y).mpr exy) z)
theorem lw_feed {i : Nat} (C : lwX p l s m c b L xs D cI cR adC adM) (hcs : cells ≤ 600000 ∧ slots ≤ 7302250) (hi : i + 6 ≤ L) (hl : lv_has ls 4 [(0, .ref b), (1, .ref (adC 0)), (2, .ref (adM 0)), (3, .int (nI i))]) (I : lwI s D cI cR adC adM H locs h k)
    (nx : ∀ (h' k' : oh_St) (H1 : Heap) (locs1 : List Loc), lwI s D cI cR adC adM H1 locs1 h' k' → W p l e room_1 s m args below meth c H1 locs1 cells slots Q (F0 m 1325 ls [])) : W p l e room_1 s m args below meth c H locs cells slots Q (F0 m 388 ls []) := by
  obtain ⟨⟨hx, hb, hml, hown⟩, ⟨hX, hbl, hL⟩, ⟨aC, aM⟩, -⟩ := id C
  have hbA : ¬ (fun q : Nat => s.heap.size ≤ q) b := Nat.not_le.mpr hbl
  obtain ⟨hP, hPm, hS, HR0⟩ := I
  refine lv_aload_n hx hb dL_law_388 rfl (lv_at hl 1 rfl) ?_
  refine lw_push hx hb hX hbl hbA hS hL hi hl [1] 389 _ (by decide +kernel) ?_
  refine lv_i2l (v := (xs (i + 1)).toInt64) hx hb dL_law_394 rfl (lv_bipush (v := 32) hx hb dL_law_395 (by decide) (lv_lshl (v := (xs (i + 1)).toInt64 <<< ((32 : Int32).toInt64 &&& 63)) hx hb dL_law_397 rfl ?_))
  refine lw_push hx hb hX hbl hbA hS hL hi hl [2] 398 _ (by decide +kernel) ?_
  refine lv_i2l (v := (xs (i + 2)).toInt64) hx hb dL_law_403 rfl (lv_ldc2 (v := 4294967295) hx hb hown (oh_Ab aC (oh_wd_i (ps := 1359) (by decide +kernel))) dL_law_404 (lv_land hx hb dL_law_407 (lv_lor hx hb dL_law_408 ?_)))
  refine lw_push hx hb hX hbl hbA hS hL hi hl [3] 409 _ (by decide +kernel) ?_
  refine lw_callC (j := jX7_feed) (x := 42) (av := [.long (((xs (i + 1)).toInt64 <<< ((32 : Int32).toInt64 &&& 63)) ||| ((xs (i + 2)).toInt64 &&& 4294967295)), .int (xs (i + 3))]) (rest := []) C hcs rfl rfl rfl (oh_wd_i (ps := 404) (by decide +kernel)) (show (parseMethodDescriptor yX7_feed.desc).map (fun d => d.parameters.length) = some 2 by decide +kernel) (p_feed HR0 0) hP hS hPm hl.1 (Nat.zero_le _) rfl dL_law_414 (fun r h' H1 locs1 hq hP1 hPm1 hS1 => ?_)
  obtain ⟨x, rfl, hM⟩ := oh_r1_i hq
  show W p l e room_1 s m args below meth c H1 locs1 cells slots Q (F0 m 417 ls [.int x])
  refine lv_aload_n hx hb dL_law_417 rfl (lv_at hl 2 rfl) ?_
  refine lw_push hx hb hX hbl hbA hS1 hL hi hl [1] 418 _ (by decide +kernel) ?_
  refine lv_i2l (v := (xs (i + 1)).toInt64) hx hb dL_law_423 rfl (lv_bipush (v := 32) hx hb dL_law_424 (by decide) (lv_lshl (v := (xs (i + 1)).toInt64 <<< ((32 : Int32).toInt64 &&& 63)) hx hb dL_law_426 rfl ?_))
  refine lw_push hx hb hX hbl hbA hS1 hL hi hl [2] 427 _ (by decide +kernel) ?_
  refine lv_i2l (v := (xs (i + 2)).toInt64) hx hb dL_law_432 rfl (lv_ldc2 (v := 4294967295) hx hb hown (oh_Ab aC (oh_wd_i (ps := 1359) (by decide +kernel))) dL_law_433 (lv_land hx hb dL_law_436 (lv_lor hx hb dL_law_437 ?_)))
  refine lw_push hx hb hX hbl hbA hS1 hL hi hl [3] 438 _ (by decide +kernel) ?_
  refine lw_callM (j := jX8_feed) (x := 46) (av := [.long (((xs (i + 1)).toInt64 <<< ((32 : Int32).toInt64 &&& 63)) ||| ((xs (i + 2)).toInt64 &&& 4294967295)), .int (xs (i + 3))]) (rest := [.int x]) C hcs rfl rfl rfl (oh_wd_i (ps := 979) (by decide +kernel)) (show (parseMethodDescriptor yX8_feed.desc).map (fun d => d.parameters.length) = some 2 by decide +kernel) hM hPm1 hS1 hP1 hl.1 (by show 1 + 0 ≤ 8; omega) rfl dL_law_443 (fun r2 k' H2 locs2 hq2 hPm2 hP2 hS2 => ?_)
  obtain ⟨y, rfl, exy, HR⟩ := oh_r1_i hq2
  show W p l e room_1 s m args below meth c H2 locs2 cells slots Q (F0 m 446 ls [.int y, .int x])
  exact lv_icmp_eq (tgt := 1325) hx hb dL_law_446 (by decide) (fun _ => nx h' k' H2 locs2 ⟨hP2, hPm2, hS2, HR⟩) (fun z => absurd exy z)
end LWS

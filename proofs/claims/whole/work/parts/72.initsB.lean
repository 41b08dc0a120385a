/-! CONSTRUCTORS, by program (wip/whole/gen4.py) -/
set_option maxRecDepth 100000 in
set_option maxHeartbeats 8000000 in
theorem oc_X0 {l : Launch} {D : va_G} {cI cR : ClassId} {ad : Nat → Nat} {b0 : Nat} : oc_M l D cI cR ad b0 yX0_init cX0_init 1 3 17 349 0 [.null, .null, .null, .null, .null, .int 0] [] (cBook cI) := by
  intro h0 sz hsz
  refine oh_ofW (cc := cX0_init) (maxL := 1) (ret := none) (by decide +kernel) rfl ?_
  intro p e s m args below meth c s₁ B hml hv
  obtain ⟨rfl, hsz2, hP, hD0, hAmb, hAO⟩ := hv
  have hx := B.exec
  have hb := B.bytes
  have hr := B.returns
  have hlocks := B.notSynchronized
  have hown : s.vm.findClass RX0 = some m.cls := findClass_of_methodNamed B.named
  have hin : meth.name = "<init>" := (name_of_methodNamed B.named B.method).1
  subst hsz2
  have hD := hD0.self (sz := s.heap.size)
  have hAB : ∀ x, va_A [(h0, .inr (0, [.null, .null, .null, .null, .null, .int 0]))] s.heap.size x → b0 ≤ x := fun x hx => by
    rcases hx with ⟨j, e9, h9⟩ | h9
    · exact hD0.2 j (x, e9) h9
    · exact Nat.le_trans hsz h9
  have hA : ∀ x : Nat, s.heap.size ≤ x → va_A [(h0, .inr (0, [.null, .null, .null, .null, .null, .int 0]))] s.heap.size x := fun x h9 => Or.inr h9
  generalize va_A [(h0, .inr (0, [.null, .null, .null, .null, .null, .int 0]))] s.heap.size = A at hD hAB hA ⊢
  have hS : va_S A s.heap s.heap [] := va_S.rf
  have hl := lv_entry ([.ref h0]) (n := 1) (Nat.le_of_ble_eq_true rfl)
  rw [lg_entry_eq]
  generalize (lg_sl ([.ref h0]) ++ List.replicate (1 - (lg_sl ([.ref h0])).length) Slot.unset).toArray = ls at hl ⊢
  have hl : lv_has ls 1 [(0, .ref h0)] := hl
  refine lv_aload_n hx hb dX0_init_0 rfl (lv_at hl 0 rfl) ?_
  refine W.objInit hx hb hown (oh_Ab hAmb oc_w36) (oh_Ab hAmb oc_w0) (oh_Ab hAmb oc_w1) rfl (by rw [hml]; exact hl.1) rfl dX0_init_1 (Nat.le_of_ble_eq_true rfl) (Nat.le_of_ble_eq_true rfl) ?_
  refine W.eq (g2 := F0 m 4 ls []) rfl ?_
  refine lv_aload_n hx hb dX0_init_4 rfl (lv_at hl 0 rfl) ?_
  refine va_new (ci := 4) (fs := [.int 0, .null, .null, .null, .null, .int 0, .int 0, .int 0, .long 0, .int 0, .int 0]) (C := RX4) (T := TX4) (N := 11) hx hb (oh_ts hAmb) (oc_in (ci := 4) rfl) tyX4 tyX4_ok hown (oh_Ab hAmb oc_w37) (oh_Ab hAmb oc_w38) (oh_Ab hAmb oc_w39) hAmb.1 hP hD hS hA rfl (fun j hj => oc_def_4 j hj) (Nat.le_of_ble_eq_true rfl) (Nat.le_of_ble_eq_true rfl) dX0_init_5 (fun q0 H hP hD hS => ?_)
  have hP : va_P D vwCl ((h0, .inr (0, [.null, .null, .null, .null, .null, .int 0])) :: [(q0, (.inr (4, [.int 0, .null, .null, .null, .null, .int 0, .int 0, .int 0, .long 0, .int 0, .int 0]) : va_E))]) _ := hP
  have hD : va_D A ((h0, .inr (0, [.null, .null, .null, .null, .null, .int 0])) :: [(q0, (.inr (4, [.int 0, .null, .null, .null, .null, .int 0, .int 0, .int 0, .long 0, .int 0, .int 0]) : va_E))]) := hD
  refine W.widen (k := 1) (n := 11) (by omega) (by omega) ?_
  refine lv_dup hx hb dX0_init_8 rfl ?_
  refine oc_callN (av := []) (ci := 4) (own := RX0) (A := A) (wr := [(h0, .inr (0, [.null, .null, .null, .null, .null, .int 0]))]) hx hb hml hown hAmb hAO hAB hsz (oc_X4) oc_w40 oc_w39 oc_w41 oc_w42 (by decide +kernel) ⟨Nat.le_of_ble_eq_true rfl, Nat.le_of_ble_eq_true rfl⟩ ⟨Nat.le_of_ble_eq_true rfl, Nat.le_of_ble_eq_true rfl⟩ hl.1 (Nat.le_of_ble_eq_true rfl) hP hD hS hA dX0_init_9 (fun a1 H2 locs2 a1e nP nD nS => ?_)
  clear hP hD hS
  subst a1e
  have hP := nP
  have hD := nD
  have hS := nS
  have hP : va_P D vwCl ((h0, .inr (0, [.null, .null, .null, .null, .null, .int 0])) :: cSce cI a1) _ := hP
  have hD : va_D A ((h0, .inr (0, [.null, .null, .null, .null, .null, .int 0])) :: cSce cI a1) := hD
  refine W.widen (k := 5) (n := 35) (by omega) (by omega) ?_
  refine va_putF (D := D) (ci := 0) (v := .ref (a1 0)) (ty := tyX0 0) (C := RX0) (T := TX0) (N := 6) hx hb (oh_ts hAmb) (oc_in (ci := 0) rfl) tyX0 tyX0_ok nmX0 hown hAmb.1 hP hD hS 0 rfl rfl 0 (by decide) (oh_Ab hAmb oc_w43) (fun _ h9 => h9) rfl hin rfl (by decide +kernel) rfl rfl (Nat.le_of_ble_eq_true rfl) dX0_init_12 (fun H locs hP hD hS => ?_)
  have hP : va_P D vwCl ((h0, .inr (0, [.ref (a1 0), .null, .null, .null, .null, .int 0])) :: cSce cI a1) _ := hP
  have hD : va_D A ((h0, .inr (0, [.ref (a1 0), .null, .null, .null, .null, .int 0])) :: cSce cI a1) := hD
  refine lv_aload_n hx hb dX0_init_15 rfl (lv_at hl 0 rfl) ?_
  refine va_new (ci := 1) (fs := [.int 0, .null, .null]) (C := RX1) (T := TX1) (N := 3) hx hb (oh_ts hAmb) (oc_in (ci := 1) rfl) tyX1 tyX1_ok hown (oh_Ab hAmb oc_w44) (oh_Ab hAmb oc_w45) (oh_Ab hAmb oc_w46) hAmb.1 hP hD hS hA rfl (fun j hj => oc_def_1 j hj) (Nat.le_of_ble_eq_true rfl) (Nat.le_of_ble_eq_true rfl) dX0_init_16 (fun q2 H hP hD hS => ?_)
  have hP : va_P D vwCl ((h0, .inr (0, [.ref (a1 0), .null, .null, .null, .null, .int 0])) :: (cSce cI a1 ++ [(q2, (.inr (1, [.int 0, .null, .null]) : va_E))])) _ := hP
  have hD : va_D A ((h0, .inr (0, [.ref (a1 0), .null, .null, .null, .null, .int 0])) :: (cSce cI a1 ++ [(q2, (.inr (1, [.int 0, .null, .null]) : va_E))])) := hD
  refine W.widen (k := 6) (n := 38) (by omega) (by omega) ?_
  refine lv_dup hx hb dX0_init_19 rfl ?_
  refine lv_iconst (v := 0) hx hb dX0_init_20 (by decide) ?_
  refine oc_callN (av := [.int 0]) (ci := 1) (own := RX0) (A := A) (wr := (h0, .inr (0, [.ref (a1 0), .null, .null, .null, .null, .int 0])) :: cSce cI a1) hx hb hml hown hAmb hAO hAB hsz (oc_X1 (u := 0)) oc_w47 oc_w46 oc_w48 oc_w49 (by decide +kernel) ⟨Nat.le_of_ble_eq_true rfl, Nat.le_of_ble_eq_true rfl⟩ ⟨Nat.le_of_ble_eq_true rfl, Nat.le_of_ble_eq_true rfl⟩ hl.1 (Nat.le_of_ble_eq_true rfl) hP hD hS hA dX0_init_21 (fun a3 H2 locs2 a3e nP nD nS => ?_)
  clear hP hD hS
  subst a3e
  have hP := nP
  have hD := nD
  have hS := nS
  have hP : va_P D vwCl ((h0, .inr (0, [.ref (a1 0), .null, .null, .null, .null, .int 0])) :: (cSce cI a1 ++ cLaw cI 0 a3)) _ := hP
  have hD : va_D A ((h0, .inr (0, [.ref (a1 0), .null, .null, .null, .null, .int 0])) :: (cSce cI a1 ++ cLaw cI 0 a3)) := hD
  refine W.widen (k := 9) (n := 140) (by omega) (by omega) ?_
  refine va_putF (D := D) (ci := 0) (v := .ref (a3 0)) (ty := tyX0 1) (C := RX0) (T := TX0) (N := 6) hx hb (oh_ts hAmb) (oc_in (ci := 0) rfl) tyX0 tyX0_ok nmX0 hown hAmb.1 hP hD hS 0 rfl rfl 1 (by decide) (oh_Ab hAmb oc_w50) (fun _ h9 => h9) rfl hin rfl (by decide +kernel) rfl rfl (Nat.le_of_ble_eq_true rfl) dX0_init_24 (fun H locs hP hD hS => ?_)
  have hP : va_P D vwCl ((h0, .inr (0, [.ref (a1 0), .ref (a3 0), .null, .null, .null, .int 0])) :: (cSce cI a1 ++ cLaw cI 0 a3)) _ := hP
  have hD : va_D A ((h0, .inr (0, [.ref (a1 0), .ref (a3 0), .null, .null, .null, .int 0])) :: (cSce cI a1 ++ cLaw cI 0 a3)) := hD
  refine lv_aload_n hx hb dX0_init_27 rfl (lv_at hl 0 rfl) ?_
  refine va_new (ci := 1) (fs := [.int 0, .null, .null]) (C := RX1) (T := TX1) (N := 3) hx hb (oh_ts hAmb) (oc_in (ci := 1) rfl) tyX1 tyX1_ok hown (oh_Ab hAmb oc_w44) (oh_Ab hAmb oc_w45) (oh_Ab hAmb oc_w46) hAmb.1 hP hD hS hA rfl (fun j hj => oc_def_1 j hj) (Nat.le_of_ble_eq_true rfl) (Nat.le_of_ble_eq_true rfl) dX0_init_28 (fun q4 H hP hD hS => ?_)
  have hP : va_P D vwCl ((h0, .inr (0, [.ref (a1 0), .ref (a3 0), .null, .null, .null, .int 0])) :: ((cSce cI a1 ++ cLaw cI 0 a3) ++ [(q4, (.inr (1, [.int 0, .null, .null]) : va_E))])) _ := hP
  have hD : va_D A ((h0, .inr (0, [.ref (a1 0), .ref (a3 0), .null, .null, .null, .int 0])) :: ((cSce cI a1 ++ cLaw cI 0 a3) ++ [(q4, (.inr (1, [.int 0, .null, .null]) : va_E))])) := hD
  refine W.widen (k := 10) (n := 143) (by omega) (by omega) ?_
  refine lv_dup hx hb dX0_init_31 rfl ?_
  refine lv_iconst (v := 1) hx hb dX0_init_32 (by decide) ?_
  refine oc_callN (av := [.int 1]) (ci := 1) (own := RX0) (A := A) (wr := (h0, .inr (0, [.ref (a1 0), .ref (a3 0), .null, .null, .null, .int 0])) :: (cSce cI a1 ++ cLaw cI 0 a3)) hx hb hml hown hAmb hAO hAB hsz (oc_X1 (u := 1)) oc_w47 oc_w46 oc_w48 oc_w49 (by decide +kernel) ⟨Nat.le_of_ble_eq_true rfl, Nat.le_of_ble_eq_true rfl⟩ ⟨Nat.le_of_ble_eq_true rfl, Nat.le_of_ble_eq_true rfl⟩ hl.1 (Nat.le_of_ble_eq_true rfl) hP hD hS hA dX0_init_33 (fun a5 H2 locs2 a5e nP nD nS => ?_)
  clear hP hD hS
  subst a5e
  have hP := nP
  have hD := nD
  have hS := nS
  have hP : va_P D vwCl ((h0, .inr (0, [.ref (a1 0), .ref (a3 0), .null, .null, .null, .int 0])) :: ((cSce cI a1 ++ cLaw cI 0 a3) ++ cLaw cI 1 a5)) _ := hP
  have hD : va_D A ((h0, .inr (0, [.ref (a1 0), .ref (a3 0), .null, .null, .null, .int 0])) :: ((cSce cI a1 ++ cLaw cI 0 a3) ++ cLaw cI 1 a5)) := hD
  refine W.widen (k := 13) (n := 245) (by omega) (by omega) ?_
  refine va_putF (D := D) (ci := 0) (v := .ref (a5 0)) (ty := tyX0 2) (C := RX0) (T := TX0) (N := 6) hx hb (oh_ts hAmb) (oc_in (ci := 0) rfl) tyX0 tyX0_ok nmX0 hown hAmb.1 hP hD hS 0 rfl rfl 2 (by decide) (oh_Ab hAmb oc_w51) (fun _ h9 => h9) rfl hin rfl (by decide +kernel) rfl rfl (Nat.le_of_ble_eq_true rfl) dX0_init_36 (fun H locs hP hD hS => ?_)
  have hP : va_P D vwCl ((h0, .inr (0, [.ref (a1 0), .ref (a3 0), .ref (a5 0), .null, .null, .int 0])) :: ((cSce cI a1 ++ cLaw cI 0 a3) ++ cLaw cI 1 a5)) _ := hP
  have hD : va_D A ((h0, .inr (0, [.ref (a1 0), .ref (a3 0), .ref (a5 0), .null, .null, .int 0])) :: ((cSce cI a1 ++ cLaw cI 0 a3) ++ cLaw cI 1 a5)) := hD
  refine lv_aload_n hx hb dX0_init_39 rfl (lv_at hl 0 rfl) ?_
  refine va_new (ci := 3) (fs := [.null, .int 0]) (C := RX3) (T := TX3) (N := 2) hx hb (oh_ts hAmb) (oc_in (ci := 3) rfl) tyX3 tyX3_ok hown (oh_Ab hAmb oc_w52) (oh_Ab hAmb oc_w18) (oh_Ab hAmb oc_w19) hAmb.1 hP hD hS hA rfl (fun j hj => oc_def_3 j hj) (Nat.le_of_ble_eq_true rfl) (Nat.le_of_ble_eq_true rfl) dX0_init_40 (fun q6 H hP hD hS => ?_)
  have hP : va_P D vwCl ((h0, .inr (0, [.ref (a1 0), .ref (a3 0), .ref (a5 0), .null, .null, .int 0])) :: (((cSce cI a1 ++ cLaw cI 0 a3) ++ cLaw cI 1 a5) ++ [(q6, (.inr (3, [.null, .int 0]) : va_E))])) _ := hP
  have hD : va_D A ((h0, .inr (0, [.ref (a1 0), .ref (a3 0), .ref (a5 0), .null, .null, .int 0])) :: (((cSce cI a1 ++ cLaw cI 0 a3) ++ cLaw cI 1 a5) ++ [(q6, (.inr (3, [.null, .int 0]) : va_E))])) := hD
  refine W.widen (k := 14) (n := 247) (by omega) (by omega) ?_
  refine lv_dup hx hb dX0_init_43 rfl ?_
  refine lv_bipush (v := 50) hx hb dX0_init_44 (by decide) ?_
  refine oc_callN (av := [.int 50]) (ci := 3) (own := RX0) (A := A) (wr := (h0, .inr (0, [.ref (a1 0), .ref (a3 0), .ref (a5 0), .null, .null, .int 0])) :: ((cSce cI a1 ++ cLaw cI 0 a3) ++ cLaw cI 1 a5)) hx hb hml hown hAmb hAO hAB hsz (oc_X3 (n := 50) (by omega)) oc_w20 oc_w19 oc_w53 oc_w22 (by decide +kernel) ⟨Nat.le_of_ble_eq_true rfl, Nat.le_of_ble_eq_true rfl⟩ ⟨Nat.le_of_ble_eq_true rfl, Nat.le_of_ble_eq_true rfl⟩ hl.1 (Nat.le_of_ble_eq_true rfl) hP hD hS hA dX0_init_46 (fun a7 H2 locs2 a7e nP nD nS => ?_)
  clear hP hD hS
  subst a7e
  have hP := nP
  have hD := nD
  have hS := nS
  have hP : va_P D vwCl ((h0, .inr (0, [.ref (a1 0), .ref (a3 0), .ref (a5 0), .null, .null, .int 0])) :: (((cSce cI a1 ++ cLaw cI 0 a3) ++ cLaw cI 1 a5) ++ cRow cI 50 a7)) _ := hP
  have hD : va_D A ((h0, .inr (0, [.ref (a1 0), .ref (a3 0), .ref (a5 0), .null, .null, .int 0])) :: (((cSce cI a1 ++ cLaw cI 0 a3) ++ cLaw cI 1 a5) ++ cRow cI 50 a7)) := hD
  refine W.widen (k := 15) (n := 297) (by omega) (by omega) ?_
  refine va_putF (D := D) (ci := 0) (v := .ref (a7 0)) (ty := tyX0 3) (C := RX0) (T := TX0) (N := 6) hx hb (oh_ts hAmb) (oc_in (ci := 0) rfl) tyX0 tyX0_ok nmX0 hown hAmb.1 hP hD hS 0 rfl rfl 3 (by decide) (oh_Ab hAmb oc_w54) (fun _ h9 => h9) rfl hin rfl (by decide +kernel) rfl rfl (Nat.le_of_ble_eq_true rfl) dX0_init_49 (fun H locs hP hD hS => ?_)
  have hP : va_P D vwCl ((h0, .inr (0, [.ref (a1 0), .ref (a3 0), .ref (a5 0), .ref (a7 0), .null, .int 0])) :: (((cSce cI a1 ++ cLaw cI 0 a3) ++ cLaw cI 1 a5) ++ cRow cI 50 a7)) _ := hP
  have hD : va_D A ((h0, .inr (0, [.ref (a1 0), .ref (a3 0), .ref (a5 0), .ref (a7 0), .null, .int 0])) :: (((cSce cI a1 ++ cLaw cI 0 a3) ++ cLaw cI 1 a5) ++ cRow cI 50 a7)) := hD
  refine lv_aload_n hx hb dX0_init_52 rfl (lv_at hl 0 rfl) ?_
  refine va_new (ci := 3) (fs := [.null, .int 0]) (C := RX3) (T := TX3) (N := 2) hx hb (oh_ts hAmb) (oc_in (ci := 3) rfl) tyX3 tyX3_ok hown (oh_Ab hAmb oc_w52) (oh_Ab hAmb oc_w18) (oh_Ab hAmb oc_w19) hAmb.1 hP hD hS hA rfl (fun j hj => oc_def_3 j hj) (Nat.le_of_ble_eq_true rfl) (Nat.le_of_ble_eq_true rfl) dX0_init_53 (fun q8 H hP hD hS => ?_)
  have hP : va_P D vwCl ((h0, .inr (0, [.ref (a1 0), .ref (a3 0), .ref (a5 0), .ref (a7 0), .null, .int 0])) :: ((((cSce cI a1 ++ cLaw cI 0 a3) ++ cLaw cI 1 a5) ++ cRow cI 50 a7) ++ [(q8, (.inr (3, [.null, .int 0]) : va_E))])) _ := hP
  have hD : va_D A ((h0, .inr (0, [.ref (a1 0), .ref (a3 0), .ref (a5 0), .ref (a7 0), .null, .int 0])) :: ((((cSce cI a1 ++ cLaw cI 0 a3) ++ cLaw cI 1 a5) ++ cRow cI 50 a7) ++ [(q8, (.inr (3, [.null, .int 0]) : va_E))])) := hD
  refine W.widen (k := 16) (n := 299) (by omega) (by omega) ?_
  refine lv_dup hx hb dX0_init_56 rfl ?_
  refine lv_bipush (v := 20) hx hb dX0_init_57 (by decide) ?_
  refine oc_callN (av := [.int 20]) (ci := 3) (own := RX0) (A := A) (wr := (h0, .inr (0, [.ref (a1 0), .ref (a3 0), .ref (a5 0), .ref (a7 0), .null, .int 0])) :: (((cSce cI a1 ++ cLaw cI 0 a3) ++ cLaw cI 1 a5) ++ cRow cI 50 a7)) hx hb hml hown hAmb hAO hAB hsz (oc_X3 (n := 20) (by omega)) oc_w20 oc_w19 oc_w53 oc_w22 (by decide +kernel) ⟨Nat.le_of_ble_eq_true rfl, Nat.le_of_ble_eq_true rfl⟩ ⟨Nat.le_of_ble_eq_true rfl, Nat.le_of_ble_eq_true rfl⟩ hl.1 (Nat.le_of_ble_eq_true rfl) hP hD hS hA dX0_init_59 (fun a9 H2 locs2 a9e nP nD nS => ?_)
  clear hP hD hS
  subst a9e
  have hP := nP
  have hD := nD
  have hS := nS
  have hP : va_P D vwCl ((h0, .inr (0, [.ref (a1 0), .ref (a3 0), .ref (a5 0), .ref (a7 0), .null, .int 0])) :: ((((cSce cI a1 ++ cLaw cI 0 a3) ++ cLaw cI 1 a5) ++ cRow cI 50 a7) ++ cRow cI 20 a9)) _ := hP
  have hD : va_D A ((h0, .inr (0, [.ref (a1 0), .ref (a3 0), .ref (a5 0), .ref (a7 0), .null, .int 0])) :: ((((cSce cI a1 ++ cLaw cI 0 a3) ++ cLaw cI 1 a5) ++ cRow cI 50 a7) ++ cRow cI 20 a9)) := hD
  refine W.widen (k := 17) (n := 349) (by omega) (by omega) ?_
  refine va_putF (D := D) (ci := 0) (v := .ref (a9 0)) (ty := tyX0 4) (C := RX0) (T := TX0) (N := 6) hx hb (oh_ts hAmb) (oc_in (ci := 0) rfl) tyX0 tyX0_ok nmX0 hown hAmb.1 hP hD hS 0 rfl rfl 4 (by decide) (oh_Ab hAmb oc_w55) (fun _ h9 => h9) rfl hin rfl (by decide +kernel) rfl rfl (Nat.le_of_ble_eq_true rfl) dX0_init_62 (fun H locs hP hD hS => ?_)
  have hP : va_P D vwCl ((h0, .inr (0, [.ref (a1 0), .ref (a3 0), .ref (a5 0), .ref (a7 0), .ref (a9 0), .int 0])) :: ((((cSce cI a1 ++ cLaw cI 0 a3) ++ cLaw cI 1 a5) ++ cRow cI 50 a7) ++ cRow cI 20 a9)) _ := hP
  have hD : va_D A ((h0, .inr (0, [.ref (a1 0), .ref (a3 0), .ref (a5 0), .ref (a7 0), .ref (a9 0), .int 0])) :: ((((cSce cI a1 ++ cLaw cI 0 a3) ++ cLaw cI 1 a5) ++ cRow cI 50 a7) ++ cRow cI 20 a9)) := hD
  refine lv_aload_n hx hb dX0_init_65 rfl (lv_at hl 0 rfl) ?_
  refine lv_iconst (v := 1) hx hb dX0_init_66 (by decide) ?_
  refine va_put (D := D) (ci := 0) (v := .int 1) (ty := tyX0 5) (C := RX0) (T := TX0) (N := 6) hx hb (oh_ts hAmb) (oc_in (ci := 0) rfl) tyX0 tyX0_ok nmX0 hown hAmb.1 hP hD hS 0 rfl rfl 5 (by decide) (oh_Ab hAmb oc_w56) (fun _ h9 => h9) rfl (by decide +kernel) rfl rfl (Nat.le_of_ble_eq_true rfl) dX0_init_67 (fun H locs hP hD hS => ?_)
  have hP : va_P D vwCl ((h0, .inr (0, [.ref (a1 0), .ref (a3 0), .ref (a5 0), .ref (a7 0), .ref (a9 0), .int 1])) :: ((((cSce cI a1 ++ cLaw cI 0 a3) ++ cLaw cI 1 a5) ++ cRow cI 50 a7) ++ cRow cI 20 a9)) _ := hP
  have hD : va_D A ((h0, .inr (0, [.ref (a1 0), .ref (a3 0), .ref (a5 0), .ref (a7 0), .ref (a9 0), .int 1])) :: ((((cSce cI a1 ++ cLaw cI 0 a3) ++ cLaw cI 1 a5) ++ cRow cI 50 a7) ++ cRow cI 20 a9)) := hD
  refine W.widen (k := 17) (n := 349) (by omega) (by omega) ?_
  exact W.vret hx hb hr (fun t ht hW => ⟨⟨rfl, (fun i => if i = 0 then h0 else if i < 6 then a1 (i - 1) else if i < 10 then a3 (i - 6) else if i < 14 then a5 (i - 10) else if i < 16 then a7 (i - 14) else a9 (i - 16)), rfl, by rw [ht]; exact hP, hD⟩, hS.F ht⟩) hS.2.2 dX0_init_70

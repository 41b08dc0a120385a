/-! CONSTRUCTORS, by program (wip/whole/gen4.py) -/
set_option maxRecDepth 100000 in
set_option maxHeartbeats 8000000 in
theorem oc_X7 {l : Launch} {D : va_G} {cI cR : ClassId} {ad : Nat → Nat} {b0 : Nat} : oc_M l D cI cR ad b0 yX7_init cX7_init 1 4 59 1091 7 [.null, .null, .null, .null, .null, .null, .null, .int 0] [] (cHat cI cR (ad 2000)) := by
  intro h0 sz hsz
  refine oh_ofW (cc := cX7_init) (maxL := 1) (ret := none) (by decide +kernel) rfl ?_
  intro p e s m args below meth c s₁ B hml hv
  obtain ⟨rfl, hsz2, hP, hD0, hAmb, hAO⟩ := hv
  have hx := B.exec
  have hb := B.bytes
  have hr := B.returns
  have hlocks := B.notSynchronized
  have hown : s.vm.findClass RX7 = some m.cls := findClass_of_methodNamed B.named
  have hin : meth.name = "<init>" := (name_of_methodNamed B.named B.method).1
  subst hsz2
  have hD := hD0.self (sz := s.heap.size)
  have hAB : ∀ x, va_A [(h0, .inr (7, [.null, .null, .null, .null, .null, .null, .null, .int 0]))] s.heap.size x → b0 ≤ x := fun x hx => by
    rcases hx with ⟨j, e9, h9⟩ | h9
    · exact hD0.2 j (x, e9) h9
    · exact Nat.le_trans hsz h9
  have hA : ∀ x : Nat, s.heap.size ≤ x → va_A [(h0, .inr (7, [.null, .null, .null, .null, .null, .null, .null, .int 0]))] s.heap.size x := fun x h9 => Or.inr h9
  generalize va_A [(h0, .inr (7, [.null, .null, .null, .null, .null, .null, .null, .int 0]))] s.heap.size = A at hD hAB hA ⊢
  have hS : va_S A s.heap s.heap [] := va_S.rf
  have hl := lv_entry ([.ref h0]) (n := 1) (Nat.le_of_ble_eq_true rfl)
  rw [lg_entry_eq]
  generalize (lg_sl ([.ref h0]) ++ List.replicate (1 - (lg_sl ([.ref h0])).length) Slot.unset).toArray = ls at hl ⊢
  have hl : lv_has ls 1 [(0, .ref h0)] := hl
  refine lv_aload_n hx hb dX7_init_0 rfl (lv_at hl 0 rfl) ?_
  refine W.objInit hx hb hown (oh_Ab hAmb oc_w57) (oh_Ab hAmb oc_w0) (oh_Ab hAmb oc_w1) rfl (by rw [hml]; exact hl.1) rfl dX7_init_1 (Nat.le_of_ble_eq_true rfl) (Nat.le_of_ble_eq_true rfl) ?_
  refine W.eq (g2 := F0 m 4 ls []) rfl ?_
  refine lv_aload_n hx hb dX7_init_4 rfl (lv_at hl 0 rfl) ?_
  refine va_new (ci := 0) (fs := [.null, .null, .null, .null, .null, .int 0]) (C := RX0) (T := TX0) (N := 6) hx hb (oh_ts hAmb) (oc_in (ci := 0) rfl) tyX0 tyX0_ok hown (oh_Ab hAmb oc_w58) (oh_Ab hAmb oc_w59) (oh_Ab hAmb oc_w60) hAmb.1 hP hD hS hA rfl (fun j hj => oc_def_0 j hj) (Nat.le_of_ble_eq_true rfl) (Nat.le_of_ble_eq_true rfl) dX7_init_5 (fun q0 H hP hD hS => ?_)
  have hP : va_P D vwCl ((h0, .inr (7, [.null, .null, .null, .null, .null, .null, .null, .int 0])) :: [(q0, (.inr (0, [.null, .null, .null, .null, .null, .int 0]) : va_E))]) _ := hP
  have hD : va_D A ((h0, .inr (7, [.null, .null, .null, .null, .null, .null, .null, .int 0])) :: [(q0, (.inr (0, [.null, .null, .null, .null, .null, .int 0]) : va_E))]) := hD
  refine W.widen (k := 1) (n := 6) (by omega) (by omega) ?_
  refine lv_dup hx hb dX7_init_8 rfl ?_
  refine oc_callN (av := []) (ci := 0) (own := RX7) (A := A) (wr := [(h0, .inr (7, [.null, .null, .null, .null, .null, .null, .null, .int 0]))]) hx hb hml hown hAmb hAO hAB hsz (oc_X0) oc_w61 oc_w60 oc_w62 oc_w63 (by decide +kernel) ⟨Nat.le_of_ble_eq_true rfl, Nat.le_of_ble_eq_true rfl⟩ ⟨Nat.le_of_ble_eq_true rfl, Nat.le_of_ble_eq_true rfl⟩ hl.1 (Nat.le_of_ble_eq_true rfl) hP hD hS hA dX7_init_9 (fun a1 H2 locs2 a1e nP nD nS => ?_)
  clear hP hD hS
  subst a1e
  have hP := nP
  have hD := nD
  have hS := nS
  have hP : va_P D vwCl ((h0, .inr (7, [.null, .null, .null, .null, .null, .null, .null, .int 0])) :: cBook cI a1) _ := hP
  have hD : va_D A ((h0, .inr (7, [.null, .null, .null, .null, .null, .null, .null, .int 0])) :: cBook cI a1) := hD
  refine W.widen (k := 18) (n := 355) (by omega) (by omega) ?_
  refine va_putF (D := D) (ci := 7) (v := .ref (a1 0)) (ty := tyX7 0) (C := RX7) (T := TX7) (N := 8) hx hb (oh_ts hAmb) (oc_in (ci := 7) rfl) tyX7 tyX7_ok nmX7 hown hAmb.1 hP hD hS 0 rfl rfl 0 (by decide) (oh_Ab hAmb oc_w64) (fun _ h9 => h9) rfl hin rfl (by decide +kernel) rfl rfl (Nat.le_of_ble_eq_true rfl) dX7_init_12 (fun H locs hP hD hS => ?_)
  have hP : va_P D vwCl ((h0, .inr (7, [.ref (a1 0), .null, .null, .null, .null, .null, .null, .int 0])) :: cBook cI a1) _ := hP
  have hD : va_D A ((h0, .inr (7, [.ref (a1 0), .null, .null, .null, .null, .null, .null, .int 0])) :: cBook cI a1) := hD
  refine lv_aload_n hx hb dX7_init_15 rfl (lv_at hl 0 rfl) ?_
  refine va_new (ci := 0) (fs := [.null, .null, .null, .null, .null, .int 0]) (C := RX0) (T := TX0) (N := 6) hx hb (oh_ts hAmb) (oc_in (ci := 0) rfl) tyX0 tyX0_ok hown (oh_Ab hAmb oc_w58) (oh_Ab hAmb oc_w59) (oh_Ab hAmb oc_w60) hAmb.1 hP hD hS hA rfl (fun j hj => oc_def_0 j hj) (Nat.le_of_ble_eq_true rfl) (Nat.le_of_ble_eq_true rfl) dX7_init_16 (fun q2 H hP hD hS => ?_)
  have hP : va_P D vwCl ((h0, .inr (7, [.ref (a1 0), .null, .null, .null, .null, .null, .null, .int 0])) :: (cBook cI a1 ++ [(q2, (.inr (0, [.null, .null, .null, .null, .null, .int 0]) : va_E))])) _ := hP
  have hD : va_D A ((h0, .inr (7, [.ref (a1 0), .null, .null, .null, .null, .null, .null, .int 0])) :: (cBook cI a1 ++ [(q2, (.inr (0, [.null, .null, .null, .null, .null, .int 0]) : va_E))])) := hD
  refine W.widen (k := 19) (n := 361) (by omega) (by omega) ?_
  refine lv_dup hx hb dX7_init_19 rfl ?_
  refine oc_callN (av := []) (ci := 0) (own := RX7) (A := A) (wr := (h0, .inr (7, [.ref (a1 0), .null, .null, .null, .null, .null, .null, .int 0])) :: cBook cI a1) hx hb hml hown hAmb hAO hAB hsz (oc_X0) oc_w61 oc_w60 oc_w62 oc_w63 (by decide +kernel) ⟨Nat.le_of_ble_eq_true rfl, Nat.le_of_ble_eq_true rfl⟩ ⟨Nat.le_of_ble_eq_true rfl, Nat.le_of_ble_eq_true rfl⟩ hl.1 (Nat.le_of_ble_eq_true rfl) hP hD hS hA dX7_init_20 (fun a3 H2 locs2 a3e nP nD nS => ?_)
  clear hP hD hS
  subst a3e
  have hP := nP
  have hD := nD
  have hS := nS
  have hP : va_P D vwCl ((h0, .inr (7, [.ref (a1 0), .null, .null, .null, .null, .null, .null, .int 0])) :: (cBook cI a1 ++ cBook cI a3)) _ := hP
  have hD : va_D A ((h0, .inr (7, [.ref (a1 0), .null, .null, .null, .null, .null, .null, .int 0])) :: (cBook cI a1 ++ cBook cI a3)) := hD
  refine W.widen (k := 36) (n := 710) (by omega) (by omega) ?_
  refine va_putF (D := D) (ci := 7) (v := .ref (a3 0)) (ty := tyX7 1) (C := RX7) (T := TX7) (N := 8) hx hb (oh_ts hAmb) (oc_in (ci := 7) rfl) tyX7 tyX7_ok nmX7 hown hAmb.1 hP hD hS 0 rfl rfl 1 (by decide) (oh_Ab hAmb oc_w65) (fun _ h9 => h9) rfl hin rfl (by decide +kernel) rfl rfl (Nat.le_of_ble_eq_true rfl) dX7_init_23 (fun H locs hP hD hS => ?_)
  have hP : va_P D vwCl ((h0, .inr (7, [.ref (a1 0), .ref (a3 0), .null, .null, .null, .null, .null, .int 0])) :: (cBook cI a1 ++ cBook cI a3)) _ := hP
  have hD : va_D A ((h0, .inr (7, [.ref (a1 0), .ref (a3 0), .null, .null, .null, .null, .null, .int 0])) :: (cBook cI a1 ++ cBook cI a3)) := hD
  refine lv_aload_n hx hb dX7_init_26 rfl (lv_at hl 0 rfl) ?_
  refine va_new (ci := 4) (fs := [.int 0, .null, .null, .null, .null, .int 0, .int 0, .int 0, .long 0, .int 0, .int 0]) (C := RX4) (T := TX4) (N := 11) hx hb (oh_ts hAmb) (oc_in (ci := 4) rfl) tyX4 tyX4_ok hown (oh_Ab hAmb oc_w66) (oh_Ab hAmb oc_w38) (oh_Ab hAmb oc_w39) hAmb.1 hP hD hS hA rfl (fun j hj => oc_def_4 j hj) (Nat.le_of_ble_eq_true rfl) (Nat.le_of_ble_eq_true rfl) dX7_init_27 (fun q4 H hP hD hS => ?_)
  have hP : va_P D vwCl ((h0, .inr (7, [.ref (a1 0), .ref (a3 0), .null, .null, .null, .null, .null, .int 0])) :: ((cBook cI a1 ++ cBook cI a3) ++ [(q4, (.inr (4, [.int 0, .null, .null, .null, .null, .int 0, .int 0, .int 0, .long 0, .int 0, .int 0]) : va_E))])) _ := hP
  have hD : va_D A ((h0, .inr (7, [.ref (a1 0), .ref (a3 0), .null, .null, .null, .null, .null, .int 0])) :: ((cBook cI a1 ++ cBook cI a3) ++ [(q4, (.inr (4, [.int 0, .null, .null, .null, .null, .int 0, .int 0, .int 0, .long 0, .int 0, .int 0]) : va_E))])) := hD
  refine W.widen (k := 37) (n := 721) (by omega) (by omega) ?_
  refine lv_dup hx hb dX7_init_30 rfl ?_
  refine oc_callN (av := []) (ci := 4) (own := RX7) (A := A) (wr := (h0, .inr (7, [.ref (a1 0), .ref (a3 0), .null, .null, .null, .null, .null, .int 0])) :: (cBook cI a1 ++ cBook cI a3)) hx hb hml hown hAmb hAO hAB hsz (oc_X4) oc_w40 oc_w39 oc_w67 oc_w42 (by decide +kernel) ⟨Nat.le_of_ble_eq_true rfl, Nat.le_of_ble_eq_true rfl⟩ ⟨Nat.le_of_ble_eq_true rfl, Nat.le_of_ble_eq_true rfl⟩ hl.1 (Nat.le_of_ble_eq_true rfl) hP hD hS hA dX7_init_31 (fun a5 H2 locs2 a5e nP nD nS => ?_)
  clear hP hD hS
  subst a5e
  have hP := nP
  have hD := nD
  have hS := nS
  have hP : va_P D vwCl ((h0, .inr (7, [.ref (a1 0), .ref (a3 0), .null, .null, .null, .null, .null, .int 0])) :: ((cBook cI a1 ++ cBook cI a3) ++ cSce cI a5)) _ := hP
  have hD : va_D A ((h0, .inr (7, [.ref (a1 0), .ref (a3 0), .null, .null, .null, .null, .null, .int 0])) :: ((cBook cI a1 ++ cBook cI a3) ++ cSce cI a5)) := hD
  refine W.widen (k := 41) (n := 745) (by omega) (by omega) ?_
  refine va_putF (D := D) (ci := 7) (v := .ref (a5 0)) (ty := tyX7 2) (C := RX7) (T := TX7) (N := 8) hx hb (oh_ts hAmb) (oc_in (ci := 7) rfl) tyX7 tyX7_ok nmX7 hown hAmb.1 hP hD hS 0 rfl rfl 2 (by decide) (oh_Ab hAmb oc_w68) (fun _ h9 => h9) rfl hin rfl (by decide +kernel) rfl rfl (Nat.le_of_ble_eq_true rfl) dX7_init_34 (fun H locs hP hD hS => ?_)
  have hP : va_P D vwCl ((h0, .inr (7, [.ref (a1 0), .ref (a3 0), .ref (a5 0), .null, .null, .null, .null, .int 0])) :: ((cBook cI a1 ++ cBook cI a3) ++ cSce cI a5)) _ := hP
  have hD : va_D A ((h0, .inr (7, [.ref (a1 0), .ref (a3 0), .ref (a5 0), .null, .null, .null, .null, .int 0])) :: ((cBook cI a1 ++ cBook cI a3) ++ cSce cI a5)) := hD
  refine lv_aload_n hx hb dX7_init_37 rfl (lv_at hl 0 rfl) ?_
  refine va_new (ci := 2) (fs := [.null, .null, .null, .int 0]) (C := RX2) (T := TX2) (N := 4) hx hb (oh_ts hAmb) (oc_in (ci := 2) rfl) tyX2 tyX2_ok hown (oh_Ab hAmb oc_w69) (oh_Ab hAmb oc_w70) (oh_Ab hAmb oc_w71) hAmb.1 hP hD hS hA rfl (fun j hj => oc_def_2 j hj) (Nat.le_of_ble_eq_true rfl) (Nat.le_of_ble_eq_true rfl) dX7_init_38 (fun q6 H hP hD hS => ?_)
  have hP : va_P D vwCl ((h0, .inr (7, [.ref (a1 0), .ref (a3 0), .ref (a5 0), .null, .null, .null, .null, .int 0])) :: (((cBook cI a1 ++ cBook cI a3) ++ cSce cI a5) ++ [(q6, (.inr (2, [.null, .null, .null, .int 0]) : va_E))])) _ := hP
  have hD : va_D A ((h0, .inr (7, [.ref (a1 0), .ref (a3 0), .ref (a5 0), .null, .null, .null, .null, .int 0])) :: (((cBook cI a1 ++ cBook cI a3) ++ cSce cI a5) ++ [(q6, (.inr (2, [.null, .null, .null, .int 0]) : va_E))])) := hD
  refine W.widen (k := 42) (n := 749) (by omega) (by omega) ?_
  refine lv_dup hx hb dX7_init_41 rfl ?_
  refine oc_callN (av := []) (ci := 2) (own := RX7) (A := A) (wr := (h0, .inr (7, [.ref (a1 0), .ref (a3 0), .ref (a5 0), .null, .null, .null, .null, .int 0])) :: ((cBook cI a1 ++ cBook cI a3) ++ cSce cI a5)) hx hb hml hown hAmb hAO hAB hsz (oc_X2) oc_w72 oc_w71 oc_w73 oc_w74 (by decide +kernel) ⟨Nat.le_of_ble_eq_true rfl, Nat.le_of_ble_eq_true rfl⟩ ⟨Nat.le_of_ble_eq_true rfl, Nat.le_of_ble_eq_true rfl⟩ hl.1 (Nat.le_of_ble_eq_true rfl) hP hD hS hA dX7_init_42 (fun a7 H2 locs2 a7e nP nD nS => ?_)
  clear hP hD hS
  subst a7e
  have hP := nP
  have hD := nD
  have hS := nS
  have hP : va_P D vwCl ((h0, .inr (7, [.ref (a1 0), .ref (a3 0), .ref (a5 0), .null, .null, .null, .null, .int 0])) :: (((cBook cI a1 ++ cBook cI a3) ++ cSce cI a5) ++ cRea cI (ad 2000) a7)) _ := hP
  have hD : va_D A ((h0, .inr (7, [.ref (a1 0), .ref (a3 0), .ref (a5 0), .null, .null, .null, .null, .int 0])) :: (((cBook cI a1 ++ cBook cI a3) ++ cSce cI a5) ++ cRea cI (ad 2000) a7)) := hD
  refine W.widen (k := 46) (n := 853) (by omega) (by omega) ?_
  refine va_putF (D := D) (ci := 7) (v := .ref (a7 0)) (ty := tyX7 3) (C := RX7) (T := TX7) (N := 8) hx hb (oh_ts hAmb) (oc_in (ci := 7) rfl) tyX7 tyX7_ok nmX7 hown hAmb.1 hP hD hS 0 rfl rfl 3 (by decide) (oh_Ab hAmb oc_w75) (fun _ h9 => h9) rfl hin rfl (by decide +kernel) rfl rfl (Nat.le_of_ble_eq_true rfl) dX7_init_45 (fun H locs hP hD hS => ?_)
  have hP : va_P D vwCl ((h0, .inr (7, [.ref (a1 0), .ref (a3 0), .ref (a5 0), .ref (a7 0), .null, .null, .null, .int 0])) :: (((cBook cI a1 ++ cBook cI a3) ++ cSce cI a5) ++ cRea cI (ad 2000) a7)) _ := hP
  have hD : va_D A ((h0, .inr (7, [.ref (a1 0), .ref (a3 0), .ref (a5 0), .ref (a7 0), .null, .null, .null, .int 0])) :: (((cBook cI a1 ++ cBook cI a3) ++ cSce cI a5) ++ cRea cI (ad 2000) a7)) := hD
  refine lv_aload_n hx hb dX7_init_48 rfl (lv_at hl 0 rfl) ?_
  refine va_new (ci := 6) (fs := [.null, .int 0, .int 0, .int 0]) (C := RX6) (T := TX6) (N := 4) hx hb (oh_ts hAmb) (oc_in (ci := 6) rfl) tyX6 tyX6_ok hown (oh_Ab hAmb oc_w76) (oh_Ab hAmb oc_w77) (oh_Ab hAmb oc_w78) hAmb.1 hP hD hS hA rfl (fun j hj => oc_def_6 j hj) (Nat.le_of_ble_eq_true rfl) (Nat.le_of_ble_eq_true rfl) dX7_init_49 (fun q8 H hP hD hS => ?_)
  have hP : va_P D vwCl ((h0, .inr (7, [.ref (a1 0), .ref (a3 0), .ref (a5 0), .ref (a7 0), .null, .null, .null, .int 0])) :: ((((cBook cI a1 ++ cBook cI a3) ++ cSce cI a5) ++ cRea cI (ad 2000) a7) ++ [(q8, (.inr (6, [.null, .int 0, .int 0, .int 0]) : va_E))])) _ := hP
  have hD : va_D A ((h0, .inr (7, [.ref (a1 0), .ref (a3 0), .ref (a5 0), .ref (a7 0), .null, .null, .null, .int 0])) :: ((((cBook cI a1 ++ cBook cI a3) ++ cSce cI a5) ++ cRea cI (ad 2000) a7) ++ [(q8, (.inr (6, [.null, .int 0, .int 0, .int 0]) : va_E))])) := hD
  refine W.widen (k := 47) (n := 857) (by omega) (by omega) ?_
  refine lv_dup hx hb dX7_init_52 rfl ?_
  refine oc_callN (av := []) (ci := 6) (own := RX7) (A := A) (wr := (h0, .inr (7, [.ref (a1 0), .ref (a3 0), .ref (a5 0), .ref (a7 0), .null, .null, .null, .int 0])) :: (((cBook cI a1 ++ cBook cI a3) ++ cSce cI a5) ++ cRea cI (ad 2000) a7)) hx hb hml hown hAmb hAO hAB hsz (oc_X6) oc_w79 oc_w78 oc_w80 oc_w81 (by decide +kernel) ⟨Nat.le_of_ble_eq_true rfl, Nat.le_of_ble_eq_true rfl⟩ ⟨Nat.le_of_ble_eq_true rfl, Nat.le_of_ble_eq_true rfl⟩ hl.1 (Nat.le_of_ble_eq_true rfl) hP hD hS hA dX7_init_53 (fun a9 H2 locs2 a9e nP nD nS => ?_)
  clear hP hD hS
  subst a9e
  have hP := nP
  have hD := nD
  have hS := nS
  have hP : va_P D vwCl ((h0, .inr (7, [.ref (a1 0), .ref (a3 0), .ref (a5 0), .ref (a7 0), .null, .null, .null, .int 0])) :: ((((cBook cI a1 ++ cBook cI a3) ++ cSce cI a5) ++ cRea cI (ad 2000) a7) ++ cVoi cI a9)) _ := hP
  have hD : va_D A ((h0, .inr (7, [.ref (a1 0), .ref (a3 0), .ref (a5 0), .ref (a7 0), .null, .null, .null, .int 0])) :: ((((cBook cI a1 ++ cBook cI a3) ++ cSce cI a5) ++ cRea cI (ad 2000) a7) ++ cVoi cI a9)) := hD
  refine W.widen (k := 49) (n := 909) (by omega) (by omega) ?_
  refine va_putF (D := D) (ci := 7) (v := .ref (a9 0)) (ty := tyX7 4) (C := RX7) (T := TX7) (N := 8) hx hb (oh_ts hAmb) (oc_in (ci := 7) rfl) tyX7 tyX7_ok nmX7 hown hAmb.1 hP hD hS 0 rfl rfl 4 (by decide) (oh_Ab hAmb oc_w82) (fun _ h9 => h9) rfl hin rfl (by decide +kernel) rfl rfl (Nat.le_of_ble_eq_true rfl) dX7_init_56 (fun H locs hP hD hS => ?_)
  have hP : va_P D vwCl ((h0, .inr (7, [.ref (a1 0), .ref (a3 0), .ref (a5 0), .ref (a7 0), .ref (a9 0), .null, .null, .int 0])) :: ((((cBook cI a1 ++ cBook cI a3) ++ cSce cI a5) ++ cRea cI (ad 2000) a7) ++ cVoi cI a9)) _ := hP
  have hD : va_D A ((h0, .inr (7, [.ref (a1 0), .ref (a3 0), .ref (a5 0), .ref (a7 0), .ref (a9 0), .null, .null, .int 0])) :: ((((cBook cI a1 ++ cBook cI a3) ++ cSce cI a5) ++ cRea cI (ad 2000) a7) ++ cVoi cI a9)) := hD
  refine lv_aload_n hx hb dX7_init_59 rfl (lv_at hl 0 rfl) ?_
  refine lv_iconst (v := 4) hx hb dX7_init_60 (by decide) ?_
  refine oc_newS (N' := 4) hx hb hown (oh_Ab hAmb oc_w83) hAO hAmb hP hD hS hA (by decide) (by decide) (by decide) (Nat.le_of_ble_eq_true rfl) (Nat.le_of_ble_eq_true rfl) dX7_init_61 (fun q10 H hP hD hS => ?_)
  have hP : va_P D vwCl ((h0, .inr (7, [.ref (a1 0), .ref (a3 0), .ref (a5 0), .ref (a7 0), .ref (a9 0), .null, .null, .int 0])) :: (((((cBook cI a1 ++ cBook cI a3) ++ cSce cI a5) ++ cRea cI (ad 2000) a7) ++ cVoi cI a9) ++ [(q10, (.inl (cR, 4, .inr (.inr (.inr (.inr (fun _ => none))))) : va_E))])) _ := hP
  have hD : va_D A ((h0, .inr (7, [.ref (a1 0), .ref (a3 0), .ref (a5 0), .ref (a7 0), .ref (a9 0), .null, .null, .int 0])) :: (((((cBook cI a1 ++ cBook cI a3) ++ cSce cI a5) ++ cRea cI (ad 2000) a7) ++ cVoi cI a9) ++ [(q10, (.inl (cR, 4, .inr (.inr (.inr (.inr (fun _ => none))))) : va_E))])) := hD
  refine W.widen (k := 50) (n := 913) (by omega) (by omega) ?_
  refine lv_dup hx hb dX7_init_64 rfl ?_
  refine lv_iconst (v := 0) hx hb dX7_init_65 (by decide) ?_
  refine va_new (ci := 5) (fs := [.int 0, .int 0, .null]) (C := RX5) (T := TX5) (N := 3) hx hb (oh_ts hAmb) (oc_in (ci := 5) rfl) tyX5 tyX5_ok hown (oh_Ab hAmb oc_w83) (oh_Ab hAmb oc_w84) (oh_Ab hAmb oc_w85) hAmb.1 hP hD hS hA rfl (fun j hj => oc_def_5 j hj) (Nat.le_of_ble_eq_true rfl) (Nat.le_of_ble_eq_true rfl) dX7_init_66 (fun q11 H hP hD hS => ?_)
  have hP : va_P D vwCl ((h0, .inr (7, [.ref (a1 0), .ref (a3 0), .ref (a5 0), .ref (a7 0), .ref (a9 0), .null, .null, .int 0])) :: ((((((cBook cI a1 ++ cBook cI a3) ++ cSce cI a5) ++ cRea cI (ad 2000) a7) ++ cVoi cI a9) ++ [(q10, (.inl (cR, 4, .inr (.inr (.inr (.inr (fun _ => none))))) : va_E))]) ++ [(q11, (.inr (5, [.int 0, .int 0, .null]) : va_E))])) _ := hP
  have hD : va_D A ((h0, .inr (7, [.ref (a1 0), .ref (a3 0), .ref (a5 0), .ref (a7 0), .ref (a9 0), .null, .null, .int 0])) :: ((((((cBook cI a1 ++ cBook cI a3) ++ cSce cI a5) ++ cRea cI (ad 2000) a7) ++ cVoi cI a9) ++ [(q10, (.inl (cR, 4, .inr (.inr (.inr (.inr (fun _ => none))))) : va_E))]) ++ [(q11, (.inr (5, [.int 0, .int 0, .null]) : va_E))])) := hD
  refine W.widen (k := 51) (n := 916) (by omega) (by omega) ?_
  refine lv_dup hx hb dX7_init_69 rfl ?_
  refine oc_callN (av := []) (ci := 5) (own := RX7) (A := A) (wr := (h0, .inr (7, [.ref (a1 0), .ref (a3 0), .ref (a5 0), .ref (a7 0), .ref (a9 0), .null, .null, .int 0])) :: (((((cBook cI a1 ++ cBook cI a3) ++ cSce cI a5) ++ cRea cI (ad 2000) a7) ++ cVoi cI a9) ++ [(q10, (.inl (cR, 4, .inr (.inr (.inr (.inr (fun _ => none))))) : va_E))])) hx hb hml hown hAmb hAO hAB hsz (oc_X5) oc_w86 oc_w85 oc_w87 oc_w88 (by decide +kernel) ⟨Nat.le_of_ble_eq_true rfl, Nat.le_of_ble_eq_true rfl⟩ ⟨Nat.le_of_ble_eq_true rfl, Nat.le_of_ble_eq_true rfl⟩ hl.1 (Nat.le_of_ble_eq_true rfl) hP hD hS hA dX7_init_70 (fun a12 H2 locs2 a12e nP nD nS => ?_)
  clear hP hD hS
  subst a12e
  have hP := nP
  have hD := nD
  have hS := nS
  have hP : va_P D vwCl ((h0, .inr (7, [.ref (a1 0), .ref (a3 0), .ref (a5 0), .ref (a7 0), .ref (a9 0), .null, .null, .int 0])) :: ((((((cBook cI a1 ++ cBook cI a3) ++ cSce cI a5) ++ cRea cI (ad 2000) a7) ++ cVoi cI a9) ++ [(q10, (.inl (cR, 4, .inr (.inr (.inr (.inr (fun _ => none))))) : va_E))]) ++ cShe cI a12)) _ := hP
  have hD : va_D A ((h0, .inr (7, [.ref (a1 0), .ref (a3 0), .ref (a5 0), .ref (a7 0), .ref (a9 0), .null, .null, .int 0])) :: ((((((cBook cI a1 ++ cBook cI a3) ++ cSce cI a5) ++ cRea cI (ad 2000) a7) ++ cVoi cI a9) ++ [(q10, (.inl (cR, 4, .inr (.inr (.inr (.inr (fun _ => none))))) : va_E))]) ++ cShe cI a12)) := hD
  refine W.widen (k := 52) (n := 956) (by omega) (by omega) ?_
  refine va_astq (cl := vwCl) (r := (RX5, TX5, 3)) hx hb hAmb.1 hP hD hS 50 1 51 5 (a := q10) (v := a12 0) rfl rfl rfl rfl (oh_in (i := 0) (by omega) (by omega)) dX7_init_73 (fun H locs hP hD hS => ?_)
  have hP : va_P D vwCl ((h0, .inr (7, [.ref (a1 0), .ref (a3 0), .ref (a5 0), .ref (a7 0), .ref (a9 0), .null, .null, .int 0])) :: ((((((cBook cI a1 ++ cBook cI a3) ++ cSce cI a5) ++ cRea cI (ad 2000) a7) ++ cVoi cI a9) ++ [(q10, (.inl (cR, 4, .inr (.inr (.inr (.inr (va_up (fun _ => none) (0 : Int32).toNatClampNeg (some (a12 0))))))) : va_E))]) ++ cShe cI a12)) _ := hP
  have hD : va_D A ((h0, .inr (7, [.ref (a1 0), .ref (a3 0), .ref (a5 0), .ref (a7 0), .ref (a9 0), .null, .null, .int 0])) :: ((((((cBook cI a1 ++ cBook cI a3) ++ cSce cI a5) ++ cRea cI (ad 2000) a7) ++ cVoi cI a9) ++ [(q10, (.inl (cR, 4, .inr (.inr (.inr (.inr (va_up (fun _ => none) (0 : Int32).toNatClampNeg (some (a12 0))))))) : va_E))]) ++ cShe cI a12)) := hD
  refine lv_dup hx hb dX7_init_74 rfl ?_
  refine lv_iconst (v := 1) hx hb dX7_init_75 (by decide) ?_
  refine va_new (ci := 5) (fs := [.int 0, .int 0, .null]) (C := RX5) (T := TX5) (N := 3) hx hb (oh_ts hAmb) (oc_in (ci := 5) rfl) tyX5 tyX5_ok hown (oh_Ab hAmb oc_w83) (oh_Ab hAmb oc_w84) (oh_Ab hAmb oc_w85) hAmb.1 hP hD hS hA rfl (fun j hj => oc_def_5 j hj) (Nat.le_of_ble_eq_true rfl) (Nat.le_of_ble_eq_true rfl) dX7_init_76 (fun q13 H hP hD hS => ?_)
  have hP : va_P D vwCl ((h0, .inr (7, [.ref (a1 0), .ref (a3 0), .ref (a5 0), .ref (a7 0), .ref (a9 0), .null, .null, .int 0])) :: (((((((cBook cI a1 ++ cBook cI a3) ++ cSce cI a5) ++ cRea cI (ad 2000) a7) ++ cVoi cI a9) ++ [(q10, (.inl (cR, 4, .inr (.inr (.inr (.inr (va_up (fun _ => none) (0 : Int32).toNatClampNeg (some (a12 0))))))) : va_E))]) ++ cShe cI a12) ++ [(q13, (.inr (5, [.int 0, .int 0, .null]) : va_E))])) _ := hP
  have hD : va_D A ((h0, .inr (7, [.ref (a1 0), .ref (a3 0), .ref (a5 0), .ref (a7 0), .ref (a9 0), .null, .null, .int 0])) :: (((((((cBook cI a1 ++ cBook cI a3) ++ cSce cI a5) ++ cRea cI (ad 2000) a7) ++ cVoi cI a9) ++ [(q10, (.inl (cR, 4, .inr (.inr (.inr (.inr (va_up (fun _ => none) (0 : Int32).toNatClampNeg (some (a12 0))))))) : va_E))]) ++ cShe cI a12) ++ [(q13, (.inr (5, [.int 0, .int 0, .null]) : va_E))])) := hD
  refine W.widen (k := 53) (n := 959) (by omega) (by omega) ?_
  refine lv_dup hx hb dX7_init_79 rfl ?_
  refine oc_callN (av := []) (ci := 5) (own := RX7) (A := A) (wr := (h0, .inr (7, [.ref (a1 0), .ref (a3 0), .ref (a5 0), .ref (a7 0), .ref (a9 0), .null, .null, .int 0])) :: ((((((cBook cI a1 ++ cBook cI a3) ++ cSce cI a5) ++ cRea cI (ad 2000) a7) ++ cVoi cI a9) ++ [(q10, (.inl (cR, 4, .inr (.inr (.inr (.inr (va_up (fun _ => none) (0 : Int32).toNatClampNeg (some (a12 0))))))) : va_E))]) ++ cShe cI a12)) hx hb hml hown hAmb hAO hAB hsz (oc_X5) oc_w86 oc_w85 oc_w87 oc_w88 (by decide +kernel) ⟨Nat.le_of_ble_eq_true rfl, Nat.le_of_ble_eq_true rfl⟩ ⟨Nat.le_of_ble_eq_true rfl, Nat.le_of_ble_eq_true rfl⟩ hl.1 (Nat.le_of_ble_eq_true rfl) hP hD hS hA dX7_init_80 (fun a14 H2 locs2 a14e nP nD nS => ?_)
  clear hP hD hS
  subst a14e
  have hP := nP
  have hD := nD
  have hS := nS
  have hP : va_P D vwCl ((h0, .inr (7, [.ref (a1 0), .ref (a3 0), .ref (a5 0), .ref (a7 0), .ref (a9 0), .null, .null, .int 0])) :: (((((((cBook cI a1 ++ cBook cI a3) ++ cSce cI a5) ++ cRea cI (ad 2000) a7) ++ cVoi cI a9) ++ [(q10, (.inl (cR, 4, .inr (.inr (.inr (.inr (va_up (fun _ => none) (0 : Int32).toNatClampNeg (some (a12 0))))))) : va_E))]) ++ cShe cI a12) ++ cShe cI a14)) _ := hP
  have hD : va_D A ((h0, .inr (7, [.ref (a1 0), .ref (a3 0), .ref (a5 0), .ref (a7 0), .ref (a9 0), .null, .null, .int 0])) :: (((((((cBook cI a1 ++ cBook cI a3) ++ cSce cI a5) ++ cRea cI (ad 2000) a7) ++ cVoi cI a9) ++ [(q10, (.inl (cR, 4, .inr (.inr (.inr (.inr (va_up (fun _ => none) (0 : Int32).toNatClampNeg (some (a12 0))))))) : va_E))]) ++ cShe cI a12) ++ cShe cI a14)) := hD
  refine W.widen (k := 54) (n := 999) (by omega) (by omega) ?_
  refine va_astq (cl := vwCl) (r := (RX5, TX5, 3)) hx hb hAmb.1 hP hD hS 50 1 53 5 (a := q10) (v := a14 0) rfl rfl rfl rfl (oh_in (i := 1) (by omega) (by omega)) dX7_init_83 (fun H locs hP hD hS => ?_)
  have hP : va_P D vwCl ((h0, .inr (7, [.ref (a1 0), .ref (a3 0), .ref (a5 0), .ref (a7 0), .ref (a9 0), .null, .null, .int 0])) :: (((((((cBook cI a1 ++ cBook cI a3) ++ cSce cI a5) ++ cRea cI (ad 2000) a7) ++ cVoi cI a9) ++ [(q10, (.inl (cR, 4, .inr (.inr (.inr (.inr (va_up (va_up (fun _ => none) (0 : Int32).toNatClampNeg (some (a12 0))) (1 : Int32).toNatClampNeg (some (a14 0))))))) : va_E))]) ++ cShe cI a12) ++ cShe cI a14)) _ := hP
  have hD : va_D A ((h0, .inr (7, [.ref (a1 0), .ref (a3 0), .ref (a5 0), .ref (a7 0), .ref (a9 0), .null, .null, .int 0])) :: (((((((cBook cI a1 ++ cBook cI a3) ++ cSce cI a5) ++ cRea cI (ad 2000) a7) ++ cVoi cI a9) ++ [(q10, (.inl (cR, 4, .inr (.inr (.inr (.inr (va_up (va_up (fun _ => none) (0 : Int32).toNatClampNeg (some (a12 0))) (1 : Int32).toNatClampNeg (some (a14 0))))))) : va_E))]) ++ cShe cI a12) ++ cShe cI a14)) := hD
  refine lv_dup hx hb dX7_init_84 rfl ?_
  refine lv_iconst (v := 2) hx hb dX7_init_85 (by decide) ?_
  refine va_new (ci := 5) (fs := [.int 0, .int 0, .null]) (C := RX5) (T := TX5) (N := 3) hx hb (oh_ts hAmb) (oc_in (ci := 5) rfl) tyX5 tyX5_ok hown (oh_Ab hAmb oc_w83) (oh_Ab hAmb oc_w84) (oh_Ab hAmb oc_w85) hAmb.1 hP hD hS hA rfl (fun j hj => oc_def_5 j hj) (Nat.le_of_ble_eq_true rfl) (Nat.le_of_ble_eq_true rfl) dX7_init_86 (fun q15 H hP hD hS => ?_)
  have hP : va_P D vwCl ((h0, .inr (7, [.ref (a1 0), .ref (a3 0), .ref (a5 0), .ref (a7 0), .ref (a9 0), .null, .null, .int 0])) :: ((((((((cBook cI a1 ++ cBook cI a3) ++ cSce cI a5) ++ cRea cI (ad 2000) a7) ++ cVoi cI a9) ++ [(q10, (.inl (cR, 4, .inr (.inr (.inr (.inr (va_up (va_up (fun _ => none) (0 : Int32).toNatClampNeg (some (a12 0))) (1 : Int32).toNatClampNeg (some (a14 0))))))) : va_E))]) ++ cShe cI a12) ++ cShe cI a14) ++ [(q15, (.inr (5, [.int 0, .int 0, .null]) : va_E))])) _ := hP
  have hD : va_D A ((h0, .inr (7, [.ref (a1 0), .ref (a3 0), .ref (a5 0), .ref (a7 0), .ref (a9 0), .null, .null, .int 0])) :: ((((((((cBook cI a1 ++ cBook cI a3) ++ cSce cI a5) ++ cRea cI (ad 2000) a7) ++ cVoi cI a9) ++ [(q10, (.inl (cR, 4, .inr (.inr (.inr (.inr (va_up (va_up (fun _ => none) (0 : Int32).toNatClampNeg (some (a12 0))) (1 : Int32).toNatClampNeg (some (a14 0))))))) : va_E))]) ++ cShe cI a12) ++ cShe cI a14) ++ [(q15, (.inr (5, [.int 0, .int 0, .null]) : va_E))])) := hD
  refine W.widen (k := 55) (n := 1002) (by omega) (by omega) ?_
  refine lv_dup hx hb dX7_init_89 rfl ?_
  refine oc_callN (av := []) (ci := 5) (own := RX7) (A := A) (wr := (h0, .inr (7, [.ref (a1 0), .ref (a3 0), .ref (a5 0), .ref (a7 0), .ref (a9 0), .null, .null, .int 0])) :: (((((((cBook cI a1 ++ cBook cI a3) ++ cSce cI a5) ++ cRea cI (ad 2000) a7) ++ cVoi cI a9) ++ [(q10, (.inl (cR, 4, .inr (.inr (.inr (.inr (va_up (va_up (fun _ => none) (0 : Int32).toNatClampNeg (some (a12 0))) (1 : Int32).toNatClampNeg (some (a14 0))))))) : va_E))]) ++ cShe cI a12) ++ cShe cI a14)) hx hb hml hown hAmb hAO hAB hsz (oc_X5) oc_w86 oc_w85 oc_w87 oc_w88 (by decide +kernel) ⟨Nat.le_of_ble_eq_true rfl, Nat.le_of_ble_eq_true rfl⟩ ⟨Nat.le_of_ble_eq_true rfl, Nat.le_of_ble_eq_true rfl⟩ hl.1 (Nat.le_of_ble_eq_true rfl) hP hD hS hA dX7_init_90 (fun a16 H2 locs2 a16e nP nD nS => ?_)
  clear hP hD hS
  subst a16e
  have hP := nP
  have hD := nD
  have hS := nS
  have hP : va_P D vwCl ((h0, .inr (7, [.ref (a1 0), .ref (a3 0), .ref (a5 0), .ref (a7 0), .ref (a9 0), .null, .null, .int 0])) :: ((((((((cBook cI a1 ++ cBook cI a3) ++ cSce cI a5) ++ cRea cI (ad 2000) a7) ++ cVoi cI a9) ++ [(q10, (.inl (cR, 4, .inr (.inr (.inr (.inr (va_up (va_up (fun _ => none) (0 : Int32).toNatClampNeg (some (a12 0))) (1 : Int32).toNatClampNeg (some (a14 0))))))) : va_E))]) ++ cShe cI a12) ++ cShe cI a14) ++ cShe cI a16)) _ := hP
  have hD : va_D A ((h0, .inr (7, [.ref (a1 0), .ref (a3 0), .ref (a5 0), .ref (a7 0), .ref (a9 0), .null, .null, .int 0])) :: ((((((((cBook cI a1 ++ cBook cI a3) ++ cSce cI a5) ++ cRea cI (ad 2000) a7) ++ cVoi cI a9) ++ [(q10, (.inl (cR, 4, .inr (.inr (.inr (.inr (va_up (va_up (fun _ => none) (0 : Int32).toNatClampNeg (some (a12 0))) (1 : Int32).toNatClampNeg (some (a14 0))))))) : va_E))]) ++ cShe cI a12) ++ cShe cI a14) ++ cShe cI a16)) := hD
  refine W.widen (k := 56) (n := 1042) (by omega) (by omega) ?_
  refine va_astq (cl := vwCl) (r := (RX5, TX5, 3)) hx hb hAmb.1 hP hD hS 50 1 55 5 (a := q10) (v := a16 0) rfl rfl rfl rfl (oh_in (i := 2) (by omega) (by omega)) dX7_init_93 (fun H locs hP hD hS => ?_)
  have hP : va_P D vwCl ((h0, .inr (7, [.ref (a1 0), .ref (a3 0), .ref (a5 0), .ref (a7 0), .ref (a9 0), .null, .null, .int 0])) :: ((((((((cBook cI a1 ++ cBook cI a3) ++ cSce cI a5) ++ cRea cI (ad 2000) a7) ++ cVoi cI a9) ++ [(q10, (.inl (cR, 4, .inr (.inr (.inr (.inr (va_up (va_up (va_up (fun _ => none) (0 : Int32).toNatClampNeg (some (a12 0))) (1 : Int32).toNatClampNeg (some (a14 0))) (2 : Int32).toNatClampNeg (some (a16 0))))))) : va_E))]) ++ cShe cI a12) ++ cShe cI a14) ++ cShe cI a16)) _ := hP
  have hD : va_D A ((h0, .inr (7, [.ref (a1 0), .ref (a3 0), .ref (a5 0), .ref (a7 0), .ref (a9 0), .null, .null, .int 0])) :: ((((((((cBook cI a1 ++ cBook cI a3) ++ cSce cI a5) ++ cRea cI (ad 2000) a7) ++ cVoi cI a9) ++ [(q10, (.inl (cR, 4, .inr (.inr (.inr (.inr (va_up (va_up (va_up (fun _ => none) (0 : Int32).toNatClampNeg (some (a12 0))) (1 : Int32).toNatClampNeg (some (a14 0))) (2 : Int32).toNatClampNeg (some (a16 0))))))) : va_E))]) ++ cShe cI a12) ++ cShe cI a14) ++ cShe cI a16)) := hD
  refine lv_dup hx hb dX7_init_94 rfl ?_
  refine lv_iconst (v := 3) hx hb dX7_init_95 (by decide) ?_
  refine va_new (ci := 5) (fs := [.int 0, .int 0, .null]) (C := RX5) (T := TX5) (N := 3) hx hb (oh_ts hAmb) (oc_in (ci := 5) rfl) tyX5 tyX5_ok hown (oh_Ab hAmb oc_w83) (oh_Ab hAmb oc_w84) (oh_Ab hAmb oc_w85) hAmb.1 hP hD hS hA rfl (fun j hj => oc_def_5 j hj) (Nat.le_of_ble_eq_true rfl) (Nat.le_of_ble_eq_true rfl) dX7_init_96 (fun q17 H hP hD hS => ?_)
  have hP : va_P D vwCl ((h0, .inr (7, [.ref (a1 0), .ref (a3 0), .ref (a5 0), .ref (a7 0), .ref (a9 0), .null, .null, .int 0])) :: (((((((((cBook cI a1 ++ cBook cI a3) ++ cSce cI a5) ++ cRea cI (ad 2000) a7) ++ cVoi cI a9) ++ [(q10, (.inl (cR, 4, .inr (.inr (.inr (.inr (va_up (va_up (va_up (fun _ => none) (0 : Int32).toNatClampNeg (some (a12 0))) (1 : Int32).toNatClampNeg (some (a14 0))) (2 : Int32).toNatClampNeg (some (a16 0))))))) : va_E))]) ++ cShe cI a12) ++ cShe cI a14) ++ cShe cI a16) ++ [(q17, (.inr (5, [.int 0, .int 0, .null]) : va_E))])) _ := hP
  have hD : va_D A ((h0, .inr (7, [.ref (a1 0), .ref (a3 0), .ref (a5 0), .ref (a7 0), .ref (a9 0), .null, .null, .int 0])) :: (((((((((cBook cI a1 ++ cBook cI a3) ++ cSce cI a5) ++ cRea cI (ad 2000) a7) ++ cVoi cI a9) ++ [(q10, (.inl (cR, 4, .inr (.inr (.inr (.inr (va_up (va_up (va_up (fun _ => none) (0 : Int32).toNatClampNeg (some (a12 0))) (1 : Int32).toNatClampNeg (some (a14 0))) (2 : Int32).toNatClampNeg (some (a16 0))))))) : va_E))]) ++ cShe cI a12) ++ cShe cI a14) ++ cShe cI a16) ++ [(q17, (.inr (5, [.int 0, .int 0, .null]) : va_E))])) := hD
  refine W.widen (k := 57) (n := 1045) (by omega) (by omega) ?_
  refine lv_dup hx hb dX7_init_99 rfl ?_
  refine oc_callN (av := []) (ci := 5) (own := RX7) (A := A) (wr := (h0, .inr (7, [.ref (a1 0), .ref (a3 0), .ref (a5 0), .ref (a7 0), .ref (a9 0), .null, .null, .int 0])) :: ((((((((cBook cI a1 ++ cBook cI a3) ++ cSce cI a5) ++ cRea cI (ad 2000) a7) ++ cVoi cI a9) ++ [(q10, (.inl (cR, 4, .inr (.inr (.inr (.inr (va_up (va_up (va_up (fun _ => none) (0 : Int32).toNatClampNeg (some (a12 0))) (1 : Int32).toNatClampNeg (some (a14 0))) (2 : Int32).toNatClampNeg (some (a16 0))))))) : va_E))]) ++ cShe cI a12) ++ cShe cI a14) ++ cShe cI a16)) hx hb hml hown hAmb hAO hAB hsz (oc_X5) oc_w86 oc_w85 oc_w87 oc_w88 (by decide +kernel) ⟨Nat.le_of_ble_eq_true rfl, Nat.le_of_ble_eq_true rfl⟩ ⟨Nat.le_of_ble_eq_true rfl, Nat.le_of_ble_eq_true rfl⟩ hl.1 (Nat.le_of_ble_eq_true rfl) hP hD hS hA dX7_init_100 (fun a18 H2 locs2 a18e nP nD nS => ?_)
  clear hP hD hS
  subst a18e
  have hP := nP
  have hD := nD
  have hS := nS
  have hP : va_P D vwCl ((h0, .inr (7, [.ref (a1 0), .ref (a3 0), .ref (a5 0), .ref (a7 0), .ref (a9 0), .null, .null, .int 0])) :: (((((((((cBook cI a1 ++ cBook cI a3) ++ cSce cI a5) ++ cRea cI (ad 2000) a7) ++ cVoi cI a9) ++ [(q10, (.inl (cR, 4, .inr (.inr (.inr (.inr (va_up (va_up (va_up (fun _ => none) (0 : Int32).toNatClampNeg (some (a12 0))) (1 : Int32).toNatClampNeg (some (a14 0))) (2 : Int32).toNatClampNeg (some (a16 0))))))) : va_E))]) ++ cShe cI a12) ++ cShe cI a14) ++ cShe cI a16) ++ cShe cI a18)) _ := hP
  have hD : va_D A ((h0, .inr (7, [.ref (a1 0), .ref (a3 0), .ref (a5 0), .ref (a7 0), .ref (a9 0), .null, .null, .int 0])) :: (((((((((cBook cI a1 ++ cBook cI a3) ++ cSce cI a5) ++ cRea cI (ad 2000) a7) ++ cVoi cI a9) ++ [(q10, (.inl (cR, 4, .inr (.inr (.inr (.inr (va_up (va_up (va_up (fun _ => none) (0 : Int32).toNatClampNeg (some (a12 0))) (1 : Int32).toNatClampNeg (some (a14 0))) (2 : Int32).toNatClampNeg (some (a16 0))))))) : va_E))]) ++ cShe cI a12) ++ cShe cI a14) ++ cShe cI a16) ++ cShe cI a18)) := hD
  refine W.widen (k := 58) (n := 1085) (by omega) (by omega) ?_
  refine va_astq (cl := vwCl) (r := (RX5, TX5, 3)) hx hb hAmb.1 hP hD hS 50 1 57 5 (a := q10) (v := a18 0) rfl rfl rfl rfl (oh_in (i := 3) (by omega) (by omega)) dX7_init_103 (fun H locs hP hD hS => ?_)
  have hP : va_P D vwCl ((h0, .inr (7, [.ref (a1 0), .ref (a3 0), .ref (a5 0), .ref (a7 0), .ref (a9 0), .null, .null, .int 0])) :: (((((((((cBook cI a1 ++ cBook cI a3) ++ cSce cI a5) ++ cRea cI (ad 2000) a7) ++ cVoi cI a9) ++ [(q10, (.inl (cR, 4, .inr (.inr (.inr (.inr (va_up (va_up (va_up (va_up (fun _ => none) (0 : Int32).toNatClampNeg (some (a12 0))) (1 : Int32).toNatClampNeg (some (a14 0))) (2 : Int32).toNatClampNeg (some (a16 0))) (3 : Int32).toNatClampNeg (some (a18 0))))))) : va_E))]) ++ cShe cI a12) ++ cShe cI a14) ++ cShe cI a16) ++ cShe cI a18)) _ := hP
  have hD : va_D A ((h0, .inr (7, [.ref (a1 0), .ref (a3 0), .ref (a5 0), .ref (a7 0), .ref (a9 0), .null, .null, .int 0])) :: (((((((((cBook cI a1 ++ cBook cI a3) ++ cSce cI a5) ++ cRea cI (ad 2000) a7) ++ cVoi cI a9) ++ [(q10, (.inl (cR, 4, .inr (.inr (.inr (.inr (va_up (va_up (va_up (va_up (fun _ => none) (0 : Int32).toNatClampNeg (some (a12 0))) (1 : Int32).toNatClampNeg (some (a14 0))) (2 : Int32).toNatClampNeg (some (a16 0))) (3 : Int32).toNatClampNeg (some (a18 0))))))) : va_E))]) ++ cShe cI a12) ++ cShe cI a14) ++ cShe cI a16) ++ cShe cI a18)) := hD
  refine va_putF (D := D) (ci := 7) (v := .ref q10) (ty := tyX7 5) (C := RX7) (T := TX7) (N := 8) hx hb (oh_ts hAmb) (oc_in (ci := 7) rfl) tyX7 tyX7_ok nmX7 hown hAmb.1 hP hD hS 0 rfl rfl 5 (by decide) (oh_Ab hAmb oc_w89) (fun _ h9 => h9) rfl hin rfl (by decide +kernel) rfl rfl (Nat.le_of_ble_eq_true rfl) dX7_init_104 (fun H locs hP hD hS => ?_)
  have hP : va_P D vwCl ((h0, .inr (7, [.ref (a1 0), .ref (a3 0), .ref (a5 0), .ref (a7 0), .ref (a9 0), .ref q10, .null, .int 0])) :: (((((((((cBook cI a1 ++ cBook cI a3) ++ cSce cI a5) ++ cRea cI (ad 2000) a7) ++ cVoi cI a9) ++ [(q10, (.inl (cR, 4, .inr (.inr (.inr (.inr (va_up (va_up (va_up (va_up (fun _ => none) (0 : Int32).toNatClampNeg (some (a12 0))) (1 : Int32).toNatClampNeg (some (a14 0))) (2 : Int32).toNatClampNeg (some (a16 0))) (3 : Int32).toNatClampNeg (some (a18 0))))))) : va_E))]) ++ cShe cI a12) ++ cShe cI a14) ++ cShe cI a16) ++ cShe cI a18)) _ := hP
  have hD : va_D A ((h0, .inr (7, [.ref (a1 0), .ref (a3 0), .ref (a5 0), .ref (a7 0), .ref (a9 0), .ref q10, .null, .int 0])) :: (((((((((cBook cI a1 ++ cBook cI a3) ++ cSce cI a5) ++ cRea cI (ad 2000) a7) ++ cVoi cI a9) ++ [(q10, (.inl (cR, 4, .inr (.inr (.inr (.inr (va_up (va_up (va_up (va_up (fun _ => none) (0 : Int32).toNatClampNeg (some (a12 0))) (1 : Int32).toNatClampNeg (some (a14 0))) (2 : Int32).toNatClampNeg (some (a16 0))) (3 : Int32).toNatClampNeg (some (a18 0))))))) : va_E))]) ++ cShe cI a12) ++ cShe cI a14) ++ cShe cI a16) ++ cShe cI a18)) := hD
  refine lv_aload_n hx hb dX7_init_107 rfl (lv_at hl 0 rfl) ?_
  refine lv_bipush (v := 6) hx hb dX7_init_108 (by decide) ?_
  refine oc_newI (N' := 6) hx hb hAmb hP hD hS hA (by decide) (by decide) (by decide) (Nat.le_of_ble_eq_true rfl) (Nat.le_of_ble_eq_true rfl) dX7_init_110 (fun q19 H hP hD hS => ?_)
  have hP : va_P D vwCl ((h0, .inr (7, [.ref (a1 0), .ref (a3 0), .ref (a5 0), .ref (a7 0), .ref (a9 0), .ref q10, .null, .int 0])) :: ((((((((((cBook cI a1 ++ cBook cI a3) ++ cSce cI a5) ++ cRea cI (ad 2000) a7) ++ cVoi cI a9) ++ [(q10, (.inl (cR, 4, .inr (.inr (.inr (.inr (va_up (va_up (va_up (va_up (fun _ => none) (0 : Int32).toNatClampNeg (some (a12 0))) (1 : Int32).toNatClampNeg (some (a14 0))) (2 : Int32).toNatClampNeg (some (a16 0))) (3 : Int32).toNatClampNeg (some (a18 0))))))) : va_E))]) ++ cShe cI a12) ++ cShe cI a14) ++ cShe cI a16) ++ cShe cI a18) ++ [(q19, (.inl (cI, 6, .inl (fun _ => 0)) : va_E))])) _ := hP
  have hD : va_D A ((h0, .inr (7, [.ref (a1 0), .ref (a3 0), .ref (a5 0), .ref (a7 0), .ref (a9 0), .ref q10, .null, .int 0])) :: ((((((((((cBook cI a1 ++ cBook cI a3) ++ cSce cI a5) ++ cRea cI (ad 2000) a7) ++ cVoi cI a9) ++ [(q10, (.inl (cR, 4, .inr (.inr (.inr (.inr (va_up (va_up (va_up (va_up (fun _ => none) (0 : Int32).toNatClampNeg (some (a12 0))) (1 : Int32).toNatClampNeg (some (a14 0))) (2 : Int32).toNatClampNeg (some (a16 0))) (3 : Int32).toNatClampNeg (some (a18 0))))))) : va_E))]) ++ cShe cI a12) ++ cShe cI a14) ++ cShe cI a16) ++ cShe cI a18) ++ [(q19, (.inl (cI, 6, .inl (fun _ => 0)) : va_E))])) := hD
  refine W.widen (k := 59) (n := 1091) (by omega) (by omega) ?_
  refine va_putF (D := D) (ci := 7) (v := .ref q19) (ty := tyX7 6) (C := RX7) (T := TX7) (N := 8) hx hb (oh_ts hAmb) (oc_in (ci := 7) rfl) tyX7 tyX7_ok nmX7 hown hAmb.1 hP hD hS 0 rfl rfl 6 (by decide) (oh_Ab hAmb oc_w90) (fun _ h9 => h9) rfl hin rfl (by decide +kernel) rfl rfl (Nat.le_of_ble_eq_true rfl) dX7_init_112 (fun H locs hP hD hS => ?_)
  have hP : va_P D vwCl ((h0, .inr (7, [.ref (a1 0), .ref (a3 0), .ref (a5 0), .ref (a7 0), .ref (a9 0), .ref q10, .ref q19, .int 0])) :: ((((((((((cBook cI a1 ++ cBook cI a3) ++ cSce cI a5) ++ cRea cI (ad 2000) a7) ++ cVoi cI a9) ++ [(q10, (.inl (cR, 4, .inr (.inr (.inr (.inr (va_up (va_up (va_up (va_up (fun _ => none) (0 : Int32).toNatClampNeg (some (a12 0))) (1 : Int32).toNatClampNeg (some (a14 0))) (2 : Int32).toNatClampNeg (some (a16 0))) (3 : Int32).toNatClampNeg (some (a18 0))))))) : va_E))]) ++ cShe cI a12) ++ cShe cI a14) ++ cShe cI a16) ++ cShe cI a18) ++ [(q19, (.inl (cI, 6, .inl (fun _ => 0)) : va_E))])) _ := hP
  have hD : va_D A ((h0, .inr (7, [.ref (a1 0), .ref (a3 0), .ref (a5 0), .ref (a7 0), .ref (a9 0), .ref q10, .ref q19, .int 0])) :: ((((((((((cBook cI a1 ++ cBook cI a3) ++ cSce cI a5) ++ cRea cI (ad 2000) a7) ++ cVoi cI a9) ++ [(q10, (.inl (cR, 4, .inr (.inr (.inr (.inr (va_up (va_up (va_up (va_up (fun _ => none) (0 : Int32).toNatClampNeg (some (a12 0))) (1 : Int32).toNatClampNeg (some (a14 0))) (2 : Int32).toNatClampNeg (some (a16 0))) (3 : Int32).toNatClampNeg (some (a18 0))))))) : va_E))]) ++ cShe cI a12) ++ cShe cI a14) ++ cShe cI a16) ++ cShe cI a18) ++ [(q19, (.inl (cI, 6, .inl (fun _ => 0)) : va_E))])) := hD
  refine W.widen (k := 59) (n := 1091) (by omega) (by omega) ?_
  exact W.vret hx hb hr (fun t ht hW => ⟨⟨rfl, (fun i => if i = 0 then h0 else if i < 19 then a1 (i - 1) else if i < 37 then a3 (i - 19) else if i < 42 then a5 (i - 37) else if i < 47 then a7 (i - 42) else if i < 50 then a9 (i - 47) else if i < 51 then q10 else if i < 53 then a12 (i - 51) else if i < 55 then a14 (i - 53) else if i < 57 then a16 (i - 55) else if i < 59 then a18 (i - 57) else q19), rfl, by rw [ht]; exact hP, hD⟩, hS.F ht⟩) hS.2.2 dX7_init_115

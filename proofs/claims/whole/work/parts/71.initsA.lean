/-! CONSTRUCTORS, by program (wip/whole/gen4.py) -/
set_option maxRecDepth 100000 in
set_option maxHeartbeats 8000000 in
theorem oc_X3 {l : Launch} {D : va_G} {cI cR : ClassId} {ad : Nat → Nat} {b0 : Nat} {n : Nat} (hn : n ≤ 50) : oc_M l D cI cR ad b0 yX3_init cX3_init 2 1 1 50 3 [.null, .int 0] [.int (nI n)] (cRow cI n) := by
  intro h0 sz hsz
  have hn0 : ¬ nI n < 0 := nI_pos (by omega)
  have hnc : (nI n).toNatClampNeg = n := nI_clamp (by omega)
  have hmx : (if (0 : Int32) < nI n then nI n else 0) = nI n := by
    by_cases h : (0 : Int32) < nI n
    · rw [if_pos h]
    · rw [if_neg h]
      have h2 : nI n ≤ nI 0 := Int32.not_lt.mp h
      have := (nI_leI (by omega) (by omega)).mp h2
      rw [show n = 0 by omega]
      rfl
  refine oh_ofW (cc := cX3_init) (maxL := 2) (ret := none) (by decide +kernel) rfl ?_
  intro p e s m args below meth c s₁ B hml hv
  obtain ⟨rfl, hsz2, hP, hD0, hAmb, hAO⟩ := hv
  have hx := B.exec
  have hb := B.bytes
  have hr := B.returns
  have hlocks := B.notSynchronized
  have hown : s.vm.findClass RX3 = some m.cls := findClass_of_methodNamed B.named
  have hin : meth.name = "<init>" := (name_of_methodNamed B.named B.method).1
  subst hsz2
  have hD := hD0.self (sz := s.heap.size)
  have hAB : ∀ x, va_A [(h0, .inr (3, [.null, .int 0]))] s.heap.size x → b0 ≤ x := fun x hx => by
    rcases hx with ⟨j, e9, h9⟩ | h9
    · exact hD0.2 j (x, e9) h9
    · exact Nat.le_trans hsz h9
  have hA : ∀ x : Nat, s.heap.size ≤ x → va_A [(h0, .inr (3, [.null, .int 0]))] s.heap.size x := fun x h9 => Or.inr h9
  generalize va_A [(h0, .inr (3, [.null, .int 0]))] s.heap.size = A at hD hAB hA ⊢
  have hS : va_S A s.heap s.heap [] := va_S.rf
  have hl := lv_entry ([.ref h0, .int (nI n)]) (n := 2) (Nat.le_of_ble_eq_true rfl)
  rw [lg_entry_eq]
  generalize (lg_sl ([.ref h0, .int (nI n)]) ++ List.replicate (2 - (lg_sl ([.ref h0, .int (nI n)])).length) Slot.unset).toArray = ls at hl ⊢
  have hl : lv_has ls 2 [(0, .ref h0), (1, .int (nI n))] := hl
  refine lv_aload_n hx hb dX3_init_0 rfl (lv_at hl 0 rfl) ?_
  refine W.objInit hx hb hown (oh_Ab hAmb oc_w2) (oh_Ab hAmb oc_w0) (oh_Ab hAmb oc_w1) rfl (by rw [hml]; exact hl.1) rfl dX3_init_1 (Nat.le_of_ble_eq_true rfl) (Nat.le_of_ble_eq_true rfl) ?_
  refine W.eq (g2 := F0 m 4 ls []) rfl ?_
  refine lv_aload_n hx hb dX3_init_4 rfl (lv_at hl 0 rfl) ?_
  refine lv_iconst (v := 0) hx hb dX3_init_5 (by decide) ?_
  refine lv_iload_n hx hb dX3_init_6 rfl (lv_at hl 1 rfl) ?_
  refine va_mmax hx hb (by rw [hml]; exact hl.1.symm) hown (oh_Ab hAmb oc_w3) (oh_Ab hAmb oc_w4) (oh_Ab hAmb oc_w5) (oh_Ab hAmb oc_w6) (Nat.le_of_ble_eq_true rfl) (Nat.le_of_ble_eq_true rfl) (Nat.le_of_ble_eq_true rfl) (Nat.le_of_ble_eq_true rfl) dX3_init_7 ?_
  rw [hmx]
  refine oc_newI (N' := n) hx hb hAmb hP hD hS hA hn0 hnc (by omega) (by show 0 + 1 ≤ 1; omega) (by show 0 + n ≤ 50; omega) dX3_init_10 (fun q0 H hP hD hS => ?_)
  have hP : va_P D vwCl ((h0, .inr (3, [.null, .int 0])) :: [(q0, (.inl (cI, n, .inl (fun _ => 0)) : va_E))]) _ := hP
  have hD : va_D A ((h0, .inr (3, [.null, .int 0])) :: [(q0, (.inl (cI, n, .inl (fun _ => 0)) : va_E))]) := hD
  refine W.widen (k := 1) (n := 50) (by omega) (by omega) ?_
  refine va_putF (D := D) (ci := 3) (v := .ref q0) (ty := tyX3 0) (C := RX3) (T := TX3) (N := 2) hx hb (oh_ts hAmb) (oc_in (ci := 3) rfl) tyX3 tyX3_ok nmX3 hown hAmb.1 hP hD hS 0 rfl rfl 0 (by decide) (oh_Ab hAmb oc_w7) (fun _ h9 => h9) rfl hin rfl (by decide +kernel) rfl rfl (Nat.le_of_ble_eq_true rfl) dX3_init_12 (fun H locs hP hD hS => ?_)
  have hP : va_P D vwCl ((h0, .inr (3, [.ref q0, .int 0])) :: [(q0, (.inl (cI, n, .inl (fun _ => 0)) : va_E))]) _ := hP
  have hD : va_D A ((h0, .inr (3, [.ref q0, .int 0])) :: [(q0, (.inl (cI, n, .inl (fun _ => 0)) : va_E))]) := hD
  refine W.widen (k := 1) (n := 50) (by omega) (by omega) ?_
  exact W.vret hx hb hr (fun t ht hW => ⟨⟨rfl, (fun i => if i = 0 then h0 else q0), rfl, by rw [ht]; exact hP, hD⟩, hS.F ht⟩) hS.2.2 dX3_init_15
set_option maxRecDepth 100000 in
set_option maxHeartbeats 8000000 in
theorem oc_X4 {l : Launch} {D : va_G} {cI cR : ClassId} {ad : Nat → Nat} {b0 : Nat} : oc_M l D cI cR ad b0 yX4_init cX4_init 1 1 4 24 4 [.int 0, .null, .null, .null, .null, .int 0, .int 0, .int 0, .long 0, .int 0, .int 0] [] (cSce cI) := by
  intro h0 sz hsz
  refine oh_ofW (cc := cX4_init) (maxL := 1) (ret := none) (by decide +kernel) rfl ?_
  intro p e s m args below meth c s₁ B hml hv
  obtain ⟨rfl, hsz2, hP, hD0, hAmb, hAO⟩ := hv
  have hx := B.exec
  have hb := B.bytes
  have hr := B.returns
  have hlocks := B.notSynchronized
  have hown : s.vm.findClass RX4 = some m.cls := findClass_of_methodNamed B.named
  have hin : meth.name = "<init>" := (name_of_methodNamed B.named B.method).1
  subst hsz2
  have hD := hD0.self (sz := s.heap.size)
  have hAB : ∀ x, va_A [(h0, .inr (4, [.int 0, .null, .null, .null, .null, .int 0, .int 0, .int 0, .long 0, .int 0, .int 0]))] s.heap.size x → b0 ≤ x := fun x hx => by
    rcases hx with ⟨j, e9, h9⟩ | h9
    · exact hD0.2 j (x, e9) h9
    · exact Nat.le_trans hsz h9
  have hA : ∀ x : Nat, s.heap.size ≤ x → va_A [(h0, .inr (4, [.int 0, .null, .null, .null, .null, .int 0, .int 0, .int 0, .long 0, .int 0, .int 0]))] s.heap.size x := fun x h9 => Or.inr h9
  generalize va_A [(h0, .inr (4, [.int 0, .null, .null, .null, .null, .int 0, .int 0, .int 0, .long 0, .int 0, .int 0]))] s.heap.size = A at hD hAB hA ⊢
  have hS : va_S A s.heap s.heap [] := va_S.rf
  have hl := lv_entry ([.ref h0]) (n := 1) (Nat.le_of_ble_eq_true rfl)
  rw [lg_entry_eq]
  generalize (lg_sl ([.ref h0]) ++ List.replicate (1 - (lg_sl ([.ref h0])).length) Slot.unset).toArray = ls at hl ⊢
  have hl : lv_has ls 1 [(0, .ref h0)] := hl
  refine lv_aload_n hx hb dX4_init_0 rfl (lv_at hl 0 rfl) ?_
  refine W.objInit hx hb hown (oh_Ab hAmb oc_w8) (oh_Ab hAmb oc_w0) (oh_Ab hAmb oc_w1) rfl (by rw [hml]; exact hl.1) rfl dX4_init_1 (Nat.le_of_ble_eq_true rfl) (Nat.le_of_ble_eq_true rfl) ?_
  refine W.eq (g2 := F0 m 4 ls []) rfl ?_
  refine lv_aload_n hx hb dX4_init_4 rfl (lv_at hl 0 rfl) ?_
  refine lv_bipush (v := 6) hx hb dX4_init_5 (by decide) ?_
  refine oc_newI (N' := 6) hx hb hAmb hP hD hS hA (by decide) (by decide) (by decide) (Nat.le_of_ble_eq_true rfl) (Nat.le_of_ble_eq_true rfl) dX4_init_7 (fun q0 H hP hD hS => ?_)
  have hP : va_P D vwCl ((h0, .inr (4, [.int 0, .null, .null, .null, .null, .int 0, .int 0, .int 0, .long 0, .int 0, .int 0])) :: [(q0, (.inl (cI, 6, .inl (fun _ => 0)) : va_E))]) _ := hP
  have hD : va_D A ((h0, .inr (4, [.int 0, .null, .null, .null, .null, .int 0, .int 0, .int 0, .long 0, .int 0, .int 0])) :: [(q0, (.inl (cI, 6, .inl (fun _ => 0)) : va_E))]) := hD
  refine W.widen (k := 1) (n := 6) (by omega) (by omega) ?_
  refine va_putF (D := D) (ci := 4) (v := .ref q0) (ty := tyX4 1) (C := RX4) (T := TX4) (N := 11) hx hb (oh_ts hAmb) (oc_in (ci := 4) rfl) tyX4 tyX4_ok nmX4 hown hAmb.1 hP hD hS 0 rfl rfl 1 (by decide) (oh_Ab hAmb oc_w9) (fun _ h9 => h9) rfl hin rfl (by decide +kernel) rfl rfl (Nat.le_of_ble_eq_true rfl) dX4_init_9 (fun H locs hP hD hS => ?_)
  have hP : va_P D vwCl ((h0, .inr (4, [.int 0, .ref q0, .null, .null, .null, .int 0, .int 0, .int 0, .long 0, .int 0, .int 0])) :: [(q0, (.inl (cI, 6, .inl (fun _ => 0)) : va_E))]) _ := hP
  have hD : va_D A ((h0, .inr (4, [.int 0, .ref q0, .null, .null, .null, .int 0, .int 0, .int 0, .long 0, .int 0, .int 0])) :: [(q0, (.inl (cI, 6, .inl (fun _ => 0)) : va_E))]) := hD
  refine lv_aload_n hx hb dX4_init_12 rfl (lv_at hl 0 rfl) ?_
  refine lv_bipush (v := 6) hx hb dX4_init_13 (by decide) ?_
  refine oc_newI (N' := 6) hx hb hAmb hP hD hS hA (by decide) (by decide) (by decide) (Nat.le_of_ble_eq_true rfl) (Nat.le_of_ble_eq_true rfl) dX4_init_15 (fun q1 H hP hD hS => ?_)
  have hP : va_P D vwCl ((h0, .inr (4, [.int 0, .ref q0, .null, .null, .null, .int 0, .int 0, .int 0, .long 0, .int 0, .int 0])) :: ([(q0, (.inl (cI, 6, .inl (fun _ => 0)) : va_E))] ++ [(q1, (.inl (cI, 6, .inl (fun _ => 0)) : va_E))])) _ := hP
  have hD : va_D A ((h0, .inr (4, [.int 0, .ref q0, .null, .null, .null, .int 0, .int 0, .int 0, .long 0, .int 0, .int 0])) :: ([(q0, (.inl (cI, 6, .inl (fun _ => 0)) : va_E))] ++ [(q1, (.inl (cI, 6, .inl (fun _ => 0)) : va_E))])) := hD
  refine W.widen (k := 2) (n := 12) (by omega) (by omega) ?_
  refine va_putF (D := D) (ci := 4) (v := .ref q1) (ty := tyX4 2) (C := RX4) (T := TX4) (N := 11) hx hb (oh_ts hAmb) (oc_in (ci := 4) rfl) tyX4 tyX4_ok nmX4 hown hAmb.1 hP hD hS 0 rfl rfl 2 (by decide) (oh_Ab hAmb oc_w10) (fun _ h9 => h9) rfl hin rfl (by decide +kernel) rfl rfl (Nat.le_of_ble_eq_true rfl) dX4_init_17 (fun H locs hP hD hS => ?_)
  have hP : va_P D vwCl ((h0, .inr (4, [.int 0, .ref q0, .ref q1, .null, .null, .int 0, .int 0, .int 0, .long 0, .int 0, .int 0])) :: ([(q0, (.inl (cI, 6, .inl (fun _ => 0)) : va_E))] ++ [(q1, (.inl (cI, 6, .inl (fun _ => 0)) : va_E))])) _ := hP
  have hD : va_D A ((h0, .inr (4, [.int 0, .ref q0, .ref q1, .null, .null, .int 0, .int 0, .int 0, .long 0, .int 0, .int 0])) :: ([(q0, (.inl (cI, 6, .inl (fun _ => 0)) : va_E))] ++ [(q1, (.inl (cI, 6, .inl (fun _ => 0)) : va_E))])) := hD
  refine lv_aload_n hx hb dX4_init_20 rfl (lv_at hl 0 rfl) ?_
  refine lv_bipush (v := 6) hx hb dX4_init_21 (by decide) ?_
  refine oc_newI (N' := 6) hx hb hAmb hP hD hS hA (by decide) (by decide) (by decide) (Nat.le_of_ble_eq_true rfl) (Nat.le_of_ble_eq_true rfl) dX4_init_23 (fun q2 H hP hD hS => ?_)
  have hP : va_P D vwCl ((h0, .inr (4, [.int 0, .ref q0, .ref q1, .null, .null, .int 0, .int 0, .int 0, .long 0, .int 0, .int 0])) :: (([(q0, (.inl (cI, 6, .inl (fun _ => 0)) : va_E))] ++ [(q1, (.inl (cI, 6, .inl (fun _ => 0)) : va_E))]) ++ [(q2, (.inl (cI, 6, .inl (fun _ => 0)) : va_E))])) _ := hP
  have hD : va_D A ((h0, .inr (4, [.int 0, .ref q0, .ref q1, .null, .null, .int 0, .int 0, .int 0, .long 0, .int 0, .int 0])) :: (([(q0, (.inl (cI, 6, .inl (fun _ => 0)) : va_E))] ++ [(q1, (.inl (cI, 6, .inl (fun _ => 0)) : va_E))]) ++ [(q2, (.inl (cI, 6, .inl (fun _ => 0)) : va_E))])) := hD
  refine W.widen (k := 3) (n := 18) (by omega) (by omega) ?_
  refine va_putF (D := D) (ci := 4) (v := .ref q2) (ty := tyX4 3) (C := RX4) (T := TX4) (N := 11) hx hb (oh_ts hAmb) (oc_in (ci := 4) rfl) tyX4 tyX4_ok nmX4 hown hAmb.1 hP hD hS 0 rfl rfl 3 (by decide) (oh_Ab hAmb oc_w11) (fun _ h9 => h9) rfl hin rfl (by decide +kernel) rfl rfl (Nat.le_of_ble_eq_true rfl) dX4_init_25 (fun H locs hP hD hS => ?_)
  have hP : va_P D vwCl ((h0, .inr (4, [.int 0, .ref q0, .ref q1, .ref q2, .null, .int 0, .int 0, .int 0, .long 0, .int 0, .int 0])) :: (([(q0, (.inl (cI, 6, .inl (fun _ => 0)) : va_E))] ++ [(q1, (.inl (cI, 6, .inl (fun _ => 0)) : va_E))]) ++ [(q2, (.inl (cI, 6, .inl (fun _ => 0)) : va_E))])) _ := hP
  have hD : va_D A ((h0, .inr (4, [.int 0, .ref q0, .ref q1, .ref q2, .null, .int 0, .int 0, .int 0, .long 0, .int 0, .int 0])) :: (([(q0, (.inl (cI, 6, .inl (fun _ => 0)) : va_E))] ++ [(q1, (.inl (cI, 6, .inl (fun _ => 0)) : va_E))]) ++ [(q2, (.inl (cI, 6, .inl (fun _ => 0)) : va_E))])) := hD
  refine lv_aload_n hx hb dX4_init_28 rfl (lv_at hl 0 rfl) ?_
  refine lv_bipush (v := 6) hx hb dX4_init_29 (by decide) ?_
  refine oc_newI (N' := 6) hx hb hAmb hP hD hS hA (by decide) (by decide) (by decide) (Nat.le_of_ble_eq_true rfl) (Nat.le_of_ble_eq_true rfl) dX4_init_31 (fun q3 H hP hD hS => ?_)
  have hP : va_P D vwCl ((h0, .inr (4, [.int 0, .ref q0, .ref q1, .ref q2, .null, .int 0, .int 0, .int 0, .long 0, .int 0, .int 0])) :: ((([(q0, (.inl (cI, 6, .inl (fun _ => 0)) : va_E))] ++ [(q1, (.inl (cI, 6, .inl (fun _ => 0)) : va_E))]) ++ [(q2, (.inl (cI, 6, .inl (fun _ => 0)) : va_E))]) ++ [(q3, (.inl (cI, 6, .inl (fun _ => 0)) : va_E))])) _ := hP
  have hD : va_D A ((h0, .inr (4, [.int 0, .ref q0, .ref q1, .ref q2, .null, .int 0, .int 0, .int 0, .long 0, .int 0, .int 0])) :: ((([(q0, (.inl (cI, 6, .inl (fun _ => 0)) : va_E))] ++ [(q1, (.inl (cI, 6, .inl (fun _ => 0)) : va_E))]) ++ [(q2, (.inl (cI, 6, .inl (fun _ => 0)) : va_E))]) ++ [(q3, (.inl (cI, 6, .inl (fun _ => 0)) : va_E))])) := hD
  refine W.widen (k := 4) (n := 24) (by omega) (by omega) ?_
  refine va_putF (D := D) (ci := 4) (v := .ref q3) (ty := tyX4 4) (C := RX4) (T := TX4) (N := 11) hx hb (oh_ts hAmb) (oc_in (ci := 4) rfl) tyX4 tyX4_ok nmX4 hown hAmb.1 hP hD hS 0 rfl rfl 4 (by decide) (oh_Ab hAmb oc_w12) (fun _ h9 => h9) rfl hin rfl (by decide +kernel) rfl rfl (Nat.le_of_ble_eq_true rfl) dX4_init_33 (fun H locs hP hD hS => ?_)
  have hP : va_P D vwCl ((h0, .inr (4, [.int 0, .ref q0, .ref q1, .ref q2, .ref q3, .int 0, .int 0, .int 0, .long 0, .int 0, .int 0])) :: ((([(q0, (.inl (cI, 6, .inl (fun _ => 0)) : va_E))] ++ [(q1, (.inl (cI, 6, .inl (fun _ => 0)) : va_E))]) ++ [(q2, (.inl (cI, 6, .inl (fun _ => 0)) : va_E))]) ++ [(q3, (.inl (cI, 6, .inl (fun _ => 0)) : va_E))])) _ := hP
  have hD : va_D A ((h0, .inr (4, [.int 0, .ref q0, .ref q1, .ref q2, .ref q3, .int 0, .int 0, .int 0, .long 0, .int 0, .int 0])) :: ((([(q0, (.inl (cI, 6, .inl (fun _ => 0)) : va_E))] ++ [(q1, (.inl (cI, 6, .inl (fun _ => 0)) : va_E))]) ++ [(q2, (.inl (cI, 6, .inl (fun _ => 0)) : va_E))]) ++ [(q3, (.inl (cI, 6, .inl (fun _ => 0)) : va_E))])) := hD
  refine lv_aload_n hx hb dX4_init_36 rfl (lv_at hl 0 rfl) ?_
  refine lv_iconst (v := 3) hx hb dX4_init_37 (by decide) ?_
  refine va_put (D := D) (ci := 4) (v := .int 3) (ty := tyX4 6) (C := RX4) (T := TX4) (N := 11) hx hb (oh_ts hAmb) (oc_in (ci := 4) rfl) tyX4 tyX4_ok nmX4 hown hAmb.1 hP hD hS 0 rfl rfl 6 (by decide) (oh_Ab hAmb oc_w13) (fun _ h9 => h9) rfl (by decide +kernel) rfl rfl (Nat.le_of_ble_eq_true rfl) dX4_init_38 (fun H locs hP hD hS => ?_)
  have hP : va_P D vwCl ((h0, .inr (4, [.int 0, .ref q0, .ref q1, .ref q2, .ref q3, .int 0, .int 3, .int 0, .long 0, .int 0, .int 0])) :: ((([(q0, (.inl (cI, 6, .inl (fun _ => 0)) : va_E))] ++ [(q1, (.inl (cI, 6, .inl (fun _ => 0)) : va_E))]) ++ [(q2, (.inl (cI, 6, .inl (fun _ => 0)) : va_E))]) ++ [(q3, (.inl (cI, 6, .inl (fun _ => 0)) : va_E))])) _ := hP
  have hD : va_D A ((h0, .inr (4, [.int 0, .ref q0, .ref q1, .ref q2, .ref q3, .int 0, .int 3, .int 0, .long 0, .int 0, .int 0])) :: ((([(q0, (.inl (cI, 6, .inl (fun _ => 0)) : va_E))] ++ [(q1, (.inl (cI, 6, .inl (fun _ => 0)) : va_E))]) ++ [(q2, (.inl (cI, 6, .inl (fun _ => 0)) : va_E))]) ++ [(q3, (.inl (cI, 6, .inl (fun _ => 0)) : va_E))])) := hD
  refine W.widen (k := 4) (n := 24) (by omega) (by omega) ?_
  exact W.vret hx hb hr (fun t ht hW => ⟨⟨rfl, (fun i => if i = 0 then h0 else if i < 2 then q0 else if i < 3 then q1 else if i < 4 then q2 else q3), rfl, by rw [ht]; exact hP, hD⟩, hS.F ht⟩) hS.2.2 dX4_init_41
set_option maxRecDepth 100000 in
set_option maxHeartbeats 8000000 in
theorem oc_X5 {l : Launch} {D : va_G} {cI cR : ClassId} {ad : Nat → Nat} {b0 : Nat} : oc_M l D cI cR ad b0 yX5_init cX5_init 1 1 1 40 5 [.int 0, .int 0, .null] [] (cShe cI) := by
  intro h0 sz hsz
  refine oh_ofW (cc := cX5_init) (maxL := 1) (ret := none) (by decide +kernel) rfl ?_
  intro p e s m args below meth c s₁ B hml hv
  obtain ⟨rfl, hsz2, hP, hD0, hAmb, hAO⟩ := hv
  have hx := B.exec
  have hb := B.bytes
  have hr := B.returns
  have hlocks := B.notSynchronized
  have hown : s.vm.findClass RX5 = some m.cls := findClass_of_methodNamed B.named
  have hin : meth.name = "<init>" := (name_of_methodNamed B.named B.method).1
  subst hsz2
  have hD := hD0.self (sz := s.heap.size)
  have hAB : ∀ x, va_A [(h0, .inr (5, [.int 0, .int 0, .null]))] s.heap.size x → b0 ≤ x := fun x hx => by
    rcases hx with ⟨j, e9, h9⟩ | h9
    · exact hD0.2 j (x, e9) h9
    · exact Nat.le_trans hsz h9
  have hA : ∀ x : Nat, s.heap.size ≤ x → va_A [(h0, .inr (5, [.int 0, .int 0, .null]))] s.heap.size x := fun x h9 => Or.inr h9
  generalize va_A [(h0, .inr (5, [.int 0, .int 0, .null]))] s.heap.size = A at hD hAB hA ⊢
  have hS : va_S A s.heap s.heap [] := va_S.rf
  have hl := lv_entry ([.ref h0]) (n := 1) (Nat.le_of_ble_eq_true rfl)
  rw [lg_entry_eq]
  generalize (lg_sl ([.ref h0]) ++ List.replicate (1 - (lg_sl ([.ref h0])).length) Slot.unset).toArray = ls at hl ⊢
  have hl : lv_has ls 1 [(0, .ref h0)] := hl
  refine lv_aload_n hx hb dX5_init_0 rfl (lv_at hl 0 rfl) ?_
  refine W.objInit hx hb hown (oh_Ab hAmb oc_w14) (oh_Ab hAmb oc_w0) (oh_Ab hAmb oc_w1) rfl (by rw [hml]; exact hl.1) rfl dX5_init_1 (Nat.le_of_ble_eq_true rfl) (Nat.le_of_ble_eq_true rfl) ?_
  refine W.eq (g2 := F0 m 4 ls []) rfl ?_
  refine lv_aload_n hx hb dX5_init_4 rfl (lv_at hl 0 rfl) ?_
  refine lv_bipush (v := 40) hx hb dX5_init_5 (by decide) ?_
  refine oc_newI (N' := 40) hx hb hAmb hP hD hS hA (by decide) (by decide) (by decide) (Nat.le_of_ble_eq_true rfl) (Nat.le_of_ble_eq_true rfl) dX5_init_7 (fun q0 H hP hD hS => ?_)
  have hP : va_P D vwCl ((h0, .inr (5, [.int 0, .int 0, .null])) :: [(q0, (.inl (cI, 40, .inl (fun _ => 0)) : va_E))]) _ := hP
  have hD : va_D A ((h0, .inr (5, [.int 0, .int 0, .null])) :: [(q0, (.inl (cI, 40, .inl (fun _ => 0)) : va_E))]) := hD
  refine W.widen (k := 1) (n := 40) (by omega) (by omega) ?_
  refine va_putF (D := D) (ci := 5) (v := .ref q0) (ty := tyX5 2) (C := RX5) (T := TX5) (N := 3) hx hb (oh_ts hAmb) (oc_in (ci := 5) rfl) tyX5 tyX5_ok nmX5 hown hAmb.1 hP hD hS 0 rfl rfl 2 (by decide) (oh_Ab hAmb oc_w15) (fun _ h9 => h9) rfl hin rfl (by decide +kernel) rfl rfl (Nat.le_of_ble_eq_true rfl) dX5_init_9 (fun H locs hP hD hS => ?_)
  have hP : va_P D vwCl ((h0, .inr (5, [.int 0, .int 0, .ref q0])) :: [(q0, (.inl (cI, 40, .inl (fun _ => 0)) : va_E))]) _ := hP
  have hD : va_D A ((h0, .inr (5, [.int 0, .int 0, .ref q0])) :: [(q0, (.inl (cI, 40, .inl (fun _ => 0)) : va_E))]) := hD
  refine W.widen (k := 1) (n := 40) (by omega) (by omega) ?_
  exact W.vret hx hb hr (fun t ht hW => ⟨⟨rfl, (fun i => if i = 0 then h0 else q0), rfl, by rw [ht]; exact hP, hD⟩, hS.F ht⟩) hS.2.2 dX5_init_12
set_option maxRecDepth 100000 in
set_option maxHeartbeats 8000000 in
theorem oc_X1 {l : Launch} {D : va_G} {cI cR : ClassId} {ad : Nat → Nat} {b0 : Nat} {u : Int32} : oc_M l D cI cR ad b0 yX1_init cX1_init 2 2 3 102 1 [.int 0, .null, .null] [.int u] (cLaw cI u) := by
  intro h0 sz hsz
  refine oh_ofW (cc := cX1_init) (maxL := 2) (ret := none) (by decide +kernel) rfl ?_
  intro p e s m args below meth c s₁ B hml hv
  obtain ⟨rfl, hsz2, hP, hD0, hAmb, hAO⟩ := hv
  have hx := B.exec
  have hb := B.bytes
  have hr := B.returns
  have hlocks := B.notSynchronized
  have hown : s.vm.findClass RX1 = some m.cls := findClass_of_methodNamed B.named
  have hin : meth.name = "<init>" := (name_of_methodNamed B.named B.method).1
  subst hsz2
  have hD := hD0.self (sz := s.heap.size)
  have hAB : ∀ x, va_A [(h0, .inr (1, [.int 0, .null, .null]))] s.heap.size x → b0 ≤ x := fun x hx => by
    rcases hx with ⟨j, e9, h9⟩ | h9
    · exact hD0.2 j (x, e9) h9
    · exact Nat.le_trans hsz h9
  have hA : ∀ x : Nat, s.heap.size ≤ x → va_A [(h0, .inr (1, [.int 0, .null, .null]))] s.heap.size x := fun x h9 => Or.inr h9
  generalize va_A [(h0, .inr (1, [.int 0, .null, .null]))] s.heap.size = A at hD hAB hA ⊢
  have hS : va_S A s.heap s.heap [] := va_S.rf
  have hl := lv_entry ([.ref h0, .int u]) (n := 2) (Nat.le_of_ble_eq_true rfl)
  rw [lg_entry_eq]
  generalize (lg_sl ([.ref h0, .int u]) ++ List.replicate (2 - (lg_sl ([.ref h0, .int u])).length) Slot.unset).toArray = ls at hl ⊢
  have hl : lv_has ls 2 [(0, .ref h0), (1, .int u)] := hl
  refine lv_aload_n hx hb dX1_init_0 rfl (lv_at hl 0 rfl) ?_
  refine W.objInit hx hb hown (oh_Ab hAmb oc_w16) (oh_Ab hAmb oc_w0) (oh_Ab hAmb oc_w1) rfl (by rw [hml]; exact hl.1) rfl dX1_init_1 (Nat.le_of_ble_eq_true rfl) (Nat.le_of_ble_eq_true rfl) ?_
  refine W.eq (g2 := F0 m 4 ls []) rfl ?_
  refine lv_aload_n hx hb dX1_init_4 rfl (lv_at hl 0 rfl) ?_
  refine va_new (ci := 3) (fs := [.null, .int 0]) (C := RX3) (T := TX3) (N := 2) hx hb (oh_ts hAmb) (oc_in (ci := 3) rfl) tyX3 tyX3_ok hown (oh_Ab hAmb oc_w17) (oh_Ab hAmb oc_w18) (oh_Ab hAmb oc_w19) hAmb.1 hP hD hS hA rfl (fun j hj => oc_def_3 j hj) (Nat.le_of_ble_eq_true rfl) (Nat.le_of_ble_eq_true rfl) dX1_init_5 (fun q0 H hP hD hS => ?_)
  have hP : va_P D vwCl ((h0, .inr (1, [.int 0, .null, .null])) :: [(q0, (.inr (3, [.null, .int 0]) : va_E))]) _ := hP
  have hD : va_D A ((h0, .inr (1, [.int 0, .null, .null])) :: [(q0, (.inr (3, [.null, .int 0]) : va_E))]) := hD
  refine W.widen (k := 1) (n := 2) (by omega) (by omega) ?_
  refine lv_dup hx hb dX1_init_8 rfl ?_
  refine lv_bipush (v := 50) hx hb dX1_init_9 (by decide) ?_
  refine oc_callN (av := [.int 50]) (ci := 3) (own := RX1) (A := A) (wr := [(h0, .inr (1, [.int 0, .null, .null]))]) hx hb hml hown hAmb hAO hAB hsz (oc_X3 (n := 50) (by omega)) oc_w20 oc_w19 oc_w21 oc_w22 (by decide +kernel) ⟨Nat.le_of_ble_eq_true rfl, Nat.le_of_ble_eq_true rfl⟩ ⟨Nat.le_of_ble_eq_true rfl, Nat.le_of_ble_eq_true rfl⟩ hl.1 (Nat.le_of_ble_eq_true rfl) hP hD hS hA dX1_init_11 (fun a1 H2 locs2 a1e nP nD nS => ?_)
  clear hP hD hS
  subst a1e
  have hP := nP
  have hD := nD
  have hS := nS
  have hP : va_P D vwCl ((h0, .inr (1, [.int 0, .null, .null])) :: cRow cI 50 a1) _ := hP
  have hD : va_D A ((h0, .inr (1, [.int 0, .null, .null])) :: cRow cI 50 a1) := hD
  refine W.widen (k := 2) (n := 52) (by omega) (by omega) ?_
  refine va_putF (D := D) (ci := 1) (v := .ref (a1 0)) (ty := tyX1 1) (C := RX1) (T := TX1) (N := 3) hx hb (oh_ts hAmb) (oc_in (ci := 1) rfl) tyX1 tyX1_ok nmX1 hown hAmb.1 hP hD hS 0 rfl rfl 1 (by decide) (oh_Ab hAmb oc_w23) (fun _ h9 => h9) rfl hin rfl (by decide +kernel) rfl rfl (Nat.le_of_ble_eq_true rfl) dX1_init_14 (fun H locs hP hD hS => ?_)
  have hP : va_P D vwCl ((h0, .inr (1, [.int 0, .ref (a1 0), .null])) :: cRow cI 50 a1) _ := hP
  have hD : va_D A ((h0, .inr (1, [.int 0, .ref (a1 0), .null])) :: cRow cI 50 a1) := hD
  refine lv_aload_n hx hb dX1_init_17 rfl (lv_at hl 0 rfl) ?_
  refine lv_bipush (v := 50) hx hb dX1_init_18 (by decide) ?_
  refine oc_newI (N' := 50) hx hb hAmb hP hD hS hA (by decide) (by decide) (by decide) (Nat.le_of_ble_eq_true rfl) (Nat.le_of_ble_eq_true rfl) dX1_init_20 (fun q2 H hP hD hS => ?_)
  have hP : va_P D vwCl ((h0, .inr (1, [.int 0, .ref (a1 0), .null])) :: (cRow cI 50 a1 ++ [(q2, (.inl (cI, 50, .inl (fun _ => 0)) : va_E))])) _ := hP
  have hD : va_D A ((h0, .inr (1, [.int 0, .ref (a1 0), .null])) :: (cRow cI 50 a1 ++ [(q2, (.inl (cI, 50, .inl (fun _ => 0)) : va_E))])) := hD
  refine W.widen (k := 3) (n := 102) (by omega) (by omega) ?_
  refine va_putF (D := D) (ci := 1) (v := .ref q2) (ty := tyX1 2) (C := RX1) (T := TX1) (N := 3) hx hb (oh_ts hAmb) (oc_in (ci := 1) rfl) tyX1 tyX1_ok nmX1 hown hAmb.1 hP hD hS 0 rfl rfl 2 (by decide) (oh_Ab hAmb oc_w24) (fun _ h9 => h9) rfl hin rfl (by decide +kernel) rfl rfl (Nat.le_of_ble_eq_true rfl) dX1_init_22 (fun H locs hP hD hS => ?_)
  have hP : va_P D vwCl ((h0, .inr (1, [.int 0, .ref (a1 0), .ref q2])) :: (cRow cI 50 a1 ++ [(q2, (.inl (cI, 50, .inl (fun _ => 0)) : va_E))])) _ := hP
  have hD : va_D A ((h0, .inr (1, [.int 0, .ref (a1 0), .ref q2])) :: (cRow cI 50 a1 ++ [(q2, (.inl (cI, 50, .inl (fun _ => 0)) : va_E))])) := hD
  refine lv_aload_n hx hb dX1_init_25 rfl (lv_at hl 0 rfl) ?_
  refine lv_iload_n hx hb dX1_init_26 rfl (lv_at hl 1 rfl) ?_
  refine va_putF (D := D) (ci := 1) (v := .int u) (ty := tyX1 0) (C := RX1) (T := TX1) (N := 3) hx hb (oh_ts hAmb) (oc_in (ci := 1) rfl) tyX1 tyX1_ok nmX1 hown hAmb.1 hP hD hS 0 rfl rfl 0 (by decide) (oh_Ab hAmb oc_w25) (fun _ h9 => h9) rfl hin rfl (by decide +kernel) rfl rfl (Nat.le_of_ble_eq_true rfl) dX1_init_27 (fun H locs hP hD hS => ?_)
  have hP : va_P D vwCl ((h0, .inr (1, [.int u, .ref (a1 0), .ref q2])) :: (cRow cI 50 a1 ++ [(q2, (.inl (cI, 50, .inl (fun _ => 0)) : va_E))])) _ := hP
  have hD : va_D A ((h0, .inr (1, [.int u, .ref (a1 0), .ref q2])) :: (cRow cI 50 a1 ++ [(q2, (.inl (cI, 50, .inl (fun _ => 0)) : va_E))])) := hD
  refine W.widen (k := 3) (n := 102) (by omega) (by omega) ?_
  exact W.vret hx hb hr (fun t ht hW => ⟨⟨rfl, (fun i => if i = 0 then h0 else if i < 3 then a1 (i - 1) else q2), rfl, by rw [ht]; exact hP, hD⟩, hS.F ht⟩) hS.2.2 dX1_init_30
set_option maxRecDepth 100000 in
set_option maxHeartbeats 8000000 in
theorem oc_X2 {l : Launch} {D : va_G} {cI cR : ClassId} {ad : Nat → Nat} {b0 : Nat} : oc_M l D cI cR ad b0 yX2_init cX2_init 1 2 4 104 2 [.null, .null, .null, .int 0] [] (cRea cI (ad 2000)) := by
  intro h0 sz hsz
  refine oh_ofW (cc := cX2_init) (maxL := 1) (ret := none) (by decide +kernel) rfl ?_
  intro p e s m args below meth c s₁ B hml hv
  obtain ⟨rfl, hsz2, hP, hD0, hAmb, hAO⟩ := hv
  have hx := B.exec
  have hb := B.bytes
  have hr := B.returns
  have hlocks := B.notSynchronized
  have hown : s.vm.findClass RX2 = some m.cls := findClass_of_methodNamed B.named
  have hin : meth.name = "<init>" := (name_of_methodNamed B.named B.method).1
  subst hsz2
  have hD := hD0.self (sz := s.heap.size)
  have hAB : ∀ x, va_A [(h0, .inr (2, [.null, .null, .null, .int 0]))] s.heap.size x → b0 ≤ x := fun x hx => by
    rcases hx with ⟨j, e9, h9⟩ | h9
    · exact hD0.2 j (x, e9) h9
    · exact Nat.le_trans hsz h9
  have hA : ∀ x : Nat, s.heap.size ≤ x → va_A [(h0, .inr (2, [.null, .null, .null, .int 0]))] s.heap.size x := fun x h9 => Or.inr h9
  generalize va_A [(h0, .inr (2, [.null, .null, .null, .int 0]))] s.heap.size = A at hD hAB hA ⊢
  have hS : va_S A s.heap s.heap [] := va_S.rf
  have hl := lv_entry ([.ref h0]) (n := 1) (Nat.le_of_ble_eq_true rfl)
  rw [lg_entry_eq]
  generalize (lg_sl ([.ref h0]) ++ List.replicate (1 - (lg_sl ([.ref h0])).length) Slot.unset).toArray = ls at hl ⊢
  have hl : lv_has ls 1 [(0, .ref h0)] := hl
  refine lv_aload_n hx hb dX2_init_0 rfl (lv_at hl 0 rfl) ?_
  refine W.objInit hx hb hown (oh_Ab hAmb oc_w26) (oh_Ab hAmb oc_w0) (oh_Ab hAmb oc_w1) rfl (by rw [hml]; exact hl.1) rfl dX2_init_1 (Nat.le_of_ble_eq_true rfl) (Nat.le_of_ble_eq_true rfl) ?_
  refine W.eq (g2 := F0 m 4 ls []) rfl ?_
  refine lv_aload_n hx hb dX2_init_4 rfl (lv_at hl 0 rfl) ?_
  refine va_new (ci := 3) (fs := [.null, .int 0]) (C := RX3) (T := TX3) (N := 2) hx hb (oh_ts hAmb) (oc_in (ci := 3) rfl) tyX3 tyX3_ok hown (oh_Ab hAmb oc_w27) (oh_Ab hAmb oc_w18) (oh_Ab hAmb oc_w19) hAmb.1 hP hD hS hA rfl (fun j hj => oc_def_3 j hj) (Nat.le_of_ble_eq_true rfl) (Nat.le_of_ble_eq_true rfl) dX2_init_5 (fun q0 H hP hD hS => ?_)
  have hP : va_P D vwCl ((h0, .inr (2, [.null, .null, .null, .int 0])) :: [(q0, (.inr (3, [.null, .int 0]) : va_E))]) _ := hP
  have hD : va_D A ((h0, .inr (2, [.null, .null, .null, .int 0])) :: [(q0, (.inr (3, [.null, .int 0]) : va_E))]) := hD
  refine W.widen (k := 1) (n := 2) (by omega) (by omega) ?_
  refine lv_dup hx hb dX2_init_8 rfl ?_
  refine lv_bipush (v := 50) hx hb dX2_init_9 (by decide) ?_
  refine oc_callN (av := [.int 50]) (ci := 3) (own := RX2) (A := A) (wr := [(h0, .inr (2, [.null, .null, .null, .int 0]))]) hx hb hml hown hAmb hAO hAB hsz (oc_X3 (n := 50) (by omega)) oc_w20 oc_w19 oc_w28 oc_w22 (by decide +kernel) ⟨Nat.le_of_ble_eq_true rfl, Nat.le_of_ble_eq_true rfl⟩ ⟨Nat.le_of_ble_eq_true rfl, Nat.le_of_ble_eq_true rfl⟩ hl.1 (Nat.le_of_ble_eq_true rfl) hP hD hS hA dX2_init_11 (fun a1 H2 locs2 a1e nP nD nS => ?_)
  clear hP hD hS
  subst a1e
  have hP := nP
  have hD := nD
  have hS := nS
  have hP : va_P D vwCl ((h0, .inr (2, [.null, .null, .null, .int 0])) :: cRow cI 50 a1) _ := hP
  have hD : va_D A ((h0, .inr (2, [.null, .null, .null, .int 0])) :: cRow cI 50 a1) := hD
  refine W.widen (k := 2) (n := 52) (by omega) (by omega) ?_
  refine va_putF (D := D) (ci := 2) (v := .ref (a1 0)) (ty := tyX2 0) (C := RX2) (T := TX2) (N := 4) hx hb (oh_ts hAmb) (oc_in (ci := 2) rfl) tyX2 tyX2_ok nmX2 hown hAmb.1 hP hD hS 0 rfl rfl 0 (by decide) (oh_Ab hAmb oc_w29) (fun _ h9 => h9) rfl hin rfl (by decide +kernel) rfl rfl (Nat.le_of_ble_eq_true rfl) dX2_init_14 (fun H locs hP hD hS => ?_)
  have hP : va_P D vwCl ((h0, .inr (2, [.ref (a1 0), .null, .null, .int 0])) :: cRow cI 50 a1) _ := hP
  have hD : va_D A ((h0, .inr (2, [.ref (a1 0), .null, .null, .int 0])) :: cRow cI 50 a1) := hD
  refine lv_aload_n hx hb dX2_init_17 rfl (lv_at hl 0 rfl) ?_
  refine va_new (ci := 3) (fs := [.null, .int 0]) (C := RX3) (T := TX3) (N := 2) hx hb (oh_ts hAmb) (oc_in (ci := 3) rfl) tyX3 tyX3_ok hown (oh_Ab hAmb oc_w27) (oh_Ab hAmb oc_w18) (oh_Ab hAmb oc_w19) hAmb.1 hP hD hS hA rfl (fun j hj => oc_def_3 j hj) (Nat.le_of_ble_eq_true rfl) (Nat.le_of_ble_eq_true rfl) dX2_init_18 (fun q2 H hP hD hS => ?_)
  have hP : va_P D vwCl ((h0, .inr (2, [.ref (a1 0), .null, .null, .int 0])) :: (cRow cI 50 a1 ++ [(q2, (.inr (3, [.null, .int 0]) : va_E))])) _ := hP
  have hD : va_D A ((h0, .inr (2, [.ref (a1 0), .null, .null, .int 0])) :: (cRow cI 50 a1 ++ [(q2, (.inr (3, [.null, .int 0]) : va_E))])) := hD
  refine W.widen (k := 3) (n := 54) (by omega) (by omega) ?_
  refine lv_dup hx hb dX2_init_21 rfl ?_
  refine lv_bipush (v := 50) hx hb dX2_init_22 (by decide) ?_
  refine oc_callN (av := [.int 50]) (ci := 3) (own := RX2) (A := A) (wr := (h0, .inr (2, [.ref (a1 0), .null, .null, .int 0])) :: cRow cI 50 a1) hx hb hml hown hAmb hAO hAB hsz (oc_X3 (n := 50) (by omega)) oc_w20 oc_w19 oc_w28 oc_w22 (by decide +kernel) ⟨Nat.le_of_ble_eq_true rfl, Nat.le_of_ble_eq_true rfl⟩ ⟨Nat.le_of_ble_eq_true rfl, Nat.le_of_ble_eq_true rfl⟩ hl.1 (Nat.le_of_ble_eq_true rfl) hP hD hS hA dX2_init_24 (fun a3 H2 locs2 a3e nP nD nS => ?_)
  clear hP hD hS
  subst a3e
  have hP := nP
  have hD := nD
  have hS := nS
  have hP : va_P D vwCl ((h0, .inr (2, [.ref (a1 0), .null, .null, .int 0])) :: (cRow cI 50 a1 ++ cRow cI 50 a3)) _ := hP
  have hD : va_D A ((h0, .inr (2, [.ref (a1 0), .null, .null, .int 0])) :: (cRow cI 50 a1 ++ cRow cI 50 a3)) := hD
  refine W.widen (k := 4) (n := 104) (by omega) (by omega) ?_
  refine va_putF (D := D) (ci := 2) (v := .ref (a3 0)) (ty := tyX2 1) (C := RX2) (T := TX2) (N := 4) hx hb (oh_ts hAmb) (oc_in (ci := 2) rfl) tyX2 tyX2_ok nmX2 hown hAmb.1 hP hD hS 0 rfl rfl 1 (by decide) (oh_Ab hAmb oc_w30) (fun _ h9 => h9) rfl hin rfl (by decide +kernel) rfl rfl (Nat.le_of_ble_eq_true rfl) dX2_init_27 (fun H locs hP hD hS => ?_)
  have hP : va_P D vwCl ((h0, .inr (2, [.ref (a1 0), .ref (a3 0), .null, .int 0])) :: (cRow cI 50 a1 ++ cRow cI 50 a3)) _ := hP
  have hD : va_D A ((h0, .inr (2, [.ref (a1 0), .ref (a3 0), .null, .int 0])) :: (cRow cI 50 a1 ++ cRow cI 50 a3)) := hD
  refine lv_aload_n hx hb dX2_init_30 rfl (lv_at hl 0 rfl) ?_
  refine va_ldcS hx hb hown (hAmb.2.2.2.2.2.1 (23, 0, "") (by decide)) dX2_init_31 ?_
  refine va_put (D := D) (ci := 2) (v := .ref (ad (2000 + 0))) (ty := tyX2 2) (C := RX2) (T := TX2) (N := 4) hx hb (oh_ts hAmb) (oc_in (ci := 2) rfl) tyX2 tyX2_ok nmX2 hown hAmb.1 hP hD hS 0 rfl rfl 2 (by decide) (oh_Ab hAmb oc_w31) (fun _ h9 => h9) rfl (by decide +kernel) rfl rfl (Nat.le_of_ble_eq_true rfl) dX2_init_33 (fun H locs hP hD hS => ?_)
  have hP : va_P D vwCl ((h0, .inr (2, [.ref (a1 0), .ref (a3 0), .ref (ad (2000 + 0)), .int 0])) :: (cRow cI 50 a1 ++ cRow cI 50 a3)) _ := hP
  have hD : va_D A ((h0, .inr (2, [.ref (a1 0), .ref (a3 0), .ref (ad (2000 + 0)), .int 0])) :: (cRow cI 50 a1 ++ cRow cI 50 a3)) := hD
  refine W.widen (k := 4) (n := 104) (by omega) (by omega) ?_
  exact W.vret hx hb hr (fun t ht hW => ⟨⟨rfl, (fun i => if i = 0 then h0 else if i < 3 then a1 (i - 1) else a3 (i - 3)), rfl, by rw [ht]; exact hP, hD⟩, hS.F ht⟩) hS.2.2 dX2_init_36
set_option maxRecDepth 100000 in
set_option maxHeartbeats 8000000 in
theorem oc_X6 {l : Launch} {D : va_G} {cI cR : ClassId} {ad : Nat → Nat} {b0 : Nat} : oc_M l D cI cR ad b0 yX6_init cX6_init 1 2 2 52 6 [.null, .int 0, .int 0, .int 0] [] (cVoi cI) := by
  intro h0 sz hsz
  refine oh_ofW (cc := cX6_init) (maxL := 1) (ret := none) (by decide +kernel) rfl ?_
  intro p e s m args below meth c s₁ B hml hv
  obtain ⟨rfl, hsz2, hP, hD0, hAmb, hAO⟩ := hv
  have hx := B.exec
  have hb := B.bytes
  have hr := B.returns
  have hlocks := B.notSynchronized
  have hown : s.vm.findClass RX6 = some m.cls := findClass_of_methodNamed B.named
  have hin : meth.name = "<init>" := (name_of_methodNamed B.named B.method).1
  subst hsz2
  have hD := hD0.self (sz := s.heap.size)
  have hAB : ∀ x, va_A [(h0, .inr (6, [.null, .int 0, .int 0, .int 0]))] s.heap.size x → b0 ≤ x := fun x hx => by
    rcases hx with ⟨j, e9, h9⟩ | h9
    · exact hD0.2 j (x, e9) h9
    · exact Nat.le_trans hsz h9
  have hA : ∀ x : Nat, s.heap.size ≤ x → va_A [(h0, .inr (6, [.null, .int 0, .int 0, .int 0]))] s.heap.size x := fun x h9 => Or.inr h9
  generalize va_A [(h0, .inr (6, [.null, .int 0, .int 0, .int 0]))] s.heap.size = A at hD hAB hA ⊢
  have hS : va_S A s.heap s.heap [] := va_S.rf
  have hl := lv_entry ([.ref h0]) (n := 1) (Nat.le_of_ble_eq_true rfl)
  rw [lg_entry_eq]
  generalize (lg_sl ([.ref h0]) ++ List.replicate (1 - (lg_sl ([.ref h0])).length) Slot.unset).toArray = ls at hl ⊢
  have hl : lv_has ls 1 [(0, .ref h0)] := hl
  refine lv_aload_n hx hb dX6_init_0 rfl (lv_at hl 0 rfl) ?_
  refine W.objInit hx hb hown (oh_Ab hAmb oc_w32) (oh_Ab hAmb oc_w0) (oh_Ab hAmb oc_w1) rfl (by rw [hml]; exact hl.1) rfl dX6_init_1 (Nat.le_of_ble_eq_true rfl) (Nat.le_of_ble_eq_true rfl) ?_
  refine W.eq (g2 := F0 m 4 ls []) rfl ?_
  refine lv_aload_n hx hb dX6_init_4 rfl (lv_at hl 0 rfl) ?_
  refine va_new (ci := 3) (fs := [.null, .int 0]) (C := RX3) (T := TX3) (N := 2) hx hb (oh_ts hAmb) (oc_in (ci := 3) rfl) tyX3 tyX3_ok hown (oh_Ab hAmb oc_w33) (oh_Ab hAmb oc_w18) (oh_Ab hAmb oc_w19) hAmb.1 hP hD hS hA rfl (fun j hj => oc_def_3 j hj) (Nat.le_of_ble_eq_true rfl) (Nat.le_of_ble_eq_true rfl) dX6_init_5 (fun q0 H hP hD hS => ?_)
  have hP : va_P D vwCl ((h0, .inr (6, [.null, .int 0, .int 0, .int 0])) :: [(q0, (.inr (3, [.null, .int 0]) : va_E))]) _ := hP
  have hD : va_D A ((h0, .inr (6, [.null, .int 0, .int 0, .int 0])) :: [(q0, (.inr (3, [.null, .int 0]) : va_E))]) := hD
  refine W.widen (k := 1) (n := 2) (by omega) (by omega) ?_
  refine lv_dup hx hb dX6_init_8 rfl ?_
  refine lv_bipush (v := 40) hx hb dX6_init_9 (by decide) ?_
  refine oc_callN (av := [.int 40]) (ci := 3) (own := RX6) (A := A) (wr := [(h0, .inr (6, [.null, .int 0, .int 0, .int 0]))]) hx hb hml hown hAmb hAO hAB hsz (oc_X3 (n := 40) (by omega)) oc_w20 oc_w19 oc_w34 oc_w22 (by decide +kernel) ⟨Nat.le_of_ble_eq_true rfl, Nat.le_of_ble_eq_true rfl⟩ ⟨Nat.le_of_ble_eq_true rfl, Nat.le_of_ble_eq_true rfl⟩ hl.1 (Nat.le_of_ble_eq_true rfl) hP hD hS hA dX6_init_11 (fun a1 H2 locs2 a1e nP nD nS => ?_)
  clear hP hD hS
  subst a1e
  have hP := nP
  have hD := nD
  have hS := nS
  have hP : va_P D vwCl ((h0, .inr (6, [.null, .int 0, .int 0, .int 0])) :: cRow cI 40 a1) _ := hP
  have hD : va_D A ((h0, .inr (6, [.null, .int 0, .int 0, .int 0])) :: cRow cI 40 a1) := hD
  refine W.widen (k := 2) (n := 52) (by omega) (by omega) ?_
  refine va_putF (D := D) (ci := 6) (v := .ref (a1 0)) (ty := tyX6 0) (C := RX6) (T := TX6) (N := 4) hx hb (oh_ts hAmb) (oc_in (ci := 6) rfl) tyX6 tyX6_ok nmX6 hown hAmb.1 hP hD hS 0 rfl rfl 0 (by decide) (oh_Ab hAmb oc_w35) (fun _ h9 => h9) rfl hin rfl (by decide +kernel) rfl rfl (Nat.le_of_ble_eq_true rfl) dX6_init_14 (fun H locs hP hD hS => ?_)
  have hP : va_P D vwCl ((h0, .inr (6, [.ref (a1 0), .int 0, .int 0, .int 0])) :: cRow cI 40 a1) _ := hP
  have hD : va_D A ((h0, .inr (6, [.ref (a1 0), .int 0, .int 0, .int 0])) :: cRow cI 40 a1) := hD
  refine W.widen (k := 2) (n := 52) (by omega) (by omega) ?_
  exact W.vret hx hb hr (fun t ht hW => ⟨⟨rfl, (fun i => if i = 0 then h0 else a1 (i - 1)), rfl, by rw [ht]; exact hP, hD⟩, hS.F ht⟩) hS.2.2 dX6_init_17

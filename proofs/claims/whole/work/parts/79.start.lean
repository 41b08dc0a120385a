/-! WHAT STANDS AROUND, at the law's start -/
theorem oh_find_mem {α : Type} : ∀ {l : List (Nat × α)} {x : Nat} {q : α}, oh_find l x = some q → (x, q) ∈ l
  | [], _, _, h => by cases h
  | (p, y) :: r, x, q, h => by
    unfold oh_find at h
    split at h
    · rename_i hb
      have := Nat.eq_of_beq_eq_true hb
      subst this
      cases h
      exact List.mem_cons_self
    · exact List.mem_cons_of_mem _ (oh_find_mem h)
theorem oh_Amb_ad {D : va_G} {cI cR : ClassId} {ad ad' : Nat → Nat} {b0 : Nat} {U : State} {H : Heap} (he : ∀ i, 1000 ≤ i → ad' i = ad i) (h : oh_Amb D cI cR ad b0 U H) : oh_Amb D cI cR ad' b0 U H := by
  obtain ⟨h1, h2, h3, h4, h5, h6, h7, h8⟩ := h
  have n1 : ∀ z ∈ oh_xN, 1000 ≤ z.1 := by decide
  have n2 : ∀ z ∈ oh_xI, 1000 ≤ z.1 := by decide
  have n3 : ∀ z ∈ oh_xL, 1000 ≤ z.1 := by decide
  refine ⟨h1, h2, fun x q hx => ?_, fun x q hx => ?_, fun x q hx => ?_, fun q hq => ?_, ?_, h8⟩
  · rw [he x (n1 _ (oh_find_mem hx))]; exact h3 x q hx
  · rw [he x (n2 _ (oh_find_mem hx))]; exact h4 x q hx
  · rw [he x (n3 _ (oh_find_mem hx))]; exact h5 x q hx
  · rw [he _ (by omega)]; exact h6 q hq
  · rw [show (fun i => ad' (2000 + i)) = fun i => ad (2000 + i) from funext fun i => he _ (by omega), show (fun i => ad' (3000 + i)) = fun i => ad (3000 + i) from funext fun i => he _ (by omega)]; exact h7
def nwL : List Cond := flatC (.and given_1 narrow_1)
def nw_ckI (C n : String) (l : List Int32) : Bool := decide (Cond.arrayOf (.static C n "[I") .int ∈ nwL) && (decide (Cond.eq (.length (.static C n "[I")) (.int (Int32.ofNat l.length)) ∈ nwL) && (List.range l.length).all (fun j => decide (Cond.eq (.elem (.static C n "[I") (.int (Int32.ofNat j))) (.int (l.getD j 0)) ∈ nwL)))
def nw_ckL (C n : String) (l : List Int64) : Bool := decide (Cond.arrayOf (.static C n "[J") .long ∈ nwL) && (decide (Cond.eq (.length (.static C n "[J")) (.int (Int32.ofNat l.length)) ∈ nwL) && (List.range l.length).all (fun j => decide (Cond.eq (.elem (.static C n "[J") (.int (Int32.ofNat j))) (.long (l.getD j 0)) ∈ nwL)))
theorem nw_1 : nw_ckI "OtherHat" "ABOVE" [-1, 0, 0, 0, 1, 2, 3] = true := by decide +kernel
theorem nw_2 : nw_ckI "OtherHat$Voices" "OWN" [10, 11, 12, 13, 0, 20, 0, 0, 30, 0, 0, 0, 0, 0, 40, 0, 0, 50, 0, 0, 0, 0, 0, 60, 0, 0, 70, 71] = true := by decide +kernel
theorem nw_3 : nw_ckL "OtherHat" "BLACK_FOR" [-6148914691236517206, -3689348814741910324, -1085102592571150096, -71777214294589696, -281470681808896, -4294967296] = true := by decide +kernel
section NW
variable {b : Nat} {s : State}
theorem nw_out : ∀ a : Nat, a < s.heap.size → ¬ oh_B s.heap.size a := fun a h z => Nat.not_lt.mpr z h
theorem nw_stI (hts : ∀ w ∈ lw_tbl, w.before #[Value.ref b] s = true) (hnw : ∀ w ∈ nwL, w.before #[Value.ref b] s = true) {C n : String} {l : List Int32} (hN : l.length < 2 ^ 31) (ck : nw_ckI C n l = true) (w1 : Cond.laysStatic C n "[I" ∈ lw_tbl) (w2 : Cond.initialized C ∈ lw_tbl) : ∃ t, va_Z C n "[I" (.ref t) (oh_B s.heap.size) s s.heap ∧ va_T .int t l.length (fun j => .int (l.getD j 0)) (oh_B s.heap.size) s s.heap := by
  unfold nw_ckI at ck
  simp only [Bool.and_eq_true, decide_eq_true_eq] at ck
  obtain ⟨k1, k2, k3⟩ := ck
  obtain ⟨t, e, hT⟩ := va_Tof (f := fun j => .int (l.getD j 0)) (A := oh_B s.heap.size) hN (hnw _ k1) (va_eqt (hnw _ k2)) (fun j hj => va_eqt (hnw _ (of_decide_eq_true (List.all_eq_true.mp k3 j (List.mem_range.mpr hj))))) nw_out
  exact ⟨t, va_Zref (hts _ w1) (hts _ w2) e nw_out, hT⟩
theorem nw_stL (hts : ∀ w ∈ lw_tbl, w.before #[Value.ref b] s = true) (hnw : ∀ w ∈ nwL, w.before #[Value.ref b] s = true) {C n : String} {l : List Int64} (hN : l.length < 2 ^ 31) (ck : nw_ckL C n l = true) (w1 : Cond.laysStatic C n "[J" ∈ lw_tbl) (w2 : Cond.initialized C ∈ lw_tbl) : ∃ t, va_Z C n "[J" (.ref t) (oh_B s.heap.size) s s.heap ∧ va_T .long t l.length (fun j => .long (l.getD j 0)) (oh_B s.heap.size) s s.heap := by
  unfold nw_ckL at ck
  simp only [Bool.and_eq_true, decide_eq_true_eq] at ck
  obtain ⟨k1, k2, k3⟩ := ck
  obtain ⟨t, e, hT⟩ := va_Tof (f := fun j => .long (l.getD j 0)) (A := oh_B s.heap.size) hN (hnw _ k1) (va_eqt (hnw _ k2)) (fun j hj => va_eqtl (hnw _ (of_decide_eq_true (List.all_eq_true.mp k3 j (List.mem_range.mpr hj))))) nw_out
  exact ⟨t, va_Zref (hts _ w1) (hts _ w2) e nw_out, hT⟩
def nw_tm (i : Nat) : Term := .string RX2 ([23, 33, 35].getD i 0)
theorem nw_4 : ∀ i, i < 3 → Cond.exactly (nw_tm i) "java/lang/String" ∈ nwL ∧ Cond.eq (.field (nw_tm i) "java/lang/String" "coder" "B") (.int 0) ∈ nwL ∧ Cond.arrayOf (.field (nw_tm i) "java/lang/String" "value" "[B") .byte ∈ nwL ∧ Cond.eq (.length (.field (nw_tm i) "java/lang/String" "value" "[B")) (.int (Int32.ofNat ((oh_tx.map List.length).getD i 0))) ∈ nwL := by decide +kernel
theorem nw_5 : ∀ i, i < 3 → ∀ j, j < (oh_tx.map List.length).getD i 0 → Cond.eq (.elem (.field (nw_tm i) "java/lang/String" "value" "[B") (.int (Int32.ofNat j))) (.int ((oh_tx.getD i []).getD j 0)) ∈ nwL := by decide +kernel
theorem nw_6 : ∀ i, i < 3 → ∀ j, j < 3 → i ≠ j → Cond.not (Cond.eq (nw_tm i) (nw_tm j)) ∈ nwL ∨ Cond.not (Cond.eq (nw_tm j) (nw_tm i)) ∈ nwL := by decide +kernel
theorem nw_7 : ∀ q ∈ oh_xS, Cond.stringRef RX2 q.1 q.2.2 ∈ lw_tbl ∧ q.2.1 < 3 ∧ nw_tm q.2.1 = Term.string RX2 q.1 := by decide +kernel
def nw_in (C : String) (N : Nat) : Bool := lw_tbl.any (fun w => decide (w = .instantiable C N))
theorem nw_in_i {C : String} {N : Nat} (h : nw_in C N = true) : Cond.instantiable C N ∈ lw_tbl := by
  obtain ⟨w, h1, h2⟩ := List.any_eq_true.mp h
  rw [← of_decide_eq_true h2]
  exact h1
theorem nw_8 : vwCl.all (fun x => nw_in x.1 x.2.2) = true := by decide +kernel
theorem nw_9 : Cond.arrayClass .int ∈ lw_tbl ∧ Cond.arrayOver (.object RX5) ∈ lw_tbl ∧ Cond.laysStatic "OtherHat" "ABOVE" "[I" ∈ lw_tbl ∧ Cond.laysStatic "OtherHat$Voices" "OWN" "[I" ∈ lw_tbl ∧ Cond.laysStatic "OtherHat" "BLACK_FOR" "[J" ∈ lw_tbl ∧ Cond.laysStatic "java/lang/String" "COMPACT_STRINGS" "Z" ∈ lw_tbl ∧ Cond.initialized "OtherHat" ∈ lw_tbl ∧ Cond.initialized "OtherHat$Voices" ∈ lw_tbl ∧ Cond.initialized "java/lang/String" ∈ lw_tbl ∧ Cond.eq (.static "java/lang/String" "COMPACT_STRINGS" "Z") (.int 1) ∈ nwL := by decide +kernel
def nw_ad (t0 t1 t2 : Nat) (adK adV : Nat → Nat) (i : Nat) : Nat := if i = 1000 then t0 else if i = 1001 then t1 else if i = 1002 then t2 else if i < 3000 then adK (i - 2000) else adV (i - 3000)
theorem nw_ad2 {t0 t1 t2 : Nat} {adK adV : Nat → Nat} {i : Nat} (h : i < 3) : nw_ad t0 t1 t2 adK adV (2000 + i) = adK i := by
  unfold nw_ad
  rw [if_neg (by omega), if_neg (by omega), if_neg (by omega), if_pos (by omega), Nat.add_sub_cancel_left]
theorem nw_ad3 {t0 t1 t2 : Nat} {adK adV : Nat → Nat} {i : Nat} : nw_ad t0 t1 t2 adK adV (3000 + i) = adV i := by
  unfold nw_ad
  rw [if_neg (by omega), if_neg (by omega), if_neg (by omega), if_neg (by omega), Nat.add_sub_cancel_left]
theorem lw_amb (hts : ∀ w ∈ lw_tbl, w.before #[Value.ref b] s = true) (hgv : (Jvm.Cond.and given_1 narrow_1).before #[Value.ref b] s = true) : ∃ (D : va_G) (cI cR : ClassId) (ad : Nat → Nat), oh_Amb D cI cR ad s.heap.size s s.heap ∧ va_AO RX5 s := by
  have hnw : ∀ w ∈ nwL, w.before #[Value.ref b] s = true := flat_of_before _ hgv
  obtain ⟨w1, w2, w3, w4, w5, w6, w7, w8, w9, w10⟩ := nw_9
  have hD : ∀ c : Nat, ∃ q : ClassId × (Nat → Nat), ∀ x : vw_C, vwCl[c]? = some x → u_Kn s x.1 x.2.1 x.2.2 q.1 q.2 := by
    intro c
    cases hc : vwCl[c]? with
    | none => exact ⟨(0, fun _ => 0), fun x h => by cases h⟩
    | some x =>
      obtain ⟨C, T, N⟩ := x
      obtain ⟨cC, iS, h⟩ := u_known (T := T) (N := N) hts (fun w hw => (oh_cls_w (ci := c) (by rw [oh_nth_eq]; exact hc) w hw).1) (hts _ (nw_in_i (List.all_eq_true.mp nw_8 _ (List.mem_of_getElem? hc))))
      exact ⟨(cC, iS), fun x hx => by cases hx; exact h⟩
  obtain ⟨g, hg⟩ := Classical.axiomOfChoice hD
  obtain ⟨cI, kI, compI, i1, i2, i3⟩ := Cond.arrayClass_spec (hts _ w1)
  obtain ⟨compR, cR, kR, r1, r2, r3, r4, r5⟩ := Cond.arrayOver_spec (hts _ w2)
  obtain ⟨t0, z0, y0⟩ := nw_stI hts hnw (by decide) nw_1 w3 w7
  obtain ⟨t1, z1, y1⟩ := nw_stI hts hnw (by decide) nw_2 w4 w8
  obtain ⟨t2, z2, y2⟩ := nw_stL hts hnw (by decide) nw_3 w5 w7
  obtain ⟨adK, adV, hS, hK⟩ := vk_Sof (N := 3) (tm := nw_tm) (len := oh_tx.map List.length) (byt := oh_tx) (A := oh_B s.heap.size) (by decide) (fun i hi => hnw _ (nw_4 i hi).1) (fun i hi => hnw _ (nw_4 i hi).2.1) (fun i hi => hnw _ (nw_4 i hi).2.2.1) (fun i hi => hnw _ (nw_4 i hi).2.2.2) (fun i hi j hj => hnw _ (nw_5 i hi j hj)) (fun i j hi hj hij => (nw_6 i hi j hj hij).imp (hnw _) (hnw _)) nw_out
  refine ⟨(fun c => (g c).1, fun c => (g c).2), cI, cR, nw_ad t0 t1 t2 adK adV, ⟨⟨fun c x hx => hg c x hx, fun k q hk => ?_⟩, fun w hw ho => va_tabs (oh_okw_on ho) rfl (hts w hw), fun x q hx => ?_, fun x q hx => ?_, fun x q hx => ?_, fun q hq => ?_, ?_, ?_⟩, va_AO.of (hts _ w2)⟩
  · have hk2 : k < 2 := (List.getElem?_eq_some_iff.mp hk).1
    rcases (by omega : k = 0 ∨ k = 1) with rfl | rfl
    · cases hk
      exact ⟨fun n z => ⟨fun k h => (by cases h), kI, i2, compI, i3⟩, i1⟩
    · cases hk
      exact ⟨fun n z => ⟨fun k h => (by cases h), kR, r3, compR, r4⟩, kR, compR, r3, r4, r1, r5⟩
  · have hx := oh_find_mem hx
    simp only [oh_xN, List.mem_cons, List.not_mem_nil, or_false, Prod.mk.injEq] at hx
    rcases hx with ⟨rfl, rfl⟩ | ⟨rfl, rfl⟩ | ⟨rfl, rfl⟩
    · exact z0
    · exact z1
    · exact z2
  · have hx := oh_find_mem hx
    simp only [oh_xI, List.mem_cons, List.not_mem_nil, or_false, Prod.mk.injEq] at hx
    rcases hx with ⟨rfl, rfl⟩ | ⟨rfl, rfl⟩
    · exact y0
    · exact y1
  · have hx := oh_find_mem hx
    simp only [oh_xL, List.mem_cons, List.not_mem_nil, or_false, Prod.mk.injEq] at hx
    rcases hx with ⟨rfl, rfl⟩
    exact y2
  · obtain ⟨h1, h2, h3⟩ := nw_7 q hq
    rw [nw_ad2 h2]
    exact vk_R.of (hts _ h1) (by rw [← h3]; exact hK _ h2)
  · refine ⟨fun i hi => ?_, fun i j hi hj => ?_⟩
    · show va_O "java/lang/String" (nw_ad t0 t1 t2 adK adV (2000 + i)) _ _ _ ∧ va_OF "java/lang/String" "coder" "B" (.int 0) (nw_ad t0 t1 t2 adK adV (2000 + i)) _ _ _ ∧ va_OF "java/lang/String" "value" "[B" (.ref (nw_ad t0 t1 t2 adK adV (3000 + i))) (nw_ad t0 t1 t2 adK adV (2000 + i)) _ _ _ ∧ va_T .byte (nw_ad t0 t1 t2 adK adV (3000 + i)) _ _ _ _ _
      rw [nw_ad2 hi, nw_ad3]
      exact hS.1 i hi
    · show nw_ad t0 t1 t2 adK adV (2000 + i) = nw_ad t0 t1 t2 adK adV (2000 + j) → i = j
      rw [nw_ad2 hi, nw_ad2 hj]
      exact hS.2 i j hi hj
  · exact va_Zof (hts _ w6) (hts _ w9) (va_eqi (hnw _ w10)) nw_out
end NW

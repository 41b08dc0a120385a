/-! THE LAW: calls of the class and of the model, their worlds side by side -/
theorem sub_lt2 {a i n : Nat} (ha : a < 2 ^ 31) (hi : i < 2 ^ 31) (hn : n < 2 ^ 31) : nI a - nI i < nI n ↔ a < n + i := by
  by_cases c : i ≤ a
  · rw [om_sub c, nI_ltI (by omega) hn]
    omega
  · have e : (nI a - nI i).toInt = (a : Int) - i := by
      rw [Int32.toInt_sub, nI_toInt (by omega), nI_toInt hi]
      rw [Int.bmod_def]
      split <;> omega
    rw [Int32.lt_iff_toInt_lt, e, nI_toInt hn]
    omega
theorem and_63 (x : Int32) : ∃ t, t < 64 ∧ x &&& 63 = nI t := by
  refine sub64 (E := 63) (by omega) ?_
  apply b_ext
  intro i hi
  have e : bt (63 : Int32) i = bt (nI 63) i := rfl
  rw [b_and, b_and, b_xor, b_m1 i hi, b_0, e]
  cases bt x i <;> cases bt (nI 63) i <;> rfl
section LWC
variable {p : Program} {l : Launch} {e : Env} {R : Room} {s : State} {m : MethodId} {args : Array Value} {below : List Frame} {meth : Method} {c : Code} {H : Heap} {locs : List Loc} {cells slots : Nat} {Q : State → Prop}
variable {bytes : ByteArray} {pc nL : Nat} {ls : Array Slot} {rest : List Value} {D : va_G} {A : Nat → Prop} {cI cR : ClassId} {ad : Nat → Nat} {b0 : Nat} {own : String}
/-- a call of one of the two, the other's world stays -/
theorem lw_call {G : List oh_Sh} {j x ci d : Nat} {q : oh_MI} {sl : List (Nat × Nat)} {T : u_T} {N : Nat} {av st0 : List Value} {h : oh_St} {Qo : oh_Q} {wo : va_W} (hx : p.tables.exec = Jvm.exec) (hb : c.code = bytes) (hml : c.maxLocals = nL) (hown : s.vm.findClass own = some m.cls) (hAmb : oh_Amb D cI cR ad b0 s s.heap) (hAB : ∀ q, A q → b0 ≤ q) (hbs : b0 ≤ s.heap.size) (hMs : oh_Ms l D cI cR ad b0 G oh_mi d (oh_mwp G oh_M d))
    (hq : oh_nth oh_mi j = some q) (hstc : q.2.2.2.2.1 = false) (wl : Cond.methodLink own x q.1 ∈ lw_tbl ∧ oh_okw (.methodLink own x q.1) = true) (hdes : (parseMethodDescriptor q.1.desc).map (fun d => d.parameters.length) = some av.length) (hg : oh_nth G 0 = some (.inl (ci, sl))) (hc : oh_nth vwCl ci = some (q.1.cls, T, N))
    (hE : oh_mwp G oh_M d j (.ref 0 :: av) h Qo) (hP : va_P D vwCl (oh_W cI cR ad G h) H) (hS : va_S A s.heap H locs) (hA : ∀ x, s.heap.size ≤ x → A x) (hAg : ∀ i, i < G.length → A (ad i)) (hPo : va_P D vwCl wo H) (hdis : ∀ (k : Nat) (y : Nat × va_E), wo[k]? = some y → ∀ i, i < G.length → y.1 ≠ ad i)
    (hR : d + 1 ≤ R.frames ∧ 8 + (q.2.2.1 + 11) + 60 * d ≤ R.locals) (hC : cells ≤ R.cells ∧ slots ≤ R.slots) (hsz : ls.size = nL) (hcat : (rest.map fun v => v.category).sum ≤ 8) (hst : st0 = (av.map (oh_V ad)).reverse ++ .ref (ad 0) :: rest) (hdg : decode bytes pc = .ok (.invokevirtual x, 3))
    (kk : ∀ (r : Option Value) (h' : oh_St) (H1 : Heap) (locs1 : List Loc), Qo r h' → va_P D vwCl (oh_W cI cR ad G h') H1 → va_P D vwCl wo H1 → va_S A s.heap H1 locs1 → W p l e R s m args below meth c H1 locs1 cells slots Q (F0 m (pc + 3) ls ((r.map (oh_V ad)).toList ++ rest))) : W p l e R s m args below meth c H locs cells slots Q (F0 m pc ls st0) := by
  subst hst
  have hckM := oh_mi_ok j q hq
  obtain ⟨hcode, hinst, hini, hmh, hpl, hmL⟩ := oh_ckM_i hckM
  rcases hinst with ⟨z, -⟩ | ⟨-, hin, hsel⟩
  · rw [hstc] at z; cases z
  have hMet := hMs j q hq (.ref 0 :: av) h _ H.size (Nat.le_trans hbs hS.1) hE
  have hfix : CallFix p m c bytes nL s args (lw_tbl.filter oh_okw) own := ⟨hx, hb, hml, hown, oh_ts hAmb⟩
  have hws : ∀ w ∈ [Cond.code q.1 q.2.1 q.2.2.1 q.2.2.2.1], ∀ (a' : Array Value) (U : State), s.WarmedH U.vm → w.before a' U = true := fun w hw a' U hW => by
    rw [List.mem_singleton] at hw
    subst hw
    exact word_at (args := args) hW (Or.inl (oh_good_code hcode.2)) (oh_Ab hAmb hcode)
  have hpar : ∀ sig, parseMethodDescriptor q.1.desc = some sig → av.length = sig.parameters.length := fun sig hs => by
    rw [hs] at hdes
    exact (Option.some.inj hdes).symm
  have hPcU : ∀ U : State, U.heap = H → s.WarmedH U.vm → oh_Pc D cI cR ad b0 G h (.ref 0 :: av) H.size (Value.ref (ad 0) :: av.map (oh_V ad)).toArray U := fun U hU hW => ⟨rfl, by rw [hU], by rw [hU]; exact hP, oh_AmbU hAmb hAB hS hU hW⟩
  have hcell : ∃ cellB : Cell, H[ad 0]? = some cellB ∧ cellB.vm.isStatics = false ∧ s.vm.findClass q.1.cls = some cellB.cls := va_recv (q := (q.1.cls, T, N)) hAmb.1 hP (by rw [← oh_nth_eq]; exact hc) (oh_W_at hg)
  have hrun := va_runV (g := F0 m pc ls ((av.map (oh_V ad)).reverse ++ .ref (ad 0) :: rest)) (below := below) (e := e) (meth := meth) (locs := locs) (cells := cells) (slots := slots) (C := q.1.cls) (As := av.map (oh_V ad)) (rest := rest) (n := av.length) hfix hMet ⟨⟨rfl, rfl, hR.1, hR.2, hws, List.mem_cons_self, oh_Ab hAmb hcode, oh_Ab hAmb hini, hmh, hpar, oh_Ab hAmb wl⟩, oh_Ab hAmb hin, oh_Ab hAmb hsel⟩ ⟨oh_Pc_blind, hcell, hPcU⟩ rfl (by simp) hsz rfl (lv_room hcat) hdg ⟨hC.1, hC.2⟩
  have hF : ∀ z, oh_A ad G H.size z → A z := fun z hz => by
    rcases hz with ⟨i, hi, rfl⟩ | hz
    · exact hAg i hi
    · exact hA z (Nat.le_trans hS.1 hz)
  intro T1 hT X
  obtain ⟨v, st₀, t, T', L, h0, X', hL, e1, e2, ⟨⟨r, h', hv, hp, hb'⟩, hz, hk⟩, st⟩ := hrun T1 hT X
  cases hv
  rw [h0] at hz hk
  rw [← e1] at hb' hz hk
  have hPo1 : va_P D vwCl wo T'.heap := fun k y hy => (hPo k y hy).kept (hk y.1 ((hPo k y hy).lt) (fun z => by
    rcases z with ⟨i, hi, hi2⟩ | z
    · exact hdis k y hy i hi hi2
    · have := (hPo k y hy).lt
      omega))
  obtain ⟨t2, a1, b1⟩ := kk r h' T'.heap (locs ++ L) hp hb' hPo1 ⟨Nat.le_trans hS.1 hz, fun z h1 h2 => by rw [hk z (Nat.lt_of_lt_of_le h1 hS.1) (fun w => h2 (hF z w))]; exact hS.2.1 z h1 h2, fun z hz' => by
    rcases List.mem_append.mp hz' with h | h
    · exact hS.2.2 z h
    · exact hF _ (hL z h)⟩ T' rfl X'
  exact ⟨t2, st t2 a1, b1⟩
end LWC
/-- arguments out of the script -/
def lw_ckA : Nat → List Nat → Bool
  | _, [] => true
  | pc, k :: ks => decide (decode code pc = .ok (.aload_n 0, 1)) && (decide (decode code (pc + 1) = .ok (.iload_n 3, 1)) && (decide (decode code (pc + 2) = .ok (.iconst k, 1)) && (decide (decode code (pc + 3) = .ok (.iadd, 1)) && (decide (decode code (pc + 4) = .ok (.iaload, 1)) && (Nat.ble k 5 && lw_ckA (pc + 5) ks)))))
theorem lw_ckA_cons (pc k : Nat) (ks : List Nat) : lw_ckA pc (k :: ks) = (decide (decode code pc = .ok (.aload_n 0, 1)) && (decide (decode code (pc + 1) = .ok (.iload_n 3, 1)) && (decide (decode code (pc + 2) = .ok (.iconst k, 1)) && (decide (decode code (pc + 3) = .ok (.iadd, 1)) && (decide (decode code (pc + 4) = .ok (.iaload, 1)) && (Nat.ble k 5 && lw_ckA (pc + 5) ks)))))) := by rw [lw_ckA]
theorem lw_push {p : Program} {l : Launch} {e : Env} {R : Room} {s : State} {m : MethodId} {args : Array Value} {below : List Frame} {meth : Method} {c : Code} {H : Heap} {locs : List Loc} {cells slots : Nat} {Q : State → Prop} {ls : Array Slot} {A : Nat → Prop} {b L i nL x1 x2 : Nat} {xs : Nat → Int32} (hx : p.tables.exec = Jvm.exec) (hb : c.code = code) (hX : va_X b L xs s s.heap) (hbl : b < s.heap.size) (hbA : ¬ A b) (hS : va_S A s.heap H locs) (hL : L ≤ 384) (hi : i + 6 ≤ L) (hl : lv_has ls nL [(0, .ref b), (1, .ref x1), (2, .ref x2), (3, .int (nI i))]) : ∀ (ks : List Nat) (pc : Nat) (rest : List Value), lw_ckA pc ks = true → W p l e R s m args below meth c H locs cells slots Q (F0 m (pc + 5 * ks.length) ls ((ks.map (fun k => Value.int (xs (i + k)))).reverse ++ rest)) → W p l e R s m args below meth c H locs cells slots Q (F0 m pc ls rest) := by
  intro ks
  induction ks with
  | nil => intro pc rest _ kk; exact kk
  | cons k ks ih =>
    intro pc rest ck kk
    rw [lw_ckA_cons] at ck
    simp only [Bool.and_eq_true, decide_eq_true_eq] at ck
    obtain ⟨d0, d1, d2, d3, d4, k5, ck⟩ := ck
    have k5 : k ≤ 5 := Nat.le_of_ble_eq_true k5
    refine lv_aload_n hx hb d0 rfl (lv_at hl 0 rfl) (lv_iload_n hx hb d1 rfl (lv_at hl 3 rfl) (lv_iconst (v := nI k) hx hb d2 rfl (lv_iadd hx hb d3 ?_)))
    rw [nI_add]
    refine va_sld hx hb hX hbl hbA hS (oh_in (by omega) (by omega)) d4 ?_
    rw [oh_cl (by omega)]
    refine ih (pc + 5) _ ck ?_
    have e1 : pc + 5 + 5 * ks.length = pc + 5 * (k :: ks).length := by rw [List.length_cons]; omega
    have e2 : (ks.map (fun k => Value.int (xs (i + k)))).reverse ++ Value.int (xs (i + k)) :: rest = ((k :: ks).map (fun k => Value.int (xs (i + k)))).reverse ++ rest := by simp
    rw [e1, e2]
    exact kk

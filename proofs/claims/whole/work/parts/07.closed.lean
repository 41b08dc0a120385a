/-! SOUNDNESS: each instruction -/
theorem oh_gf_i {G : List oh_Sh} {ci k o : Nat} {h : oh_St} {K : Value → Prop} (q : oh_gf G ci k o h K) : ∃ sl z v, oh_nth G o = some (.inl (ci, sl)) ∧ oh_nth sl k = some z ∧ (∀ ad, oh_slv ad h o k z = oh_V ad v) ∧ K v := by
  unfold oh_gf at q
  split at q
  · rename_i c2 sl hg
    split at q
    · rename_i hb
      have := Nat.eq_of_beq_eq_true hb
      subst this
      split at q
      · rename_i z hz
        exact ⟨sl, _, _, hg, hz, fun _ => rfl, q⟩
      · rename_i z hz
        exact ⟨sl, _, _, hg, hz, fun _ => rfl, q⟩
      · rename_i z hz
        exact ⟨sl, _, _, hg, hz, fun _ => rfl, q⟩
      · rename_i z hz
        exact ⟨sl, _, _, hg, hz, fun _ => rfl, q⟩
      · rename_i z hz
        exact ⟨sl, _, _, hg, hz, fun _ => rfl, q⟩
      · exact q.elim
    · exact q.elim
  · exact q.elim
theorem oh_upi_k (h : oh_St) (o k : Nat) (x : Int32) : ∀ j, j ≠ k → (oh_upi h o k x).1 o j = h.1 o j ∧ (oh_upi h o k x).2 o j = h.2 o j := by
  intro j hj
  simp [oh_upi, upd, hj]
theorem oh_upl_k (h : oh_St) (o k : Nat) (x : Int64) : ∀ j, j ≠ k → (oh_upl h o k x).1 o j = h.1 o j ∧ (oh_upl h o k x).2 o j = h.2 o j := by
  intro j hj
  simp [oh_upl, vp_updL, hj]
theorem oh_upi_v (h : oh_St) (o k : Nat) (x : Int32) : (oh_upi h o k x).1 o k = x := by simp [oh_upi, upd]
theorem oh_upl_v (h : oh_St) (o k : Nat) (x : Int64) : (oh_upl h o k x).2 o k = x := by simp [oh_upl, vp_updL]
theorem oh_pf_i {G : List oh_Sh} {ci k o : Nat} {v : Value} {h : oh_St} {K : oh_St → Prop} (q : oh_pf G ci k o v h K) : ∃ sl z h', oh_nth G o = some (.inl (ci, sl)) ∧ oh_nth sl k = some z ∧ (∀ ad, oh_slv ad h' o k z = oh_V ad v) ∧ (∀ a, a ≠ o → h'.1 a = h.1 a ∧ h'.2 a = h.2 a) ∧ (∀ j, j ≠ k → h'.1 o j = h.1 o j ∧ h'.2 o j = h.2 o j) ∧ (∃ ty, (∀ dsc, oh_kd z.1 dsc = true → parseFieldDescriptor dsc = some ty) ∧ ∀ ad, narrow ty (oh_V ad v) = oh_V ad v ∧ fits ty (oh_V ad v) = true) ∧ K h' := by
  unfold oh_pf at q
  split at q
  · rename_i c2 sl hg
    split at q
    · rename_i hb
      have := Nat.eq_of_beq_eq_true hb
      subst this
      split at q
      · rename_i z x hz
        refine ⟨sl, _, _, hg, hz, fun _ => ?_, oh_upi_n h o k x, oh_upi_k h o k x, ⟨.int, fun dsc hd => ?_, fun _ => ⟨rfl, rfl⟩⟩, q⟩
        · show Value.int _ = Value.int x
          rw [oh_upi_v]
        · have := of_decide_eq_true hd
          subst this
          decide +kernel
      · rename_i z x hz
        refine ⟨sl, _, _, hg, hz, fun _ => ?_, oh_upl_n h o k x, oh_upl_k h o k x, ⟨.long, fun dsc hd => ?_, fun _ => ⟨rfl, rfl⟩⟩, q⟩
        · show Value.long _ = Value.long x
          rw [oh_upl_v]
        · have := of_decide_eq_true hd
          subst this
          decide +kernel
      · rename_i z j hz
        split at q
        · rename_i h1 h2
          have h1 : 2000 ≤ (j : Nat) := Nat.le_of_ble_eq_true h1
          have h2 : (j : Nat) ≤ 2002 := Nat.le_of_ble_eq_true h2
          refine ⟨sl, _, _, hg, hz, fun ad => ?_, oh_upi_n h o k _, oh_upi_k h o k _, ⟨.object "java/lang/String", fun dsc hd => ?_, fun _ => ⟨rfl, rfl⟩⟩, q⟩
          · show Value.ref (ad (2000 + _)) = Value.ref (ad j)
            rw [oh_upi_v]
            have key : ∀ i : Nat, 2000 ≤ i → i ≤ 2002 → 2000 + (Int32.ofNat (i - 2000)).toNatClampNeg = i := by
              intro i g1 g2
              have hi : i = 2000 ∨ i = 2001 ∨ i = 2002 := by omega
              rcases hi with rfl | rfl | rfl <;> rfl
            exact congrArg (fun z => Value.ref (ad z)) (key j h1 h2)
          · have := of_decide_eq_true hd
            subst this
            decide +kernel
        · exact q.elim
      · rename_i z x hz
        refine ⟨sl, _, _, hg, hz, fun _ => ?_, oh_upi_n h o k x, oh_upi_k h o k x, ⟨.boolean, fun dsc hd => ?_, fun _ => ?_⟩, q.2⟩
        · show Value.int _ = Value.int x
          rw [oh_upi_v]
        · have := of_decide_eq_true hd
          subst this
          decide +kernel
        · rcases q.1 with rfl | rfl
          · exact ⟨(by decide +kernel : narrow .boolean (.int 0) = .int 0), (by decide +kernel : fits .boolean (.int 0) = true)⟩
          · exact ⟨(by decide +kernel : narrow .boolean (.int 1) = .int 1), (by decide +kernel : fits .boolean (.int 1) = true)⟩
      · exact q.elim
    · exact q.elim
  · exact q.elim
theorem oh_tab_i {J : Nat → Prop} {pc : Nat} {x : Int32} : ∀ (os : List Int) (lo : Nat) (d : Int), (lo : Int) + os.length - 1 ≤ 2147483647 → oh_tab J pc x lo os d → ((x.toInt < lo ∨ (lo : Int) + os.length - 1 < x.toInt) → J ((pc : Int) + d).toNat) ∧ ∀ (k : Nat) (off : Int), os[k]? = some off → x.toInt = lo + k → J ((pc : Int) + off).toNat
  | [], lo, d, _, q => ⟨fun _ => q, fun k off h => by simp at h⟩
  | o :: r, lo, d, h2, q => by
    simp only [List.length_cons] at h2
    have hlo : (Int32.ofNat lo).toInt = lo := nI_toInt (by omega)
    by_cases hx : x = Int32.ofNat lo
    · have hx' : x.toInt = lo := by rw [hx, hlo]
      refine ⟨fun h => by simp only [List.length_cons] at h; omega, fun k off hk he => ?_⟩
      have hk0 : k = 0 := by omega
      subst hk0
      simp at hk
      subst hk
      exact q.1 hx
    · have hx' : ¬ x.toInt = lo := fun z => hx (Int32.toInt_inj.mp (by rw [hlo]; exact z))
      have ih := oh_tab_i r (lo + 1) d (by omega) (q.2 hx)
      refine ⟨fun h => ih.1 (by simp only [List.length_cons] at h; omega), fun k off hk he => ?_⟩
      cases k with
      | zero => exact absurd (by simpa using he) hx'
      | succ k => exact ih.2 k off (by simpa using hk) (by rw [he]; push_cast; omega)
theorem oh_lkp_i {J : Nat → Prop} {pc : Nat} {x : Int32} {d : Int} : ∀ (ps : List (Int × Int)), (∀ o ∈ ps, 0 ≤ o.1 ∧ o.1 ≤ 2147483647) → oh_lkp J pc x d ps → J ((pc : Int) + Op.lookupswitch.offset ps d x.toInt).toNat
  | [], _, q => q
  | o :: r, hr, q => by
    obtain ⟨a, of⟩ := o
    have h1 := hr (a, of) List.mem_cons_self
    have hlo : (Int32.ofNat a.toNat).toInt = a := by
      have := nI_toInt (n := a.toNat) (by omega)
      rw [show nI a.toNat = Int32.ofNat a.toNat from rfl] at this
      rw [this]
      omega
    by_cases hx : x = Int32.ofNat a.toNat
    · have hx' : x.toInt = a := by rw [hx, hlo]
      rw [Op.lookupswitch.offset_cons, if_pos hx'.symm]
      exact q.1 hx
    · rw [lv_osw hx hlo]
      exact oh_lkp_i r (fun o ho => hr o (List.mem_cons_of_mem _ ho)) (q.2 hx)
theorem oh_lkp_0 {pc : Nat} {x d : Int} : ∀ (ps : List (Int × Int)), (∀ o ∈ ps, 0 ≤ (pc : Int) + o.2) → 0 ≤ (pc : Int) + d → 0 ≤ (pc : Int) + Op.lookupswitch.offset ps d x
  | [], _, h => h
  | o :: r, hr, h => by
    obtain ⟨a, of⟩ := o
    rw [Op.lookupswitch.offset_cons]
    split
    · exact hr (a, of) List.mem_cons_self
    · exact oh_lkp_0 r (fun o ho => hr o (List.mem_cons_of_mem _ ho)) h
section OHC
variable {p : Program} {l : Launch} {e : Env} {R : Room} {s : State} {m : MethodId} {args : Array Value} {below : List Frame} {meth : Method} {c : Code} {D : va_G} {cI cR : ClassId} {ad : Nat → Nat} {G : List oh_Sh} {mi : List oh_MI} {own : String} {ret : Option FieldType} {bytes : ByteArray} {nL b0 : Nat} {T : oh_T}
set_option maxHeartbeats 8000000 in
theorem oh_closed {d : Nat} {E : oh_E} {Q : oh_Q} (hx : p.tables.exec = Jvm.exec) (hb : c.code = bytes) (hml : c.maxLocals = nL) (hown : s.vm.findClass own = some m.cls) (hr : meth.sig.returnType = ret) (hlocks : meth.locks = false) (hAmb : oh_Amb D cI cR ad b0 s s.heap) (hG : oh_ckG G = true) (hinj : ∀ i j, i < G.length → j < G.length → ad i = ad j → i = j) (hb0 : ∀ i, i < G.length → b0 ≤ ad i) (hbs : b0 ≤ s.heap.size) (hR : R = oh_rm (d + 1)) (hE : oh_Ms l D cI cR ad b0 G mi d E) (hmi : ∀ j q, oh_nth mi j = some q → oh_ckM q = true) (hT : oh_ckT mi own ret bytes T = true)
    (pc : Nat) (code : oh_C) (l' : oh_L) (st : List Value) (h : oh_St)
    (q : oh_nx G T E Q (oh_Pm p l e R s m args below meth c D cI cR ad G (oh_A ad G s.heap.size) (MQ below (oh_Qc D cI cR ad G Q s.heap.size) args s 0 0 (oh_A ad G s.heap.size)) mi own ret bytes nL) (oh_Pm p l e R s m args below meth c D cI cR ad G (oh_A ad G s.heap.size) (MQ below (oh_Qc D cI cR ad G Q s.heap.size) args s 0 0 (oh_A ad G s.heap.size)) mi own ret bytes nL) pc code l' st h) :
    oh_Pm p l e R s m args below meth c D cI cR ad G (oh_A ad G s.heap.size) (MQ below (oh_Qc D cI cR ad G Q s.heap.size) args s 0 0 (oh_A ad G s.heap.size)) mi own ret bytes nL pc code l' st h := by
  intro H locs lsc hP hS hl hk
  have hAB : ∀ q, oh_A ad G s.heap.size q → b0 ≤ q := fun z hz => by
    rcases hz with ⟨i, hi, rfl⟩ | hz
    · exact hb0 i hi
    · exact Nat.le_trans hbs hz
  have hD : va_D (oh_A ad G s.heap.size) (oh_W cI cR ad G h) := oh_W_D hinj (fun i hi => Or.inl ⟨i, hi, rfl⟩)
  rcases code with _ | ⟨⟨i, n, a, b, c', e', ps⟩, r⟩
  · exact oh_J_W hT q hP hS hl
  obtain ⟨hdg, hln, hck, hkr⟩ := oh_ckS_i hk
  cases i
  all_goals dsimp only [oh_nx] at q
  all_goals try exact q.elim
  case iconst v =>
    obtain rfl : n = 1 := Nat.eq_of_beq_eq_true hln
    exact lv_iconst hx hb hdg (of_decide_eq_true hck) (q H locs lsc hP hS hl hkr)
  case bipush v =>
    obtain rfl : n = 2 := Nat.eq_of_beq_eq_true hln
    exact lv_bipush hx hb hdg (of_decide_eq_true hck) (q H locs lsc hP hS hl hkr)
  case sipush v =>
    obtain rfl : n = 3 := Nat.eq_of_beq_eq_true hln
    exact lv_sipush hx hb hdg (of_decide_eq_true hck) (q H locs lsc hP hS hl hkr)
  case lconst v =>
    obtain rfl : n = 1 := Nat.eq_of_beq_eq_true hln
    exact lv_lconst hx hb hdg (of_decide_eq_true hck) (q H locs lsc hP hS hl hkr)
  case ldc x =>
    obtain rfl : n = 2 := Nat.eq_of_beq_eq_true hln
    rcases b with _ | b
    · exact lv_ldc hx hb hown (oh_Ab hAmb (oh_wd_i hck)) hdg (q H locs lsc hP hS hl hkr)
    · obtain ⟨h1, h2⟩ := (Bool.and_eq_true _ _).mp hck
      have := of_decide_eq_true h1
      subst this
      split at h2
      · rename_i z hz
        obtain ⟨h3, h4⟩ := (Bool.and_eq_true _ _).mp h2
        have h3 := of_decide_eq_true h3
        have h4 := of_decide_eq_true h4
        rw [oh_nth_eq] at hz
        have h6 := hAmb.2.2.2.2.2.1 z (List.mem_of_getElem? hz)
        rw [h3, h4] at h6
        exact va_ldcS hx hb hown h6 hdg (q H locs lsc hP hS hl hkr)
      · cases h2
  case ldc_w x =>
    obtain rfl : n = 3 := Nat.eq_of_beq_eq_true hln
    exact lv_ldcw hx hb hown (oh_Ab hAmb (oh_wd_i hck)) hdg (q H locs lsc hP hS hl hkr)
  case ldc2_w x =>
    obtain rfl : n = 3 := Nat.eq_of_beq_eq_true hln
    exact lv_ldc2 hx hb hown (oh_Ab hAmb (oh_wd_i hck)) hdg (q H locs lsc hP hS hl hkr)
  case iload_n k =>
    obtain rfl : n = 1 := Nat.eq_of_beq_eq_true hln
    obtain ⟨x, hg, q1⟩ := oh_ldI_i q
    exact lv_iload_n hx hb hdg (Nat.eq_of_beq_eq_true hck) (hl.2.2.2 _ _ hg) (q1 H locs lsc hP hS hl hkr)
  case iload k =>
    obtain rfl : k = a := Nat.eq_of_beq_eq_true hck
    obtain rfl : n = 2 := Nat.eq_of_beq_eq_true hln
    obtain ⟨x, hg, q1⟩ := oh_ldI_i q
    exact lv_iload hx hb hdg (hl.2.2.2 _ _ hg) (q1 H locs lsc hP hS hl hkr)
  case lload_n k =>
    obtain rfl : n = 1 := Nat.eq_of_beq_eq_true hln
    obtain ⟨x, hg, q1⟩ := oh_ldL_i q
    exact lv_lload_n hx hb hdg (Nat.eq_of_beq_eq_true hck) (hl.2.2.2 _ _ hg) (q1 H locs lsc hP hS hl hkr)
  case lload k =>
    obtain rfl : k = a := Nat.eq_of_beq_eq_true hck
    obtain rfl : n = 2 := Nat.eq_of_beq_eq_true hln
    obtain ⟨x, hg, q1⟩ := oh_ldL_i q
    exact lv_lload hx hb hdg (hl.2.2.2 _ _ hg) (q1 H locs lsc hP hS hl hkr)
  case aload_n k =>
    obtain rfl : n = 1 := Nat.eq_of_beq_eq_true hln
    obtain ⟨x, hg, q1⟩ := oh_ldA_i q
    exact lv_aload_n hx hb hdg (Nat.eq_of_beq_eq_true hck) (hl.2.2.2 _ _ hg) (q1 H locs lsc hP hS hl hkr)
  case aload k =>
    obtain rfl : k = a := Nat.eq_of_beq_eq_true hck
    obtain rfl : n = 2 := Nat.eq_of_beq_eq_true hln
    obtain ⟨x, hg, q1⟩ := oh_ldA_i q
    exact lv_aload hx hb hdg (hl.2.2.2 _ _ hg) (q1 H locs lsc hP hS hl hkr)
  case istore_n k =>
    obtain rfl : n = 1 := Nat.eq_of_beq_eq_true hln
    obtain ⟨x, st, rfl, q1⟩ := oh_I1_i q
    obtain ⟨hi, q2⟩ := oh_wr1_i q1
    exact lv_istore_n hx hb hdg (Nat.eq_of_beq_eq_true hck) (oh_loc_has hl) (by rw [← hl.1]; exact hi) rfl (fun ls' hl' => q2 H locs ls' hP hS (oh_loc_1 (v := .int x) hl hl') hkr)
  case istore k =>
    obtain rfl : k = a := Nat.eq_of_beq_eq_true hck
    obtain rfl : n = 2 := Nat.eq_of_beq_eq_true hln
    obtain ⟨x, st, rfl, q1⟩ := oh_I1_i q
    obtain ⟨hi, q2⟩ := oh_wr1_i q1
    exact lv_istore hx hb hdg (oh_loc_has hl) (by rw [← hl.1]; exact hi) rfl (fun ls' hl' => q2 H locs ls' hP hS (oh_loc_1 (v := .int x) hl hl') hkr)
  case lstore_n k =>
    obtain rfl : n = 1 := Nat.eq_of_beq_eq_true hln
    obtain ⟨x, st, rfl, q1⟩ := oh_L1_i q
    obtain ⟨hi, q2⟩ := oh_wr2_i q1
    exact lv_lstore_n hx hb hdg (Nat.eq_of_beq_eq_true hck) (oh_loc_has hl) (by rw [← hl.1]; exact hi) rfl (fun ls' hl' => q2 H locs ls' hP hS (oh_loc_2 (v := .long x) hl (by rw [← hl.1]; exact hi) hl') hkr)
  case lstore k =>
    obtain rfl : k = a := Nat.eq_of_beq_eq_true hck
    obtain rfl : n = 2 := Nat.eq_of_beq_eq_true hln
    obtain ⟨x, st, rfl, q1⟩ := oh_L1_i q
    obtain ⟨hi, q2⟩ := oh_wr2_i q1
    exact lv_lstore hx hb hdg (oh_loc_has hl) (by rw [← hl.1]; exact hi) rfl (fun ls' hl' => q2 H locs ls' hP hS (oh_loc_2 (v := .long x) hl (by rw [← hl.1]; exact hi) hl') hkr)
  case astore_n k =>
    obtain rfl : n = 1 := Nat.eq_of_beq_eq_true hln
    obtain ⟨x, st, rfl, q1⟩ := oh_R1_i q
    obtain ⟨hi, q2⟩ := oh_wr1_i q1
    exact lv_astore_n hx hb hdg (Nat.eq_of_beq_eq_true hck) (oh_loc_has hl) (by rw [← hl.1]; exact hi) rfl (fun ls' hl' => q2 H locs ls' hP hS (oh_loc_1 (v := .ref x) hl hl') hkr)
  case astore k =>
    obtain rfl : k = a := Nat.eq_of_beq_eq_true hck
    obtain rfl : n = 2 := Nat.eq_of_beq_eq_true hln
    obtain ⟨x, st, rfl, q1⟩ := oh_R1_i q
    obtain ⟨hi, q2⟩ := oh_wr1_i q1
    exact lv_astore hx hb hdg (oh_loc_has hl) (by rw [← hl.1]; exact hi) rfl (fun ls' hl' => q2 H locs ls' hP hS (oh_loc_1 (v := .ref x) hl hl') hkr)
  case iinc k v =>
    obtain rfl : n = 3 := Nat.eq_of_beq_eq_true hln
    obtain ⟨hk1, hk2⟩ := (Bool.and_eq_true _ _).mp hck
    obtain rfl : k = a := Nat.eq_of_beq_eq_true hk1
    have hv := of_decide_eq_true hk2
    obtain ⟨x, hg, q1⟩ := oh_ldI_i q
    obtain ⟨hi, q2⟩ := oh_wr1_i q1
    obtain ⟨kk, hkk⟩ := List.getElem?_of_mem (oh_asF_get (ad := ad) l' 0 k (.int x) hg)
    rw [Nat.zero_add] at hkk
    exact lv_iinc (x := x) (k := kk) hx hb hdg (oh_loc_has hl) hkk (by rw [hv]) (by rw [← hl.1]; exact hi) rfl (fun ls' hl' => q2 H locs ls' hP hS (oh_loc_1 (v := .int (x + oh_num b c')) hl hl') hkr)
  case iadd =>
    obtain rfl : n = 1 := Nat.eq_of_beq_eq_true hln
    obtain ⟨x, y, st, rfl, q1⟩ := oh_II_i q
    exact lv_iadd hx hb hdg (q1 H locs lsc hP hS hl hkr)
  case isub =>
    obtain rfl : n = 1 := Nat.eq_of_beq_eq_true hln
    obtain ⟨x, y, st, rfl, q1⟩ := oh_II_i q
    exact lv_isub hx hb hdg (q1 H locs lsc hP hS hl hkr)
  case imul =>
    obtain rfl : n = 1 := Nat.eq_of_beq_eq_true hln
    obtain ⟨x, y, st, rfl, q1⟩ := oh_II_i q
    exact lv_imul hx hb hdg (q1 H locs lsc hP hS hl hkr)
  case iand =>
    obtain rfl : n = 1 := Nat.eq_of_beq_eq_true hln
    obtain ⟨x, y, st, rfl, q1⟩ := oh_II_i q
    exact lv_iand hx hb hdg (q1 H locs lsc hP hS hl hkr)
  case ior =>
    obtain rfl : n = 1 := Nat.eq_of_beq_eq_true hln
    obtain ⟨x, y, st, rfl, q1⟩ := oh_II_i q
    exact lv_ior hx hb hdg (q1 H locs lsc hP hS hl hkr)
  case ixor =>
    obtain rfl : n = 1 := Nat.eq_of_beq_eq_true hln
    obtain ⟨x, y, st, rfl, q1⟩ := oh_II_i q
    exact lv_ixor hx hb hdg (q1 H locs lsc hP hS hl hkr)
  case ishl =>
    obtain rfl : n = 1 := Nat.eq_of_beq_eq_true hln
    obtain ⟨x, y, st, rfl, q1⟩ := oh_II_i q
    exact lv_ishl hx hb hdg (q1 H locs lsc hP hS hl hkr)
  case ishr =>
    obtain rfl : n = 1 := Nat.eq_of_beq_eq_true hln
    obtain ⟨x, y, st, rfl, q1⟩ := oh_II_i q
    exact lv_ishr hx hb hdg (q1 H locs lsc hP hS hl hkr)
  case iushr =>
    obtain rfl : n = 1 := Nat.eq_of_beq_eq_true hln
    obtain ⟨x, y, st, rfl, q1⟩ := oh_II_i q
    exact lv_iushr hx hb hdg rfl (q1 H locs lsc hP hS hl hkr)
  case idiv =>
    obtain rfl : n = 1 := Nat.eq_of_beq_eq_true hln
    obtain ⟨x, y, st, rfl, hy, q1⟩ := oh_II_i q
    exact lv_idiv hx hb hdg hy (q1 H locs lsc hP hS hl hkr)
  case irem =>
    obtain rfl : n = 1 := Nat.eq_of_beq_eq_true hln
    obtain ⟨x, y, st, rfl, hy, q1⟩ := oh_II_i q
    exact lv_irem hx hb hdg hy (q1 H locs lsc hP hS hl hkr)
  case ineg =>
    obtain rfl : n = 1 := Nat.eq_of_beq_eq_true hln
    obtain ⟨x, st, rfl, q1⟩ := oh_I1_i q
    exact lv_ineg hx hb hdg (q1 H locs lsc hP hS hl hkr)
  case ladd =>
    obtain rfl : n = 1 := Nat.eq_of_beq_eq_true hln
    obtain ⟨x, y, st, rfl, q1⟩ := oh_LL_i q
    exact lv_ladd hx hb hdg (q1 H locs lsc hP hS hl hkr)
  case lsub =>
    obtain rfl : n = 1 := Nat.eq_of_beq_eq_true hln
    obtain ⟨x, y, st, rfl, q1⟩ := oh_LL_i q
    exact lv_lsub hx hb hdg (q1 H locs lsc hP hS hl hkr)
  case land =>
    obtain rfl : n = 1 := Nat.eq_of_beq_eq_true hln
    obtain ⟨x, y, st, rfl, q1⟩ := oh_LL_i q
    exact lv_land hx hb hdg (q1 H locs lsc hP hS hl hkr)
  case lor =>
    obtain rfl : n = 1 := Nat.eq_of_beq_eq_true hln
    obtain ⟨x, y, st, rfl, q1⟩ := oh_LL_i q
    exact lv_lor hx hb hdg (q1 H locs lsc hP hS hl hkr)
  case lxor =>
    obtain rfl : n = 1 := Nat.eq_of_beq_eq_true hln
    obtain ⟨x, y, st, rfl, q1⟩ := oh_LL_i q
    exact lv_lxor hx hb hdg (q1 H locs lsc hP hS hl hkr)
  case lcmp =>
    obtain rfl : n = 1 := Nat.eq_of_beq_eq_true hln
    obtain ⟨x, y, st, rfl, q1⟩ := oh_LL_i q
    exact W.lcmp hx hb hdg (q1 H locs lsc hP hS hl hkr)
  case lshl =>
    obtain rfl : n = 1 := Nat.eq_of_beq_eq_true hln
    obtain ⟨x, y, st, rfl, q1⟩ := oh_LI_i q
    exact lv_lshl hx hb hdg rfl (q1 H locs lsc hP hS hl hkr)
  case lshr =>
    obtain rfl : n = 1 := Nat.eq_of_beq_eq_true hln
    obtain ⟨x, y, st, rfl, q1⟩ := oh_LI_i q
    exact lv_lshr hx hb hdg rfl (q1 H locs lsc hP hS hl hkr)
  case lushr =>
    obtain rfl : n = 1 := Nat.eq_of_beq_eq_true hln
    obtain ⟨x, y, st, rfl, q1⟩ := oh_LI_i q
    exact lv_lushr hx hb hdg rfl (q1 H locs lsc hP hS hl hkr)
  case i2l =>
    obtain rfl : n = 1 := Nat.eq_of_beq_eq_true hln
    obtain ⟨x, st, rfl, q1⟩ := oh_I1_i q
    exact lv_i2l hx hb hdg rfl (q1 H locs lsc hP hS hl hkr)
  case l2i =>
    obtain rfl : n = 1 := Nat.eq_of_beq_eq_true hln
    obtain ⟨x, st, rfl, q1⟩ := oh_L1_i q
    exact lv_l2i hx hb hdg rfl (q1 H locs lsc hP hS hl hkr)
  case i2b =>
    obtain rfl : n = 1 := Nat.eq_of_beq_eq_true hln
    obtain ⟨x, st, rfl, q1⟩ := oh_I1_i q
    exact lv_i2b hx hb hdg rfl (q1 H locs lsc hP hS hl hkr)
  case i2s =>
    obtain rfl : n = 1 := Nat.eq_of_beq_eq_true hln
    obtain ⟨x, st, rfl, q1⟩ := oh_I1_i q
    exact lv_i2s hx hb hdg rfl (q1 H locs lsc hP hS hl hkr)
  case i2c =>
    obtain rfl : n = 1 := Nat.eq_of_beq_eq_true hln
    obtain ⟨x, st, rfl, q1⟩ := oh_I1_i q
    exact lv_i2c hx hb hdg rfl (q1 H locs lsc hP hS hl hkr)
  case dup =>
    obtain rfl : n = 1 := Nat.eq_of_beq_eq_true hln
    obtain ⟨x, st, rfl, hc, q1⟩ := oh_V1_i q
    exact lv_dup hx hb hdg (by rw [oh_V_cat]; exact hc) (q1 H locs lsc hP hS hl hkr)
  case pop =>
    obtain rfl : n = 1 := Nat.eq_of_beq_eq_true hln
    obtain ⟨x, st, rfl, hc, q1⟩ := oh_V1_i q
    exact lv_pop hx hb hdg (by rw [oh_V_cat]; exact hc) (q1 H locs lsc hP hS hl hkr)
  case dup2 =>
    obtain rfl : n = 1 := Nat.eq_of_beq_eq_true hln
    obtain ⟨x, st, rfl, hc, q1⟩ := oh_V1_i q
    obtain ⟨y, st, rfl, hc2, q2⟩ := oh_V1_i q1
    exact lv_dup2_11 hx hb hdg (by rw [oh_V_cat]; exact hc) (by rw [oh_V_cat]; exact hc2) (q2 H locs lsc hP hS hl hkr)
  case goto o =>
    obtain rfl : n = 3 := Nat.eq_of_beq_eq_true hln
    exact lv_goto hx hb hdg (of_decide_eq_true hck) (oh_J_W hT q hP hS hl)
  case ifCond cd o =>
    obtain rfl : n = 3 := Nat.eq_of_beq_eq_true hln
    obtain ⟨x, st, rfl, q1⟩ := oh_I1_i q
    cases cd
    · exact lv_if_eq hx hb hdg (of_decide_eq_true hck) (fun z => oh_J_W hT (q1.1 z) hP hS hl) (fun z => q1.2 z H locs lsc hP hS hl hkr)
    · exact lv_if_ne hx hb hdg (of_decide_eq_true hck) (fun z => oh_J_W hT (q1.1 z) hP hS hl) (fun z => q1.2 z H locs lsc hP hS hl hkr)
    · exact lv_if_lt hx hb hdg (of_decide_eq_true hck) (fun z => oh_J_W hT (q1.1 z) hP hS hl) (fun z => q1.2 z H locs lsc hP hS hl hkr)
    · exact lv_if_ge hx hb hdg (of_decide_eq_true hck) (fun z => oh_J_W hT (q1.1 z) hP hS hl) (fun z => q1.2 z H locs lsc hP hS hl hkr)
    · exact lv_if_gt hx hb hdg (of_decide_eq_true hck) (fun z => oh_J_W hT (q1.1 z) hP hS hl) (fun z => q1.2 z H locs lsc hP hS hl hkr)
    · exact lv_if_le hx hb hdg (of_decide_eq_true hck) (fun z => oh_J_W hT (q1.1 z) hP hS hl) (fun z => q1.2 z H locs lsc hP hS hl hkr)
  case if_icmp cd o =>
    obtain rfl : n = 3 := Nat.eq_of_beq_eq_true hln
    obtain ⟨x, y, st, rfl, q1⟩ := oh_II_i q
    cases cd
    · exact lv_icmp_eq hx hb hdg (of_decide_eq_true hck) (fun z => oh_J_W hT (q1.1 z) hP hS hl) (fun z => q1.2 z H locs lsc hP hS hl hkr)
    · exact lv_icmp_ne hx hb hdg (of_decide_eq_true hck) (fun z => oh_J_W hT (q1.1 z) hP hS hl) (fun z => q1.2 z H locs lsc hP hS hl hkr)
    · exact lv_icmp_lt hx hb hdg (of_decide_eq_true hck) (fun z => oh_J_W hT (q1.1 z) hP hS hl) (fun z => q1.2 z H locs lsc hP hS hl hkr)
    · exact lv_icmp_ge hx hb hdg (of_decide_eq_true hck) (fun z => oh_J_W hT (q1.1 z) hP hS hl) (fun z => q1.2 z H locs lsc hP hS hl hkr)
    · exact lv_icmp_gt hx hb hdg (of_decide_eq_true hck) (fun z => oh_J_W hT (q1.1 z) hP hS hl) (fun z => q1.2 z H locs lsc hP hS hl hkr)
    · exact lv_icmp_le hx hb hdg (of_decide_eq_true hck) (fun z => oh_J_W hT (q1.1 z) hP hS hl) (fun z => q1.2 z H locs lsc hP hS hl hkr)
  case tableswitch dd lo hi os =>
    obtain ⟨x, st, rfl, q1⟩ := oh_I1_i q
    unfold oh_ckI at hck
    simp only [Bool.and_eq_true, decide_eq_true_eq, List.all_eq_true] at hck
    obtain ⟨⟨⟨⟨h1, h2⟩, h3⟩, h4⟩, h5⟩ := hck
    obtain ⟨t1, t2⟩ := oh_tab_i os.toList lo.toNat dd (by omega) q1
    by_cases hlo : x.toInt < lo
    · exact lv_tableOut hx hb hdg (Or.inl hlo) (Int.toNat_of_nonneg h4).symm (oh_J_W hT (t1 (Or.inl (by omega))) hP hS hl)
    · by_cases hhi : hi < x.toInt
      · exact lv_tableOut hx hb hdg (Or.inr hhi) (Int.toNat_of_nonneg h4).symm (oh_J_W hT (t1 (Or.inr (by omega))) hP hS hl)
      · have hk1 : (x.toInt - lo).toNat < os.toList.length := by omega
        have hk2 : os.toList[(x.toInt - lo).toNat]? = some os.toList[(x.toInt - lo).toNat] := List.getElem?_eq_getElem hk1
        exact lv_tableIn hx hb hdg hlo hhi (by rw [← Array.getElem?_toList]; exact hk2) (Int.toNat_of_nonneg (h5 _ (List.getElem_mem hk1))).symm (oh_J_W hT (t2 _ _ hk2 (by omega)) hP hS hl)
  case lookupswitch dd pp =>
    obtain ⟨x, st, rfl, q1⟩ := oh_I1_i q
    unfold oh_ckI at hck
    obtain ⟨h12, h3⟩ := (Bool.and_eq_true _ _).mp hck
    obtain ⟨h1, h2⟩ := (Bool.and_eq_true _ _).mp h12
    have h1 := of_decide_eq_true h1
    have h2 : ∀ o ∈ pp.toList, 0 ≤ (pc : Int) + o.2 ∧ 0 ≤ o.1 ∧ o.1 ≤ 2147483647 := fun o ho => by
      have := List.all_eq_true.mp h2 o ho
      simp only [Bool.and_eq_true, decide_eq_true_eq] at this
      exact ⟨this.1.1, this.1.2, this.2⟩
    exact lv_lookup hx hb hdg h3 rfl (Int.toNat_of_nonneg (oh_lkp_0 _ (fun o ho => (h2 o ho).1) h1)).symm (oh_J_W hT (oh_lkp_i pp.toList (fun o ho => (h2 o ho).2) q1) hP hS hl)
  case getfield x =>
    obtain rfl : n = 3 := Nat.eq_of_beq_eq_true hln
    obtain ⟨o, st, rfl, q1⟩ := oh_R1_i q
    obtain ⟨sl, z, v, hg, hz, hv, q2⟩ := oh_gf_i q1
    unfold oh_ckI oh_ckF at hck
    dsimp only at hck
    split at hck
    · rename_i C T' N hcl
      simp only [Bool.and_eq_true, Bool.or_eq_true] at hck
      obtain ⟨⟨h1, h2⟩, h3⟩ := hck
      exact oh_getW hx hb hown hAmb hP hg hcl (Nat.le_of_ble_eq_true h1) (of_decide_eq_true h2) h3 hz (hv ad) hdg (q2 H locs lsc hP hS hl hkr)
    · cases hck
  case putfield x =>
    obtain rfl : n = 3 := Nat.eq_of_beq_eq_true hln
    obtain ⟨o, v, st, rfl, q1⟩ := oh_RV_i q
    obtain ⟨sl, z, h', hg, hz, hv, hne, hne2, ⟨ty, hty, hnf⟩, q2⟩ := oh_pf_i q1
    unfold oh_ckI oh_ckF oh_ckN at hck
    dsimp only at hck
    obtain ⟨C0, T0, N0, hc0, hsl, hkds⟩ := oh_ckG_i hG hg
    rw [hc0] at hck
    simp only [Bool.and_eq_true, Bool.or_eq_true, Bool.not_eq_true'] at hck
    obtain ⟨⟨⟨h1, h2⟩, h3⟩, h4⟩ := hck
    have hkd := oh_kds_i hkds hz
    rw [Nat.zero_add] at hkd
    exact oh_putW hx hb hown hAmb hP hD hS hg hc0 (Nat.le_of_ble_eq_true h1) (of_decide_eq_true h2) h4 h3 hz (hty _ hkd) (hnf ad).1 (hnf ad).2 (hv ad) hne hne2 hdg (fun H1 locs1 hP1 hS1 => q2 H1 locs1 lsc hP1 hS1 hl hkr)
  case getstatic x =>
    obtain rfl : n = 3 := Nat.eq_of_beq_eq_true hln
    unfold oh_ckI at hck
    dsimp only at hck
    split at hck
    · rename_i z hz
      rcases (Bool.or_eq_true _ _).mp hck with h1 | h1
      · exact va_gets hx hb (va_Z.narrow (hAmb.2.2.1 a z hz) hAB) hS hown (oh_Ab hAmb (oh_wd_i h1)) (fun _ hh => hh) hdg (q H locs lsc hP hS hl hkr)
      · exact va_getsN hx hb (va_Z.narrow (hAmb.2.2.1 a z hz) hAB) hS hown (oh_Ab hAmb (oh_wd_i h1)) (fun _ hh => hh) hdg (q H locs lsc hP hS hl hkr)
    · cases hck
  case iaload =>
    obtain rfl : n = 1 := Nat.eq_of_beq_eq_true hln
    obtain ⟨o, i, st, rfl, q1⟩ := oh_RI_i q
    unfold oh_ia at q1
    split at q1
    · rename_i nn hg
      exact va_iald hx hb hAmb.1 hP o 0 (oh_W_at hg) rfl q1.1 hdg (q1.2 H locs lsc hP hS hl hkr)
    · exact q1.elim
    · split at q1
      · rename_i lst hf
        exact va_ti hx hb (va_T.narrow (hAmb.2.2.2.1 o lst hf) hAB) hS q1.1 rfl hdg (q1.2 H locs lsc hP hS hl hkr)
      · exact q1.elim
  case laload =>
    obtain rfl : n = 1 := Nat.eq_of_beq_eq_true hln
    obtain ⟨o, i, st, rfl, q1⟩ := oh_RI_i q
    unfold oh_la at q1
    split at q1
    · exact q1.elim
    · split at q1
      · rename_i lst hf
        exact va_tl hx hb (va_T.narrow (hAmb.2.2.2.2.1 o lst hf) hAB) hS q1.1 rfl hdg (q1.2 H locs lsc hP hS hl hkr)
      · exact q1.elim
  case aaload =>
    obtain rfl : n = 1 := Nat.eq_of_beq_eq_true hln
    obtain ⟨o, i, st, rfl, q1⟩ := oh_RI_i q
    unfold oh_aal at q1
    split at q1
    · rename_i js hg
      have hjl := oh_ckG_j hG hg
      obtain ⟨k, hk1, hk2⟩ := vp_in_of q1.1 (by omega)
      have hjk : js[k]? = some js[k] := List.getElem?_eq_getElem hk1
      have hik : i.toNatClampNeg = k := by rw [hk2, nI_clamp (by omega)]
      have q2 := q1.2
      rw [oh_nth_eq, hik, hjk] at q2
      refine va_aldq hx hb hAmb.1 hP o 1 (oh_W_at hg) rfl q1.1 hdg ?_
      have he : va_rf ((js[i.toNatClampNeg]?).map ad) = .ref (ad js[k]) := by
        rw [hik, hjk]; rfl
      rw [he]
      exact q2 H locs lsc hP hS hl hkr
    · exact q1.elim
  case iastore =>
    obtain rfl : n = 1 := Nat.eq_of_beq_eq_true hln
    obtain ⟨o, i, x, st, rfl, q1⟩ := oh_RII_i q
    unfold oh_ias at q1
    split at q1
    · rename_i nn hg
      have hset := oh_W_set (cI := cI) (cR := cR) (ad := ad) (h := h) hg (oh_upi_n h o i.toNatClampNeg x) (e := .inl (cI, nn, .inl (upd (h.1 o) i.toNatClampNeg x))) (by
        show Sum.inl (cI, nn, Sum.inl ((oh_upi h o i.toNatClampNeg x).1 o)) = _
        rw [oh_upi_1])
      exact va_iast hx hb hAmb.1 hP hD hS o 0 (oh_W_at hg) rfl q1.1 hdg (fun H1 locs1 hP1 _ hS1 => q1.2 H1 locs1 lsc (by rw [hset] at hP1; exact hP1) hS1 hl hkr)
    · exact q1.elim
  case arraylength =>
    obtain rfl : n = 1 := Nat.eq_of_beq_eq_true hln
    obtain ⟨o, st, rfl, q1⟩ := oh_R1_i q
    unfold oh_al at q1
    split at q1
    · rename_i nn hg
      exact va_alen hx hb hAmb.1 hP o 0 (oh_W_at hg) (ty := .int) rfl rfl hdg (q1 H locs lsc hP hS hl hkr)
    · exact q1.elim
  case invokevirtual x =>
    obtain rfl : n = 3 := Nat.eq_of_beq_eq_true hln
    unfold oh_ckI at hck
    dsimp only at hck
    split at hck
    · rename_i z hz
      simp only [Bool.and_eq_true, Bool.not_eq_true', decide_eq_true_eq] at hck
      obtain ⟨⟨⟨⟨h1, h2⟩, h3⟩, h4⟩, h5⟩ := hck
      refine oh_callV hx hb hml hown hAmb (fun _ => Iff.rfl) hAB hR hE hP hS hl.2.1 hz (hmi _ _ hz) h1 h2 h3 (Nat.le_of_ble_eq_true h4) h5 hdg q hbs (fun r' h' H1 locs1 hq hP1 hS1 => ?_)
      have := hq H1 locs1 lsc hP1 hS1 hl hkr
      rw [List.map_append] at this
      cases r' <;> exact this
    · cases hck
  case invokestatic x =>
    obtain rfl : n = 3 := Nat.eq_of_beq_eq_true hln
    unfold oh_ckI at hck
    dsimp only at hck
    split at q
    · simp only [Bool.and_eq_true] at hck
      obtain ⟨⟨⟨h1, h2⟩, h3⟩, h4⟩ := hck
      unfold oh_acp at q
      split at q
      · rename_i nn dp o1 sp o0 r0
        split at q
        · rename_i n0 n1 hg0 hg1 hcs
          obtain ⟨⟨g1, g2, g3, g4, g5⟩, q⟩ := q
          have hset := oh_W_set (cI := cI) (cR := cR) (ad := ad) (h := h) hg1 (oh_upa_n h o1 (va_cpy (h.1 o0) (h.1 o1) sp.toNatClampNeg dp.toNatClampNeg nn.toNatClampNeg)) (e := .inl (cI, n1, .inl (va_cpy (h.1 o0) (h.1 o1) sp.toNatClampNeg dp.toNatClampNeg nn.toNatClampNeg))) (by
            show Sum.inl (cI, n1, Sum.inl ((oh_upa h o1 _).1 o1)) = _
            simp [oh_upa])
          have hcs' : ((r0.map (oh_V ad)).map fun v => v.category).sum ≤ 8 := by rw [oh_csum_eq]; exact Nat.le_of_ble_eq_true hcs
          have hnf : nativeFrameWords "java/lang/System" "arraycopy" 5 = 7 := by decide +kernel
          exact va_copyi (rest := r0.map (oh_V ad)) hx hb (hml.trans hl.2.1.symm) hown (oh_Ab hAmb (oh_wd_i h1)) (oh_Ab hAmb (oh_wd_i h2)) (oh_Ab hAmb (oh_wd_i h3)) (oh_Ab hAmb (oh_wd_i h4)) hAmb.1 hP hD hS o0 o1 0 0 (oh_W_at hg0) (oh_W_at hg1) (ty := .int) rfl rfl rfl g1 g2 g3 g4 g5 (fun _ _ => rfl) (by rw [hR]; simp [oh_rm]) (by rw [hR, hnf]; simp only [oh_rm]; omega) hdg (fun H1 locs1 hP1 _ hS1 => q H1 locs1 lsc (by rw [hset] at hP1; exact hP1) hS1 hl hkr)
        · exact q.elim
      · exact q.elim
    · split at hck
      · exact absurd rfl (by assumption)
      · split at hck
        · rename_i z hz
          simp only [Bool.and_eq_true, decide_eq_true_eq] at hck
          obtain ⟨⟨h1, h2⟩, h3⟩ := hck
          refine oh_callS hx hb hml hown hAmb (fun _ => Iff.rfl) hAB hR hE hP hS hl.2.1 hz (hmi _ _ hz) h1 h2 h3 hdg q hbs (fun r' h' H1 locs1 hq hP1 hS1 => ?_)
          have := hq H1 locs1 lsc hP1 hS1 hl hkr
          rw [List.map_append] at this
          cases r' <;> exact this
        · cases hck
  case ireturn =>
    obtain rfl : n = 1 := Nat.eq_of_beq_eq_true hln
    obtain ⟨x, st, rfl, q1⟩ := oh_I1_i q
    obtain ⟨rfl, q2⟩ := oh_Z_i q1
    rcases a with _ | a
    · exact W.iret (v := x) hx hb (hr.trans (of_decide_eq_true hck)) (fun t ht hW => ⟨⟨some (.int x), h, rfl, q2, by rw [ht]; exact hP⟩, hS.F ht⟩) hS.2.2 hdg (hlocks := hlocks)
    · exact W.zret (v := x) (ty := .boolean) hx hb (hr.trans (of_decide_eq_true hck)) (by rcases q2.1 with rfl | rfl <;> decide +kernel) (fun t ht hW => ⟨⟨some (.int x), h, rfl, q2.2, by rw [ht]; exact hP⟩, hS.F ht⟩) hS.2.2 hdg (hlocks := hlocks)
  case lreturn =>
    obtain rfl : n = 1 := Nat.eq_of_beq_eq_true hln
    obtain ⟨x, st, rfl, q1⟩ := oh_L1_i q
    obtain ⟨rfl, q2⟩ := oh_Z_i q1
    exact W.lret (v := x) hx hb (hr.trans (of_decide_eq_true hck)) (fun t ht hW => ⟨⟨some (.long x), h, rfl, q2, by rw [ht]; exact hP⟩, hS.F ht⟩) hS.2.2 hdg (hlocks := hlocks)
  case areturn =>
    obtain rfl : n = 1 := Nat.eq_of_beq_eq_true hln
    obtain ⟨x, st, rfl, q1⟩ := oh_R1_i q
    obtain ⟨rfl, q2⟩ := oh_Z_i q1
    unfold oh_ckI at hck
    dsimp only at hck
    split at hck
    · exact W.aret (v := .ref (ad x)) hx hb hr (Or.inl ⟨_, rfl⟩) (Or.inr ⟨_, rfl⟩) (fun t ht hW => ⟨⟨some (.ref x), h, rfl, q2, by rw [ht]; exact hP⟩, hS.F ht⟩) hS.2.2 hdg (hlocks := hlocks)
    · cases hck
  case return_ =>
    obtain rfl : n = 1 := Nat.eq_of_beq_eq_true hln
    obtain ⟨rfl, q1⟩ := oh_Z_i q
    exact W.vret hx hb (hr.trans (of_decide_eq_true hck)) (fun t ht hW => ⟨⟨none, h, rfl, q1, by rw [ht]; exact hP⟩, hS.F ht⟩) hS.2.2 hdg (hlocks := hlocks)
end OHC

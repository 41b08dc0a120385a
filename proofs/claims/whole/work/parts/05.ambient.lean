/-! WHAT STANDS AROUND: the tables' words, statics, texts; checks of a method's code by program -/
def oh_nest : Cond → Bool
  | .fieldLinkNest _ _ _ _ _ _ => true
  | .methodLinkNest _ _ _ _ => true
  | _ => false
def oh_okw (w : Cond) : Bool := (w.onTables && w.keeps) || oh_nest w
theorem oh_okw_on {w : Cond} (h : oh_okw w = true) : w.onTables = true := by
  unfold oh_okw at h
  rcases (Bool.or_eq_true _ _).mp h with h | h
  · exact ((Bool.and_eq_true _ _).mp h).1
  · cases w <;> first | rfl | cases h
theorem oh_okw_warm {w : Cond} (h : oh_okw w = true) {s U : State} (hW : s.WarmedH U.vm) (hw : va_Nw w s) : va_Nw w U := by
  unfold oh_okw at h
  rcases (Bool.or_eq_true _ _).mp h with h | h
  · exact word_at hW (Or.inl h) hw
  · cases w <;> first | cases h; done | exact va_Nw.warmF hW hw | exact va_Nw.warmM hW hw
def oh_B (b0 : Nat) : Nat → Prop := fun q => b0 ≤ q
def oh_xN : List (Nat × String × String × String) := [(1000, "OtherHat", "ABOVE", "[I"), (1001, "OtherHat$Voices", "OWN", "[I"), (1002, "OtherHat", "BLACK_FOR", "[J")]
def oh_xS : List (Nat × Nat × String) := [(23, 0, ""), (33, 1, "bnfl"), (35, 2, "htc")]
def oh_Amb (D : va_G) (cI cR : ClassId) (ad : Nat → Nat) (b0 : Nat) (U : State) (H : Heap) : Prop :=
  va_K D vwCl [(cI, .int), (cR, .object RX5)] U ∧ (∀ w ∈ lw_tbl, oh_okw w = true → va_Nw w U) ∧
  (∀ x q, oh_find oh_xN x = some q → va_Z q.1 q.2.1 q.2.2 (.ref (ad x)) (oh_B b0) U H) ∧
  (∀ x l, oh_find oh_xI x = some l → va_T .int (ad x) l.length (fun j => .int (l.getD j 0)) (oh_B b0) U H) ∧
  (∀ x l, oh_find oh_xL x = some l → va_T .long (ad x) l.length (fun j => .long (l.getD j 0)) (oh_B b0) U H) ∧
  (∀ q ∈ oh_xS, vk_R RX2 q.1 q.2.2 (ad (2000 + q.2.1)) U) ∧
  vk_S 3 (oh_tx.map List.length) oh_tx (fun i => ad (2000 + i)) (fun i => ad (3000 + i)) (oh_B b0) U H ∧
  (va_Z "java/lang/String" "COMPACT_STRINGS" "Z" (.int 1) (oh_B b0) U H)
theorem oh_Amb_go {D : va_G} {cI cR : ClassId} {ad : Nat → Nat} {b0 : Nat} {s U : State} {H H1 : Heap} (h : oh_Amb D cI cR ad b0 s H) (hW : s.WarmedH U.vm) (hq : ∀ a : Nat, a < H.size → ¬ oh_B b0 a → H1[a]? = H[a]?) : oh_Amb D cI cR ad b0 U H1 := by
  obtain ⟨h1, h2, h3, h4, h5, h6, h7, h8⟩ := h
  exact ⟨va_K.moved hW.alike h1, fun w hw ho => oh_okw_warm ho hW (h2 w hw ho), fun x q hx => va_Z.moved hW.alike ((h3 x q hx).kept hq), fun x q hx => va_T.moved hW.alike ((h4 x q hx).kept hq), fun x q hx => va_T.moved hW.alike ((h5 x q hx).kept hq), fun q hx => vk_R.warm hW (h6 q hx), vk_S.moved hW.alike (h7.kept hq), va_Z.moved hW.alike (h8.kept hq)⟩
theorem oh_Amb_same {D : va_G} {cI cR : ClassId} {ad : Nat → Nat} {b0 : Nat} {u U : State} {H : Heap} (h : oh_Amb D cI cR ad b0 u H) (hv : u.vm = U.vm) : oh_Amb D cI cR ad b0 U H := by
  have hal : u.vm.Alike U.vm := by rw [hv]; exact Vm.Alike.refl U.vm
  obtain ⟨h1, h2, h3, h4, h5, h6, h7, h8⟩ := h
  exact ⟨va_K.moved hal h1, fun w hw ho => va_Nw.same (oh_okw_on ho) hv (h2 w hw ho), fun x q hx => va_Z.moved hal (h3 x q hx), fun x q hx => va_T.moved hal (h4 x q hx), fun x q hx => va_T.moved hal (h5 x q hx), fun q hx => vk_R.same hv.symm (h6 q hx), vk_S.moved hal h7, va_Z.moved hal h8⟩
def oh_A (ad : Nat → Nat) (G : List oh_Sh) (sz : Nat) : Nat → Prop := fun q => (∃ i, i < G.length ∧ q = ad i) ∨ sz ≤ q
def oh_Pc (D : va_G) (cI cR : ClassId) (ad : Nat → Nat) (b0 : Nat) (G : List oh_Sh) (h : oh_St) (av : List Value) (sz : Nat) : Array Value → State → Prop := fun v U => v = (av.map (oh_V ad)).toArray ∧ U.heap.size = sz ∧ va_P D vwCl (oh_W cI cR ad G h) U.heap ∧ oh_Amb D cI cR ad b0 U U.heap
def oh_Qc (D : va_G) (cI cR : ClassId) (ad : Nat → Nat) (G : List oh_Sh) (Q : oh_Q) (sz : Nat) : Array Value → State → Outcome → State → Prop := fun _ st oc t => (∃ (r : Option Value) (h' : oh_St), oc = .returned (r.map (oh_V ad)) ∧ Q r h' ∧ va_P D vwCl (oh_W cI cR ad G h') t.heap) ∧ va_F (oh_A ad G sz) st t
theorem oh_Pc_blind {D : va_G} {cI cR : ClassId} {ad : Nat → Nat} {b0 : Nat} {G : List oh_Sh} {h : oh_St} {av : List Value} {sz : Nat} : FrameBlind (oh_Pc D cI cR ad b0 G h av sz) := fun _ _ _ _ q => ⟨q.1, q.2.1, q.2.2.1, oh_Amb_same q.2.2.2 rfl⟩
def oh_rm (d : Nat) : Room := { frames := d, cells := 0, slots := 0, locals := 60 * d }
/-- behind a call -/
theorem oh_callW {p : Program} {l : Launch} {e : Env} {R : Room} {s : State} {m : MethodId} {args : Array Value} {below : List Frame} {meth : Method} {c : Code} {H : Heap} {locs : List Loc} {cells slots : Nat} {Q : State → Prop} {pc : Nat} {ls : Array Slot} {rest st0 : List Value} {a : Array Value} {A0 : Nat → Prop} {H0 : Heap} {D : va_G} {cI cR : ClassId} {ad : Nat → Nat} {G : List oh_Sh} {Q' : oh_Q}
    (hr : va_Run p l e R s m args below meth c H locs cells slots 0 0 (F0 m pc ls st0) rest (oh_Qc D cI cR ad G Q' H.size a) (oh_A ad G H.size)) (hS : va_S A0 H0 H locs) (hA : ∀ q, oh_A ad G H.size q → A0 q)
    (kk : ∀ (r : Option Value) (h' : oh_St) (H1 : Heap) (locs1 : List Loc), Q' r h' → va_P D vwCl (oh_W cI cR ad G h') H1 → va_S A0 H0 H1 locs1 → W p l e R s m args below meth c H1 locs1 cells slots Q (F0 m (pc + 3) ls ((r.map (oh_V ad)).toList ++ rest))) : W p l e R s m args below meth c H locs cells slots Q (F0 m pc ls st0) := by
  intro T hT X
  obtain ⟨v, st₀, t, T', L, h0, X', hL, e1, e2, ⟨⟨r, h', hv, hp, hb⟩, hz, hk⟩, st⟩ := hr T hT X
  cases hv
  rw [h0] at hz hk
  obtain ⟨t2, a1, b1⟩ := kk r h' T'.heap (locs ++ L) hp (by rw [e1]; exact hb)
    ⟨Nat.le_trans hS.1 (by rw [e1]; exact hz), fun q h1 h2 => by rw [e1, hk q (Nat.lt_of_lt_of_le h1 hS.1) (fun z => h2 (hA q z))]; exact hS.2.1 q h1 h2, fun q hq => by
      rcases List.mem_append.mp hq with h | h
      · exact hS.2.2 q h
      · exact hA _ (hL q h)⟩ T' rfl X'
  exact ⟨t2, st t2 a1, b1⟩
-- checks
abbrev oh_MI : Type := MethodName × ByteArray × Nat × Option FieldType × Bool × Nat × Nat × Nat × Nat
def oh_wd (ps : Nat) (w : Cond) : Bool := (match oh_nth lw_tbl ps with
  | some w' => decide (w' = w)
  | none => false) && oh_okw w
theorem oh_wd_i {ps : Nat} {w : Cond} (h : oh_wd ps w = true) : w ∈ lw_tbl ∧ oh_okw w = true := by
  unfold oh_wd at h
  obtain ⟨h1, h2⟩ := (Bool.and_eq_true _ _).mp h
  split at h1
  · rename_i w' hw
    have := of_decide_eq_true h1
    subst this
    rw [oh_nth_eq] at hw
    exact ⟨List.mem_of_getElem? hw, h2⟩
  · cases h1
def oh_ln (i : Instr) (n : Nat) : Bool := match i with
  | .bipush _ => Nat.beq n 2
  | .ldc _ => Nat.beq n 2
  | .iload _ => Nat.beq n 2
  | .lload _ => Nat.beq n 2
  | .aload _ => Nat.beq n 2
  | .istore _ => Nat.beq n 2
  | .lstore _ => Nat.beq n 2
  | .astore _ => Nat.beq n 2
  | .sipush _ => Nat.beq n 3
  | .ldc_w _ => Nat.beq n 3
  | .ldc2_w _ => Nat.beq n 3
  | .iinc _ _ => Nat.beq n 3
  | .goto _ => Nat.beq n 3
  | .ifCond _ _ => Nat.beq n 3
  | .if_icmp _ _ => Nat.beq n 3
  | .getfield _ => Nat.beq n 3
  | .putfield _ => Nat.beq n 3
  | .getstatic _ => Nat.beq n 3
  | .invokevirtual _ => Nat.beq n 3
  | .invokestatic _ => Nat.beq n 3
  | .tableswitch _ _ _ _ => true
  | .lookupswitch _ _ => true
  | _ => Nat.beq n 1
def oh_ckF (own : String) (x a b ps : Nat) : Bool := match oh_nth vwCl a with
  | some (C, T, N) => Nat.blt b N && decide ((T b).1 = C) && (oh_wd ps (.fieldLink own x C (T b).2.1 (T b).2.2.1) || oh_wd ps (.fieldLinkNest own x C (T b).2.1 (T b).2.2.1 "OtherHat"))
  | none => false
def oh_ckN (a b : Nat) : Bool := match oh_nth vwCl a with
  | some (_, T, _) => !(T b).2.2.2
  | none => false
def oh_ckY (own : String) (x : Nat) (y : MethodName) (ps : Nat) : Bool := oh_wd ps (.methodLink own x y) || oh_wd ps (.methodLinkNest own x y "OtherHat")
def oh_ckC (e : Nat) (cls : String) : Bool := match Nat.beq e 99 with
  | true => decide (cls = "java/lang/String")
  | false => match oh_nth vwCl e with
    | some (C, _, _) => decide (C = cls)
    | none => false
def oh_ckI (mi : List oh_MI) (own : String) (ret : Option FieldType) (pc : Nat) (i : Instr) (a b c e ps : Nat) : Bool := match i with
  | .iconst v => decide (Int32.ofInt v = oh_num a b)
  | .bipush v => decide ((Int8.ofInt v).toInt32 = oh_num a b)
  | .sipush v => decide ((Int16.ofInt v).toInt32 = oh_num a b)
  | .lconst v => decide (Int64.ofNat v.1 = oh_numL a b)
  | .iload_n k => Nat.beq k.1 a
  | .iload k => Nat.beq k a
  | .lload_n k => Nat.beq k.1 a
  | .lload k => Nat.beq k a
  | .aload_n k => Nat.beq k.1 a
  | .aload k => Nat.beq k a
  | .istore_n k => Nat.beq k.1 a
  | .istore k => Nat.beq k a
  | .lstore_n k => Nat.beq k.1 a
  | .lstore k => Nat.beq k a
  | .astore_n k => Nat.beq k.1 a
  | .astore k => Nat.beq k a
  | .iinc k v => Nat.beq k a && decide (Int32.ofInt v = oh_num b c)
  | .goto o => decide ((pc : Int) + o = (a : Int))
  | .ifCond _ o => decide ((pc : Int) + o = (a : Int))
  | .if_icmp _ o => decide ((pc : Int) + o = (a : Int))
  | .getfield x => oh_ckF own x a b ps
  | .putfield x => oh_ckF own x a b ps && oh_ckN a b
  | .getstatic x => match oh_find oh_xN a with
    | some q => oh_wd ps (.fieldLink own x q.1 q.2.1 q.2.2) || oh_wd ps (.fieldLinkNest own x q.1 q.2.1 q.2.2 "OtherHat")
    | none => false
  | .ldc x => match b with
    | 0 => oh_wd ps (.constant own x (oh_num a e))
    | _ => decide (own = RX2) && (match oh_nth oh_xS c with
      | some q => decide (q.1 = x) && decide (2000 + q.2.1 = a)
      | none => false)
  | .ldc_w x => oh_wd ps (.constant own x (oh_num a b))
  | .ldc2_w x => oh_wd ps (.constantLong own x (oh_numL a b))
  | .invokevirtual x => match oh_nth mi a with
    | some q => !q.2.2.2.2.1 && oh_ckY own x q.1 ps && decide ((parseMethodDescriptor q.1.desc).map (fun d => d.parameters.length) = some (b - 1)) && Nat.blt 0 b && oh_ckC e q.1.cls
    | none => false
  | .invokestatic x => match c with
    | 4 => oh_wd ps (.methodLink own x arraycopyName) && oh_wd a (.native arraycopyName) && oh_wd b (.static arraycopyName) && oh_wd e (.initialized "java/lang/System")
    | _ => match oh_nth mi a with
      | some q => q.2.2.2.2.1 && oh_ckY own x q.1 ps && decide ((parseMethodDescriptor q.1.desc).map (fun d => d.parameters.length) = some b)
      | none => false
  | .ireturn => match a with
    | 0 => decide (ret = some .int)
    | _ => decide (ret = some .boolean)
  | .lreturn => decide (ret = some .long)
  | .areturn => match ret with
    | some (.object _) => true
    | _ => false
  | .return_ => decide (ret = none)
  | .tableswitch d lo hi os => decide (0 ≤ lo) && decide (hi ≤ 2147483647) && decide (hi = lo + os.toList.length - 1) && decide (0 ≤ (pc : Int) + d) && os.toList.all (fun o => decide (0 ≤ (pc : Int) + o))
  | .lookupswitch d ps => decide (0 ≤ (pc : Int) + d) && ps.toList.all (fun o => decide (0 ≤ (pc : Int) + o.2) && decide (0 ≤ o.1) && decide (o.1 ≤ 2147483647)) && (ps.toList.zip (ps.toList.drop 1)).all (fun (a, next) => a.1 < next.1)
  | _ => true
def oh_ckS (mi : List oh_MI) (own : String) (ret : Option FieldType) (bytes : ByteArray) : Nat → oh_C → Bool
  | _, [] => true
  | pc, (i, n, a, b, c, e, ps) :: r => decide (decode bytes pc = .ok (i, n)) && oh_ln i n && oh_ckI mi own ret pc i a b c e ps && oh_ckS mi own ret bytes (pc + n) r
theorem oh_ckS_i {mi : List oh_MI} {own : String} {ret : Option FieldType} {bytes : ByteArray} {pc : Nat} {i : Instr} {n a b c e ps : Nat} {r : oh_C} (h : oh_ckS mi own ret bytes pc ((i, n, a, b, c, e, ps) :: r) = true) : decode bytes pc = .ok (i, n) ∧ oh_ln i n = true ∧ oh_ckI mi own ret pc i a b c e ps = true ∧ oh_ckS mi own ret bytes (pc + n) r = true := by
  unfold oh_ckS at h
  simp only [Bool.and_eq_true] at h
  exact ⟨of_decide_eq_true h.1.1.1, h.1.1.2, h.1.2, h.2⟩
def oh_ckT (mi : List oh_MI) (own : String) (ret : Option FieldType) (bytes : ByteArray) : oh_T → Bool
  | [] => true
  | (pc, _, c) :: r => oh_ckS mi own ret bytes pc c && oh_ckT mi own ret bytes r
theorem oh_ckT_i {mi : List oh_MI} {own : String} {ret : Option FieldType} {bytes : ByteArray} : ∀ {T : oh_T}, oh_ckT mi own ret bytes T = true → ∀ {pc : Nat} {q : Option (List Bool) × oh_C}, oh_find T pc = some q → oh_ckS mi own ret bytes pc q.2 = true
  | [], _, _, _, h => by cases h
  | (p, mm, c) :: r, hc, pc, q, h => by
    unfold oh_ckT at hc
    obtain ⟨h1, h2⟩ := (Bool.and_eq_true _ _).mp hc
    unfold oh_find at h
    split at h
    · rename_i hb
      have := Nat.eq_of_beq_eq_true hb
      subst this
      cases h
      exact h1
    · exact oh_ckT_i h2 h
def oh_ckM (q : oh_MI) : Bool := match q with
  | (y, bs, mL, ret, stc, p1, p2, p3, p4) => oh_wd p1 (.code y bs mL ret) && (match stc with
      | true => oh_wd p2 (.static y)
      | false => oh_wd p2 (.instanceMethod y) && oh_wd p3 (.selects y.cls y y)) && oh_wd p4 (.initialized y.cls) && decide (y.cls ≠ "java/lang/invoke/MethodHandle") && decide (y.cls ≠ "java/lang/invoke/VarHandle") && plainFor y && Nat.ble mL 40
/-- the shapes agree with the classes' tables -/
def oh_kd (k : Nat) (d : String) : Bool := match k with
  | 0 => decide (d = "I")
  | 1 => decide (d = "J")
  | 2 => true
  | 3 => decide (d = "Ljava/lang/String;")
  | 4 => decide (d = "Z")
  | _ => false
def oh_kds (T : u_T) : Nat → List (Nat × Nat) → Bool
  | _, [] => true
  | k, z :: r => oh_kd z.1 (T k).2.2.1 && oh_kds T (k + 1) r
theorem oh_kds_i {T : u_T} : ∀ {sl : List (Nat × Nat)} {k : Nat}, oh_kds T k sl = true → ∀ {j : Nat} {z : Nat × Nat}, oh_nth sl j = some z → oh_kd z.1 (T (k + j)).2.2.1 = true
  | [], _, _, _, _, h => by cases h
  | z :: r, k, hk, 0, z', h => by
    unfold oh_kds at hk
    cases h
    exact ((Bool.and_eq_true _ _).mp hk).1
  | z :: r, k, hk, j + 1, z', h => by
    unfold oh_kds at hk
    have := oh_kds_i ((Bool.and_eq_true _ _).mp hk).2 (j := j) h
    rw [show k + (j + 1) = k + 1 + j by omega]
    exact this
def oh_ckG (G : List oh_Sh) : Bool := G.all (fun s => match s with
  | .inl (ci, sl) => match oh_nth vwCl ci with
    | some (_, T, N) => Nat.beq sl.length N && oh_kds T 0 sl
    | none => false
  | .inr (.inl _) => true
  | .inr (.inr js) => Nat.ble js.length 1000)
theorem oh_ckG_j {G : List oh_Sh} (h : oh_ckG G = true) {o : Nat} {js : List Nat} (hg : oh_nth G o = some (.inr (.inr js))) : js.length ≤ 1000 := by
  rw [oh_nth_eq] at hg
  have h1 := List.all_eq_true.mp h _ (List.mem_of_getElem? hg)
  exact Nat.le_of_ble_eq_true h1
theorem oh_ckG_i {G : List oh_Sh} (h : oh_ckG G = true) {o ci : Nat} {sl : List (Nat × Nat)} (hg : oh_nth G o = some (.inl (ci, sl))) : ∃ C T N, oh_nth vwCl ci = some (C, T, N) ∧ sl.length = N ∧ oh_kds T 0 sl = true := by
  rw [oh_nth_eq] at hg
  have h1 := List.all_eq_true.mp h _ (List.mem_of_getElem? hg)
  dsimp only at h1
  split at h1
  · rename_i C T N hn
    obtain ⟨h2, h3⟩ := (Bool.and_eq_true _ _).mp h1
    exact ⟨C, T, N, hn, Nat.eq_of_beq_eq_true h2, h3⟩
  · cases h1
/-- of each class: its fields' types, their names apart, its layout's words -/
theorem oh_cls {ci : Nat} {C : String} {T : u_T} {N : Nat} (h : oh_nth vwCl ci = some (C, T, N)) : (∃ ty0 : Nat → FieldType, ∀ k, k < N → parseFieldDescriptor (T k).2.2.1 = some (ty0 k)) ∧ ∀ a, a < N → ∀ b, b < N → a ≠ b → (T a).2.1 ≠ (T b).2.1 := by
  rw [oh_nth_eq] at h
  match ci, h with
  | 0, h => cases h; exact ⟨⟨_, tyX0_ok⟩, nmX0⟩
  | 1, h => cases h; exact ⟨⟨_, tyX1_ok⟩, nmX1⟩
  | 2, h => cases h; exact ⟨⟨_, tyX2_ok⟩, nmX2⟩
  | 3, h => cases h; exact ⟨⟨_, tyX3_ok⟩, nmX3⟩
  | 4, h => cases h; exact ⟨⟨_, tyX4_ok⟩, nmX4⟩
  | 5, h => cases h; exact ⟨⟨_, tyX5_ok⟩, nmX5⟩
  | 6, h => cases h; exact ⟨⟨_, tyX6_ok⟩, nmX6⟩
  | 7, h => cases h; exact ⟨⟨_, tyX7_ok⟩, nmX7⟩
  | 8, h => cases h; exact ⟨⟨_, tyX8_ok⟩, nmX8⟩
  | k + 9, h => simp [vwCl] at h
def oh_clw : Bool := (vwCl.flatMap (fun q => u_ws q.1 q.2.1 q.2.2)).all (fun w => decide (w ∈ tables_1) && oh_okw w)
theorem oh_clw_ok : oh_clw = true := by decide +kernel
theorem oh_cls_w {ci : Nat} {C : String} {T : u_T} {N : Nat} (h : oh_nth vwCl ci = some (C, T, N)) : ∀ w ∈ u_ws C T N, w ∈ lw_tbl ∧ oh_okw w = true := by
  intro w hw
  rw [oh_nth_eq] at h
  have h1 := List.all_eq_true.mp oh_clw_ok w (List.mem_flatMap.mpr ⟨_, List.mem_of_getElem? h, hw⟩)
  obtain ⟨h2, h3⟩ := (Bool.and_eq_true _ _).mp h1
  exact ⟨List.mem_append_right _ (of_decide_eq_true h2), h3⟩

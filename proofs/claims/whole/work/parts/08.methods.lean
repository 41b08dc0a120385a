/-! SOUNDNESS: each method, by the depth of its calls -/
/-- what is wanted of the methods that are taken by hand (the JDK's indexOf) -/
def oh_Prim (l : Launch) (D : va_G) (cI cR : ClassId) (ad : Nat → Nat) (b0 : Nat) (G : List oh_Sh) (mi : List oh_MI) (M : List (Nat × oh_T)) : Prop :=
  ∀ (j : Nat) (q : oh_MI) (T : oh_T), oh_nth mi j = some q → oh_nth M j = some (0, T) → ∀ (d k : Nat) (x : Int32) (h : oh_St) (Q : oh_Q) (sz : Nat), b0 ≤ sz → 5 ≤ d → 2000 ≤ k → k ≤ 2002 → Q (some (.int (oh_ixF x (oh_tx.getD (k - 2000) []) 0))) h → Met l q.1 [.code q.1 q.2.1 q.2.2.1 q.2.2.2.1] (oh_rm (d + 1)) (oh_Pc D cI cR ad b0 G h [.ref k, .int x] sz) (oh_Qc D cI cR ad G Q sz) 0 0 (oh_A ad G sz)
/-- a contract by a walk, also of a class some of whose methods the machine takes itself, if it doesn't take this one -/
theorem oh_ofW {l : Launch} {y : MethodName} {ws ws' : List Cond} {rm : Room} {Pc : Array Value → State → Prop} {Qc : Array Value → State → Outcome → State → Prop} {mc ms : Nat} {free : Addr → Prop} {cc : ByteArray} {maxL : Nat} {ret : Option FieldType} (hy : plainFor y = true) (hw : ws = Cond.code y cc maxL ret :: ws')
    (hq : ∀ p e s m args below meth c s₁, BodyLoose p l y (headSpec ws rm) cc maxL ret e s m args below meth c s₁ → c.maxLocals = maxL → Pc args s → W p l e (headSpec ws rm).room s m args below meth c s.heap [] 0 0 (MQ below Qc args s mc ms free) (entryFrame m args maxL)) : Met l y ws rm Pc Qc mc ms free := by
  refine MetFree.of_bodySF (code := cc) (maxLocals := maxL) (ret := ret) hy (fun args s m h hn => ?_) (fun p e s m args below meth c s₁ B hml hP _ => ?_)
  · have hc : (Cond.code y cc maxL ret).before args s = true := atoms_spec (ws := ws) h _ (by rw [hw]; exact List.mem_cons_self)
    obtain ⟨meth, c, h1, h2, h3, h4, h5, h6, -, -⟩ := Cond.code_spec hn hc
    exact ⟨meth, c, h1, h2, h3, h4, h5, h6⟩
  · have e0 : s₁.heap = s.heap := by rw [B.state]; rfl
    obtain ⟨t, a1, o, c1, c2, c3, c4⟩ := hq p e s m args below meth c s₁ B hml hP s₁ e0 (Stand.of_body B)
    exact ⟨t, o, a1, c1, c2, c3, c4⟩
theorem oh_sound {l : Launch} {D : va_G} {cI cR : ClassId} {ad : Nat → Nat} {b0 : Nat} {G : List oh_Sh} {mi : List oh_MI} {M : List (Nat × oh_T)} (hG : oh_ckG G = true) (hinj : ∀ i j, i < G.length → j < G.length → ad i = ad j → i = j) (hb0 : ∀ i, i < G.length → b0 ≤ ad i) (hmi : ∀ j q, oh_nth mi j = some q → oh_ckM q = true)
    (hM : ∀ j q, oh_nth mi j = some q → ∃ nL T, oh_nth M j = some (nL, T) ∧ (nL = 0 ∨ (nL = q.2.2.1 ∧ oh_ckT mi q.1.cls q.2.2.2.1 q.2.1 T = true))) (hprim : oh_Prim l D cI cR ad b0 G mi M) : ∀ d : Nat, oh_Ms l D cI cR ad b0 G mi d (oh_mwp G M d)
  | 0 => fun _ _ _ _ _ _ _ _ h => h.elim
  | d + 1 => by
    have ih := oh_sound hG hinj hb0 hmi hM hprim d
    intro j q hq av h Q sz hsz hE
    obtain ⟨nL, T, hMj, hnL⟩ := hM j q hq
    unfold oh_mwp at hE
    rw [hMj] at hE
    dsimp only at hE
    rcases nL with _ | nL'
    · split at hE
      · split at hE
        · rename_i k x
          exact hprim j q T hq hMj d k x h Q sz hsz hE.1 hE.2.1 hE.2.2.1 hE.2.2.2
        · exact hE.elim
      · rename_i hne
        exact absurd rfl hne
    · rcases hnL with h0 | ⟨hnL, hT⟩
      · cases h0
      · obtain ⟨hlen, hJ⟩ := hE
        have hlen : (oh_arg av).length ≤ nL' + 1 := Nat.le_of_ble_eq_true hlen
        have hpl := (oh_ckM_i (hmi j q hq)).2.2.2.2.1
        refine oh_ofW (cc := q.2.1) (maxL := q.2.2.1) (ret := q.2.2.2.1) hpl rfl ?_
        intro p e s m args below meth c s₁ B hml hv
        obtain ⟨rfl, hsz', hP, hAmb⟩ := hv
        subst hsz'
        have hown : s.vm.findClass q.1.cls = some m.cls := findClass_of_methodNamed B.named
        rw [← hnL] at hml ⊢
        rw [lg_entry_eq]
        have hent := lv_entry (av.map (oh_V ad)) (n := nL' + 1) (by rw [← oh_arg_len]; exact hlen)
        generalize (lg_sl (av.map (oh_V ad)) ++ List.replicate (nL' + 1 - (lg_sl (av.map (oh_V ad))).length) Slot.unset).toArray = lsc at hent ⊢
        have hl : oh_loc ad lsc (nL' + 1) (oh_pad (nL' + 1) (oh_arg av)) := ⟨oh_pad_len _ _ hlen, hent.1, hent.2.1, fun i v hv => by
          have := hent.2.2 _ (oh_arg_get ad av 0 i v (oh_pad_get _ _ i v hv))
          rw [Nat.zero_add] at this
          exact this⟩
        have hcl := oh_closed (p := p) (l := l) (e := e) (R := oh_rm (d + 1)) (s := s) (m := m) (args := (av.map (oh_V ad)).toArray) (below := below) (meth := meth) (c := c) (D := D) (cI := cI) (cR := cR) (ad := ad) (G := G) (mi := mi) (own := q.1.cls) (ret := q.2.2.2.1) (bytes := q.2.1) (nL := nL' + 1) (b0 := b0) (T := T) (d := d) (E := oh_mwp G M d) (Q := Q) B.exec B.bytes hml hown B.returns B.notSynchronized hAmb hG hinj hb0 hsz rfl ih hmi hT
        have hw : ∀ pc code l2 l3 st h, oh_more l2 l3 → oh_Pm p l e (oh_rm (d + 1)) s m (av.map (oh_V ad)).toArray below meth c D cI cR ad G (oh_A ad G s.heap.size) (MQ below (oh_Qc D cI cR ad G Q s.heap.size) (av.map (oh_V ad)).toArray s 0 0 (oh_A ad G s.heap.size)) mi q.1.cls q.2.2.2.1 q.2.1 (nL' + 1) pc code l2 st h → oh_Pm p l e (oh_rm (d + 1)) s m (av.map (oh_V ad)).toArray below meth c D cI cR ad G (oh_A ad G s.heap.size) (MQ below (oh_Qc D cI cR ad G Q s.heap.size) (av.map (oh_V ad)).toArray s 0 0 (oh_A ad G s.heap.size)) mi q.1.cls q.2.2.2.1 q.2.1 (nL' + 1) pc code l3 st h := fun pc code l2 l3 st h hm z H locs lsc hP hS hl hk => z H locs lsc hP hS (oh_loc_less hm hl) hk
        exact oh_J_W (A := oh_A ad G s.heap.size) (R := oh_rm (d + 1)) (l' := oh_pad (nL' + 1) (oh_arg av)) (st := []) (h := h) hT (oh_J_m (fun pc' c2 l2 st2 h2 z => z _ hcl hw) (fun pc' c2 l2 st2 h2 z => z _ hcl hw) hJ) hP va_S.rf hl

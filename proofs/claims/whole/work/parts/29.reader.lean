/-! THE CLASS: its reader reads a text so -/
def cSt (h : oh_St) (t : List Nat) (use a : Nat) (L : List Nat) : Prop := h.1 42 3 = nI a ∧ h.1 42 2 = nI (use + 1) ∧ rowIs h 45 (t.map nI) ∧ rowIs h 43 (L.map nI)
def cFr (h h' : oh_St) : Prop := (∀ a b, ¬ (a = 42 ∧ b = 3) → a ≠ 43 → a ≠ 44 → h'.1 a b = h.1 a b) ∧ h'.2 = h.2
theorem cFr_rf (h : oh_St) : cFr h h := ⟨fun _ _ _ _ _ => rfl, rfl⟩
theorem cFr_tr {h h' h2 : oh_St} (H : cFr h h') (H2 : cFr h' h2) : cFr h h2 := ⟨fun a b x y z => (H2.1 a b x y z).trans (H.1 a b x y z), H2.2.trans H.2⟩
theorem cSt_up {h : oh_St} {t : List Nat} {use a a' : Nat} {L : List Nat} (H : cSt h t use a L) : cSt (oh_upi h 42 3 (nI a')) t use a' L ∧ cFr h (oh_upi h 42 3 (nI a')) := by
  obtain ⟨h1, h2, h3, h4⟩ := H
  refine ⟨⟨?_, ?_, ?_, ?_⟩, fun a b x _ _ => ?_, rfl⟩
  · rw [oh_g1, if_pos ⟨rfl, rfl⟩]
  · rw [oh_g1, if_neg (by omega)]; exact h2
  · exact rowIs_same h3 (oSame_up (X := [42]) (oSame_rf h _) (by simp)) (by simp) (by simp)
  · exact rowIs_same h4 (oSame_up (X := [42]) (oSame_rf h _) (by simp)) (by simp) (by simp)
  · rw [oh_g1, if_neg x]
theorem sX2_add {d : Nat} {K : oh_St → Prop} {h : oh_St} {t L : List Nat} {use a v : Nat} (H : cSt h t use a L) (hl : L.length < 50) (q : ∀ h', cSt h' t use a (L ++ [v]) → cFr h h' → K h') : CM (d + 1) jX3_add [.ref 43, .int (nI v)] h (oh_r0 K) := by
  obtain ⟨h1, h2, h3, h4⟩ := H
  refine sX3_add (o := 43) (l := L.map nI) (by unfold oRow; omega) h4 (by rw [List.length_map]; exact hl) (q _ ⟨?_, ?_, ?_, ?_⟩ ⟨fun a b _ y z => ?_, rfl⟩)
  · rw [rowAdd, oh_g1, if_neg (by omega), oh_g1, if_neg (by omega)]; exact h1
  · rw [rowAdd, oh_g1, if_neg (by omega), oh_g1, if_neg (by omega)]; exact h2
  · exact rowIs_same h3 (rowAdd_same h 43 _ _) (by simp) (by simp)
  · rw [List.map_append]
    exact rowAdd_is h4 (by rw [List.length_map]; exact hl)
  · rw [rowAdd, oh_g1, if_neg (fun e => y e.1), oh_g1, if_neg (fun e => z e.1)]
theorem sX2_next {d : Nat} {K : Int32 → oh_St → Prop} {h : oh_St} {t L : List Nat} {use a : Nat} (H : cSt h t use a L) (ht : t.length ≤ 50) (ha : a ≤ t.length) (q : K (pcI t a) h) : CM (d + 2) jX2_next [.ref 42] h (oh_r1 K) := by
  refine mX2_next ?_
  rw [H.1, H.2.2.1.1, List.length_map]
  unfold pcI at q
  by_cases c : a < t.length
  · rw [if_pos c] at q
    refine br_f (nI_ge c (by omega)) (sX3_get (o := 45) (by unfold oRow; omega) H.2.2.1 (by simpa using c) ?_)
    have : (t.map nI).getD a 0 = nI (nb t a) := by
      unfold nb
      simp [List.getD, c]
    rw [this]
    exact q
  · rw [if_neg c] at q
    exact br_t (nI_le (by omega) (by omega)) q
theorem pcI_D {t : List Nat} (ht : ∀ x ∈ t, x < 256) (a : Nat) : isD (nb t a) = true ↔ (¬ pcI t a < 48 ∧ ¬ 57 < pcI t a) := by
  unfold isD
  by_cases c : a < t.length
  · have := nb_in ht c
    unfold pcI
    rw [if_pos c, show (48 : Int32) = nI 48 from rfl, show (57 : Int32) = nI 57 from rfl, nI_ltI (by omega) (by omega), nI_ltI (by omega) (by omega)]
    simp
  · unfold pcI
    rw [if_neg c, nb_out (by omega)]
    simp
theorem sX2_isDigit {d : Nat} {K : Int32 → oh_St → Prop} {h : oh_St} {t : List Nat} {a : Nat} (ht : ∀ x ∈ t, x < 256) (q : K (oh_b (isD (nb t a))) h) : CM (d + 1) jX2_isDigit [.int (pcI t a)] h (oh_r1 K) := by
  have e := pcI_D ht a
  refine mX2_isDigit ⟨fun c => ⟨oh_i0, ?_⟩, fun c => ⟨fun c2 => ⟨oh_i0, ?_⟩, fun c2 => ⟨oh_i1, ?_⟩⟩⟩
  · cases z : isD (nb t a)
    · rw [z] at q; exact q
    · exact absurd c (e.mp z).1
  · cases z : isD (nb t a)
    · rw [z] at q; exact q
    · exact absurd c2 (e.mp z).2
  · rw [e.mpr ⟨c, c2⟩] at q; exact q
theorem pcI_no {t : List Nat} (ht : ∀ x ∈ t, x < 256) {a c : Nat} (hc : c < 256) (h : ¬ nb t a = c) : ¬ pcI t a = nI c := mt (pcI_eq ht hc).mp h
theorem sX2_isSignOf {d : Nat} {K : Int32 → oh_St → Prop} {h : oh_St} {t : List Nat} {a lv : Nat} (ht : ∀ x ∈ t, x < 256) (hl : lv < 5) (q : K (oh_b (isS lv (nb t a))) h) : CM (d + 1) jX2_isSignOf [.int (nI lv), .int (pcI t a)] h (oh_r1 K) := by
  refine mX2_isSignOf ?_
  have ne : ∀ {j : Nat}, j < 6 → lv ≠ j → ¬ nI lv = nI j := fun a b z => b ((nI_eq (by omega) (by omega)).mp z)
  have br : ∀ (c : Nat) {A B : Prop}, c < 256 → (¬ nb t a = c → A) → (nb t a = c → B) → (¬ pcI t a = nI c → A) ∧ (pcI t a = nI c → B) := fun c _ _ hc f g => ⟨fun z => f (mt (pcI_eq ht hc).mpr z), fun z => g ((pcI_eq ht hc).mp z)⟩
  have br2 : ∀ (c : Nat) {A B : Prop}, c < 256 → (nb t a = c → B) → (¬ nb t a = c → A) → (pcI t a = nI c → B) ∧ (¬ pcI t a = nI c → A) := fun c _ _ hc g f => ⟨fun z => g ((pcI_eq ht hc).mp z), fun z => f (mt (pcI_eq ht hc).mpr z)⟩
  unfold isS at q
  by_cases c0 : lv = 0
  · subst c0
    refine br_t rfl (br 124 (by omega) (fun z => ⟨oh_i0, ?_⟩) (fun z => ⟨oh_i1, ?_⟩))
    · (show K _ h; simpa [z, oh_b] using q)
    · (show K _ h; simpa [z, oh_b] using q)
  refine br_f (ne (j := 0) (by omega) c0) ?_
  by_cases c1 : lv = 1
  · subst c1
    refine br_t rfl (br 38 (by omega) (fun z => ⟨oh_i0, ?_⟩) (fun z => ⟨oh_i1, ?_⟩))
    · (show K _ h; simpa [z, oh_b] using q)
    · (show K _ h; simpa [z, oh_b] using q)
  refine br_f (ne (j := 1) (by omega) c1) ?_
  by_cases c2 : lv = 2
  · subst c2
    refine br_t rfl (br2 60 (by omega) (fun z => ⟨oh_i1, ?_⟩) (fun z => br2 61 (by omega) (fun z2 => ⟨oh_i1, ?_⟩) (fun z2 => br 62 (by omega) (fun z3 => ⟨oh_i0, ?_⟩) (fun z3 => ⟨oh_i1, ?_⟩))))
    · (show K _ h; simpa [z, oh_b] using q)
    · (show K _ h; simpa [z, z2, oh_b] using q)
    · (show K _ h; simpa [z, z2, z3, oh_b] using q)
    · (show K _ h; simpa [z, z2, z3, oh_b] using q)
  refine br_f (ne (j := 2) (by omega) c2) ?_
  by_cases c3 : lv = 3
  · subst c3
    refine br_t rfl (br2 43 (by omega) (fun z => ⟨oh_i1, ?_⟩) (fun z => br 45 (by omega) (fun z3 => ⟨oh_i0, ?_⟩) (fun z3 => ⟨oh_i1, ?_⟩)))
    · (show K _ h; simpa [z, oh_b] using q)
    · (show K _ h; simpa [z, z3, oh_b] using q)
    · (show K _ h; simpa [z, z3, oh_b] using q)
  refine br_f (ne (j := 3) (by omega) c3) ?_
  have c4 : lv = 4 := by omega
  subst c4
  refine br_t rfl (br2 42 (by omega) (fun z => ⟨oh_i1, ?_⟩) (fun z => br2 47 (by omega) (fun z2 => ⟨oh_i1, ?_⟩) (fun z2 => br 37 (by omega) (fun z3 => ⟨oh_i0, ?_⟩) (fun z3 => ⟨oh_i1, ?_⟩))))
  · (show K _ h; simpa [z, oh_b] using q)
  · (show K _ h; simpa [z, z2, oh_b] using q)
  · (show K _ h; simpa [z, z2, z3, oh_b] using q)
  · (show K _ h; simpa [z, z2, z3, oh_b] using q)
theorem om_dig {v b : Nat} (h : 48 ≤ b) : (nI v * (10 : Int32) + nI b) - (48 : Int32) = nI (10 * v + b - 48) := by
  rw [show (10 : Int32) = nI 10 from rfl, show (48 : Int32) = nI 48 from rfl, pk_mul, nI_add, om_sub (by omega), Nat.mul_comm v 10]
theorem sX2_readNumber {d : Nat} {K : oh_St → Prop} {h : oh_St} {t L : List Nat} {use a : Nat} (ht : ∀ x ∈ t, x < 256) (hl : t.length ≤ 50) (H : cSt h t use a L) (ha : a ≤ t.length) (hL : L.length ≤ a) (hd : isD (nb t a) = true) (q : ∀ h', cSt h' t use (pDig t 4 a 0).1 (L ++ [(pDig t 4 a 0).2]) → cFr h h' → K h') : CM (d + 3) jX2_readNumber [.ref 42] h (oh_r0 K) := by
  refine mX2_readNumber ?_
  have hpos := pDig_pos t hd
  have hfin := (pDig_at t 4 a 0 ha).2
  obtain ⟨r, hr⟩ : ∃ r, r = pDig t 4 a 0 := ⟨_, rfl⟩
  rw [← hr] at q hpos hfin
  have key : ∀ f i, f + i = 4 → ∀ b v h', b ≤ t.length → pDig t f b v = r → cSt h' t use b L → cFr h h' → wX2_readNumber_4 (d + 2) (oh_r0 K) (nI v) (nI i) h' := by
    intro f
    induction f with
    | zero =>
      intro i hi b v h' hb he hs hf
      have : i = 4 := by omega
      subst this
      unfold pDig at he
      refine bX2_readNumber_4 (br_t (nI_le (Nat.le_refl 4) (by omega)) (sX2_add hs (by have := congrArg Prod.fst he; simp at this; omega) (fun h2 s2 f2 => q h2 ?_ (cFr_tr hf f2))))
      rw [← he]
      exact s2
    | succ f ih =>
      intro i hi b v h' hb he hs hf
      refine bX2_readNumber_4 (br_f (nI_ge (b := 4) (by omega) (by omega)) (sX2_next hs hl hb (sX2_isDigit ht (oh_bz (fun c => ?_) (fun c => sX2_next hs hl hb ?_)))))
      · unfold pDig at he
        rw [if_neg (by rw [c]; decide)] at he
        refine sX2_add hs (by have := congrArg Prod.fst he; simp at this; omega) (fun h2 s2 f2 => q h2 ?_ (cFr_tr hf f2))
        rw [← he]
        exact s2
      · have hb2 := isD_in c
        unfold pDig at he
        rw [if_pos c] at he
        have hc : 48 ≤ nb t b := by unfold isD at c; simp at c; omega
        have e : pcI t b = nI (nb t b) := by unfold pcI; rw [if_pos hb2]
        rw [e, om_dig hc, nI_1, hs.1, nI_1]
        have := cSt_up (a' := b + 1) hs
        exact ih (i + 1) (by omega) (b + 1) _ _ hb2 he this.1 (cFr_tr hf this.2)
  exact key 4 0 rfl a 0 h ha hr.symm H (cFr_rf h)
/-- what a reading method of the class does -/
def cPS (t : List Nat) (use : Nat) (D : Nat) (j : Nat) (args : List Value) (f : Nat → pR) : Prop := ∀ (K : Int32 → oh_St → Prop) h a L, a ≤ t.length → L.length ≤ a → cSt h t use a L → (∀ h', cSt h' t use (f a).2.1 (L ++ (f a).2.2) → cFr h h' → K (oh_b (f a).1) h') → CM D j (.ref 42 :: args) h (oh_r1 K)
theorem cPS_lev {t : List Nat} {use D : Nat} {op : Int32} {u : Nat → pR} (ht : ∀ x ∈ t, x < 256) (hl : t.length ≤ 50) (hg : pGd t u) (hu : ∀ d, cPS t use (d + D) jX2_readUnit [.int op] u) : ∀ j, j ≤ 5 → ∀ d, cPS t use (d + D + 3 + j) jX2_readLevel [.int (nI (5 - j)), .int op] (pLev t u j)
  | 0, _ => fun d K h a L ha hL hs q => by
    refine mX2_readLevel (br_f (nI_nlt (a := 5) (b := 5) (by omega) (by omega)) ?_)
    have := hu (d + 2) (fun x h' => (x = 0 ∨ x = 1) ∧ K x h') h a L ha hL hs (fun h' s f => ⟨oh_b_01 _, q h' s f⟩)
    rw [show d + D + 2 = d + 2 + D by omega]
    exact this
  | j + 1, hj => fun d K h a L ha hL hs q => by
    have sub := cPS_lev ht hl hg hu j (by omega) d
    have gd := pLev_gd hg j
    have en : nI (5 - (j + 1)) + (1 : Int32) = nI (5 - j) := by rw [nI_1, show 5 - (j + 1) + 1 = 5 - j by omega]
    refine mX2_readLevel (br_t (nI_lt (b := 5) (by omega) (by omega)) ?_)
    rw [en]
    refine sub _ h a L ha hL hs (fun h1 s1 f1 => ?_)
    unfold pLev at q
    obtain ⟨g1, g2, g3, g4, g5⟩ := gd a ha
    have loop : ∀ f i b (C : List Nat) h', b ≤ t.length → C.length ≤ b → cSt h' t use b C → cFr h h' → (∀ h2, cSt h2 t use (pLoop t (pLev t u j) (4 - j) f b).2.1 (C ++ (pLoop t (pLev t u j) (4 - j) f b).2.2) → cFr h h2 → K (oh_b (pLoop t (pLev t u j) (4 - j) f b).1) h2) → f + i = pMost (4 - j) → wX2_readLevel_39 (d + D + 3 + j) (oh_r1 K) (nI (5 - (j + 1))) op (nI (pMost (4 - j))) (nI i) h' := by
      have hm : pMost (4 - j) ≤ 50 := by unfold pMost; split <;> omega
      intro f
      induction f with
      | zero =>
        intro i b C h' hb hC s' f' qq hi
        have : i = pMost (4 - j) := by omega
        subst this
        refine bX2_readLevel_39 (br_t (nI_le (Nat.le_refl _) (by omega)) ⟨oh_i1, ?_⟩)
        have := qq h' (by unfold pLoop; simpa using s') f'
        unfold pLoop at this
        exact this
      | succ f ih =>
        intro i b C h' hb hC s' f' qq hi
        refine bX2_readLevel_39 (br_f (nI_ge (by omega) (by omega)) ?_)
        have e1 : d + D + 3 + j = (d + D + 1 + j) + 2 := by omega
        rw [e1]
        refine sX2_next s' hl hb ?_
        rw [show d + D + 1 + j + 2 = (d + D + 2 + j) + 1 by omega, show 5 - (j + 1) = 4 - j by omega]
        refine sX2_isSignOf ht (by omega) (oh_bz (fun c => ⟨oh_i1, ?_⟩) (fun c => ?_))
        · have := qq h' (by unfold pLoop; rw [if_neg (by rw [c]; decide)]; simpa using s') f'
          unfold pLoop at this
          rw [if_neg (by rw [c]; decide)] at this
          exact this
        · have hc := (isS_in c).1
          have hb2 := nb_lt hc
          rw [show d + D + 2 + j + 1 = (d + D + 1 + j) + 2 by omega]
          refine sX2_next s' hl hb ?_
          have e : pcI t b = nI (nb t b) := by unfold pcI; rw [if_pos hb2]
          rw [e, show (10000 : Int32) = nI 10000 from rfl, nI_add, s'.1, nI_1, nI_1, show 4 - j + 1 = 5 - j by omega, ← e1]
          have up := cSt_up (a' := b + 1) s'
          refine sub _ _ (b + 1) C hb2 (by omega) up.1 (fun h3 s3 f3 => ?_)
          obtain ⟨k1, k2, k3, k4, k5⟩ := gd (b + 1) hb2
          unfold pLoop at qq
          rw [if_pos c] at qq
          have f3' := cFr_tr f' (cFr_tr up.2 f3)
          refine oh_bn (fun c2 => ?_) (fun c2 => ⟨oh_i0, ?_⟩)
          · rw [if_pos c2] at qq
            have k4 := k4 c2
            rw [show d + D + 3 + j = (d + D + 2 + j) + 1 by omega]
            refine sX2_add s3 (by simp only [List.length_append]; omega) (fun h4 s4 f4 => ?_)
            rw [nI_1]
            have := ih (i + 1) _ (C ++ (pLev t u j (b + 1)).2.2 ++ [10000 + nb t b]) h4 k2 (by simp only [List.length_append, List.length_singleton]; omega) s4 (cFr_tr f3' f4) (fun h5 s5 f5 => qq h5 (by rw [List.append_assoc, List.append_assoc] at s5; exact s5) f5) (by omega)
            rw [show 5 - (j + 1) = 4 - j by omega] at this
            rw [show d + D + 2 + j + 1 = d + D + 3 + j by omega]
            exact this
          · rw [if_neg (by rw [c2]; decide)] at qq
            have := qq h3 s3 f3'
            rw [c2] at this
            exact this
    refine oh_bn (fun c => ?_) (fun c => ⟨oh_i0, ?_⟩)
    · rw [if_pos c] at q
      have := loop (pMost (4 - j)) 0 _ _ h1 g2 (by simp only [List.length_append]; omega) s1 f1 (fun h2 s2 f2 => q h2 (by rw [List.append_assoc] at s2; exact s2) f2) (by omega)
      have ne : ∀ {x y : Nat}, x < 6 → y < 6 → x ≠ y → ¬ nI x = nI y := fun a b c z => c ((nI_eq (by omega) (by omega)).mp z)
      by_cases c2 : 4 - j = 2
      · rw [show 5 - (j + 1) = 2 by omega] at this ⊢
        rw [c2] at this
        exact oh_nf rfl this
      · have e : pMost (4 - j) = 50 := by unfold pMost; rw [if_neg c2]
        rw [e] at this
        exact oh_nt (ne (x := 5 - (j + 1)) (y := 2) (by omega) (by omega) (by omega)) this
    · rw [if_neg (by rw [c]; decide)] at q
      have := q h1 s1 f1
      rw [c] at this
      exact this

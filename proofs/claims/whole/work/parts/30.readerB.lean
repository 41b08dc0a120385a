/-! THE CLASS: units, and a whole text -/
theorem sJ0_indexOf {d n : Nat} {K : Int32 → oh_St → Prop} {h : oh_St} {c : Int32} (hn : n ≤ 2) (q : K (oh_ixF c (oh_tx.getD n []) 0) h) : CM (d + 6) jJ0_indexOf_0f7a4 [.ref (2000 + n), .int c] h (oh_r1 K) := by
  have e : oh_tx.getD (2000 + n - 2000) [] = oh_tx.getD n [] := by rw [show 2000 + n - 2000 = n by omega]
  have q2 : K (oh_ixF c (oh_tx.getD (2000 + n - 2000) []) 0) h := by rw [e]; exact q
  have a1 : 5 ≤ d + 5 := by omega
  have a2 : 2000 ≤ 2000 + n := by omega
  have a3 : 2000 + n ≤ 2002 := by omega
  exact ⟨a1, a2, a3, q2⟩
theorem om_ch : ∀ b, b < 256 → ((nI b).toUInt32 % 65536).toInt32 = nI b := by decide +kernel
theorem om_nm : ∀ use, use < 2 → ∀ b, b < 256 → oh_ixF (nI b) (oh_tx.getD (use + 1) []) 0 = (match nmOf use b with
  | some k => nI k
  | none => -1) := by decide +kernel
theorem pcI_neg {t : List Nat} {a : Nat} (h : ¬ a < t.length) : pcI t a = -1 := by unfold pcI; rw [if_neg h]
/-- what isn't a digit, '!' or '(' -/
theorem cPS_name {t : List Nat} {use d a : Nat} {L : List Nat} {K : Int32 → oh_St → Prop} {h : oh_St} (hu : use < 2) (ht : ∀ x ∈ t, x < 256) (hl : t.length ≤ 50) (ha : a ≤ t.length) (hL : L.length ≤ a) (hs : cSt h t use a L)
    (q : ∀ h', cSt h' t use (match nmOf use (nb t a) with | some k => ((true, a + 1, [20000 + k]) : pR) | none => (false, a, [])).2.1 (L ++ (match nmOf use (nb t a) with | some k => ((true, a + 1, [20000 + k]) : pR) | none => (false, a, [])).2.2) → cFr h h' → K (oh_b (match nmOf use (nb t a) with | some k => ((true, a + 1, [20000 + k]) : pR) | none => (false, a, [])).1) h') :
    ((0 ≤ pcI t a → ((2000 ≤ (2000 + (h.1 42 2).toNatClampNeg) ∧ (2000 + (h.1 42 2).toNatClampNeg) ≤ 2002) ∧ CM (d + 6) jJ0_indexOf_0f7a4 [.ref (2000 + (h.1 42 2).toNatClampNeg), .int (((pcI t a).toUInt32 % 65536).toInt32)] h (oh_r1 (fun x10 h9 => ((0 ≤ x10 → CM (d + 6) jX3_add [.ref 43, .int ((20000 : Int32) + x10)] (oh_upi h9 42 3 ((h9.1 42 3) + (1 : Int32))) (oh_r0 (fun h11 => (((1 : Int32) = 0 ∨ (1 : Int32) = 1) ∧ K 1 h11)))) ∧ (¬ 0 ≤ x10 → (((0 : Int32) = 0 ∨ (0 : Int32) = 1) ∧ K 0 h9))))))) ∧ (¬ 0 ≤ pcI t a → ((0 ≤ (-1 : Int32) → CM (d + 6) jX3_add [.ref 43, .int ((20000 : Int32) + (-1 : Int32))] (oh_upi h 42 3 ((h.1 42 3) + (1 : Int32))) (oh_r0 (fun h12 => (((1 : Int32) = 0 ∨ (1 : Int32) = 1) ∧ K 1 h12)))) ∧ (¬ 0 ≤ (-1 : Int32) → (((0 : Int32) = 0 ∨ (0 : Int32) = 1) ∧ K 0 h))))) := by
  have fail : nmOf use (nb t a) = none → K 0 h := by
    intro z
    rw [z] at q
    exact q h (by simpa using hs) (cFr_rf h)
  rw [hs.2.1, oh_cl (by omega)]
  refine ⟨fun z => ⟨⟨by omega, by omega⟩, sJ0_indexOf (by omega) ?_⟩, fun z => br_f (by decide) ⟨oh_i0, fail ?_⟩⟩
  · have hb : a < t.length := by
      rcases Nat.lt_or_ge a t.length with y | y
      · exact y
      · rw [pcI_neg (by omega)] at z
        exact absurd z (by decide)
    have hc := nb_in ht hb
    have e : pcI t a = nI (nb t a) := by unfold pcI; rw [if_pos hb]
    rw [e, om_ch _ hc, om_nm use hu _ hc]
    cases hn : nmOf use (nb t a) with
    | none => exact br_f (by decide) ⟨oh_i0, fail hn⟩
    | some k =>
      have hk := (nmOf_in hn).2
      rw [hn] at q
      refine br_t (nI_pos' (by omega)) ?_
      rw [show (20000 : Int32) = nI 20000 from rfl, nI_add, hs.1, nI_1]
      have up := cSt_up (a' := a + 1) hs
      exact sX2_add up.1 (by omega) (fun h2 s2 f2 => ⟨oh_i1, q h2 s2 (cFr_tr up.2 f2)⟩)
  · have : ¬ a < t.length := by
      intro hb
      have hc := nb_in ht hb
      apply z
      unfold pcI
      rw [if_pos hb]
      exact nI_pos' (by omega)
    rw [nb_out (by omega)]
    unfold nmOf
    simp
theorem cPS_un {t : List Nat} {use : Nat} (hu : use < 2) (ht : ∀ x ∈ t, x < 256) (hl : t.length ≤ 50) : ∀ r, r ≤ 5 → ∀ d, cPS t use (d + (10 * r + 8)) jX2_readUnit [.int (nI (5 - r))] (pUn t use r)
  | 0, _ => fun d K h a L ha hL hs q => by
    have br2 : ∀ (c : Nat) {A B : Prop}, c < 256 → (nb t a = c → B) → (¬ nb t a = c → A) → (pcI t a = nI c → B) ∧ (¬ pcI t a = nI c → A) := fun c _ _ hc g f => ⟨fun z => g ((pcI_eq ht hc).mp z), fun z => f (mt (pcI_eq ht hc).mpr z)⟩
    have br : ∀ (c : Nat) {A B : Prop}, c < 256 → (¬ nb t a = c → A) → (nb t a = c → B) → (¬ pcI t a = nI c → A) ∧ (pcI t a = nI c → B) := fun c _ _ hc f g => ⟨fun z => f (mt (pcI_eq ht hc).mpr z), fun z => g ((pcI_eq ht hc).mp z)⟩
    show CM (d + 8) _ _ _ _
    refine mX2_readUnit (sX2_next hs hl ha (sX2_isDigit ht (oh_bz (fun c => ?_) (fun c => ?_))))
    · unfold pUn at q
      rw [if_neg (by rw [c]; decide)] at q
      refine br2 33 (by omega) (fun z => ?_) (fun z => ?_)
      · rw [if_pos z] at q
        exact br_f (nI_nlt (a := 5) (b := 5) (by omega) (by omega)) ⟨oh_i0, q h (by simpa using hs) (cFr_rf h)⟩
      · rw [if_neg z] at q
        refine br 40 (by omega) (fun z2 => ?_) (fun z2 => ?_)
        · rw [if_neg z2] at q
          exact cPS_name (d := d + 1) hu ht hl ha hL hs q
        · rw [if_pos z2] at q
          exact br_f (nI_nlt (a := 5) (b := 5) (by omega) (by omega)) ⟨oh_i0, q h (by simpa using hs) (cFr_rf h)⟩
    · unfold pUn at q
      rw [if_pos c] at q
      exact sX2_readNumber ht hl hs ha hL c (fun h' s f => ⟨oh_i1, q h' s f⟩)
  | r + 1, hr => fun d K h a L ha hL hs q => by
    have br2 : ∀ (c : Nat) {A B : Prop}, c < 256 → (nb t a = c → B) → (¬ nb t a = c → A) → (pcI t a = nI c → B) ∧ (¬ pcI t a = nI c → A) := fun c _ _ hc g f => ⟨fun z => g ((pcI_eq ht hc).mp z), fun z => f (mt (pcI_eq ht hc).mpr z)⟩
    have br : ∀ (c : Nat) {A B : Prop}, c < 256 → (¬ nb t a = c → A) → (nb t a = c → B) → (¬ pcI t a = nI c → A) ∧ (pcI t a = nI c → B) := fun c _ _ hc f g => ⟨fun z => f (mt (pcI_eq ht hc).mpr z), fun z => g ((pcI_eq ht hc).mp z)⟩
    have ihu := cPS_un hu ht hl r (by omega)
    have en : nI (5 - (r + 1)) + (1 : Int32) = nI (5 - r) := by rw [nI_1, show 5 - (r + 1) + 1 = 5 - r by omega]
    rw [show d + (10 * (r + 1) + 8) = (d + 10 * r + 17) + 1 by omega]
    refine mX2_readUnit ?_
    rw [show d + 10 * r + 17 = (d + 10 * r + 15) + 2 by omega]
    refine sX2_next hs hl ha ?_
    rw [show d + 10 * r + 15 + 2 = (d + 10 * r + 16) + 1 by omega]
    refine sX2_isDigit ht (oh_bz (fun c => ?_) (fun c => ?_))
    · unfold pUn at q
      rw [if_neg (by rw [c]; decide)] at q
      rw [en, hs.1, nI_1]
      have up := cSt_up (a' := a + 1) hs
      refine br2 33 (by omega) (fun z => ?_) (fun z => ?_)
      · rw [if_pos z] at q
        have hb := nb_lt (t := t) (a := a) (by omega)
        refine br_t (nI_lt (b := 5) (by omega) (by omega)) (oh_nf ((pcI_eq ht (c := 33) (by omega)).mpr z) (mX2_readNot ?_))
        rw [show d + 10 * r + 16 = (d + 8) + (10 * r + 8) by omega]
        refine ihu (d + 8) _ _ (a + 1) L hb (by omega) up.1 (fun h1 s1 f1 => ?_)
        obtain ⟨g1, g2, g3, g4, g5⟩ := pUn_gd t use r (a + 1) hb
        rw [show (d + 8) + (10 * r + 8) = (d + 8 + (10 * r + 7)) + 1 by omega]
        refine sX2_add (v := 10033) s1 (by simp only [List.length_append]; omega) (fun h2 s2 f2 => ⟨oh_b_01 _, oh_b_01 _, q h2 ?_ (cFr_tr up.2 (cFr_tr f1 f2))⟩)
        unfold pNo
        rw [List.append_assoc] at s2
        exact s2
      · rw [if_neg z] at q
        refine br 40 (by omega) (fun z2 => ?_) (fun z2 => ?_)
        · rw [if_neg z2] at q
          have := cPS_name (d := d + 10 * r + 11) hu ht hl ha hL hs q
          rw [show d + 10 * r + 11 + 6 = d + 10 * r + 16 + 1 by omega, hs.1, nI_1] at this
          exact this
        · rw [if_pos z2] at q
          have hb := nb_lt (t := t) (a := a) (by omega)
          refine br_t (nI_lt (b := 5) (by omega) (by omega)) (oh_nt (mt (pcI_eq ht (c := 33) (by omega)).mp z) (mX2_readInside ?_))
          have lev := cPS_lev ht hl (pUn_gd t use r) ihu 5 (by omega) d
          rw [show d + 10 * r + 16 = d + (10 * r + 8) + 3 + 5 by omega]
          refine lev _ _ (a + 1) L hb (by omega) up.1 (fun h1 s1 f1 => ?_)
          obtain ⟨g1, g2, g3, g4, g5⟩ := pLev_gd (pUn_gd t use r) 5 (a + 1) hb
          have f1' := cFr_tr up.2 f1
          unfold pIn at q
          refine oh_bz (fun c3 => ⟨oh_i0, ?_⟩) (fun c3 => ?_)
          · rw [if_neg (by rw [c3]; decide)] at q
            refine ⟨oh_i0, ?_⟩
            have := q h1 s1 f1'
            rw [c3] at this
            exact this
          · rw [if_pos c3] at q
            rw [show d + (10 * r + 8) + 3 + 5 = (d + (10 * r + 8) + 6) + 2 by omega]
            refine sX2_next s1 hl g2 ⟨fun z4 => ?_, fun z4 => ?_⟩
            · have z4 := (pcI_eq ht (c := 41) (by omega)).mp z4
              rw [if_pos z4] at q
              refine ⟨oh_i1, oh_i1, ?_⟩
              rw [s1.1, nI_1]
              have up2 := cSt_up (a' := (pLev t (pUn t use r) 5 (a + 1)).2.1 + 1) s1
              exact q _ up2.1 (cFr_tr f1' up2.2)
            · have z4 := mt (pcI_eq ht (c := 41) (by omega)).mpr z4
              rw [if_neg z4] at q
              exact ⟨oh_i0, oh_i0, q h1 s1 f1'⟩
    · unfold pUn at q
      rw [if_pos c] at q
      rw [show d + 10 * r + 16 + 1 = (d + 10 * r + 14) + 3 by omega]
      exact sX2_readNumber ht hl hs ha hL c (fun h' s f => ⟨oh_i1, q h' s f⟩)
def pAns (t : List Nat) (use : Nat) : Int32 := if pOk t use then -1 else nI (pTx t use).2.1
theorem sX2_faultOf {d : Nat} {K : Int32 → oh_St → Prop} {h : oh_St} {t : List Nat} {use : Nat} (hu : use < 2) (ht : ∀ x ∈ t, x < 256) (hl : t.length ≤ 50) (hr : rowIs h 15 (t.map nI)) (q : ∀ h', rowIs h' 43 ((pTx t use).2.2.map nI) → oSame h h' [42, 43, 44, 45, 46] → K (pAns t use) h') : CM (d + 67) jX2_faultOf [.ref 42, .ref 15, .int (nI use)] h (oh_r1 K) := by
  refine mX2_faultOf (sX3_take (d := d + 64) (o := 45) (o2 := 15) (by unfold oTake; omega) hr (fun h1 r1 s1 => ?_))
  have main : ∀ h2, oSame h h2 [42, 43, 44, 45, 46] → cSt h2 t use 0 [] → CM (d + 66) jX2_readLevel [.ref 42, .int (0 : Int32), .int (0 : Int32)] h2 (oh_r1 (fun x4 h3 => ((x4 = 0 → oh_r1 K (some (.int (h3.1 42 3))) h3) ∧ (¬ x4 = 0 → ((¬ (h3.1 42 3) = (h3.1 45 1) → oh_r1 K (some (.int (h3.1 42 3))) h3) ∧ ((h3.1 42 3) = (h3.1 45 1) → oh_r1 K (some (.int (-1 : Int32))) h3)))))) := by
    intro h2 s2 c2
    have lev := cPS_lev ht hl (pUn_gd t use 5) (cPS_un hu ht hl 5 (by omega)) 5 (by omega) d
    refine lev _ h2 0 [] (by omega) (by simp) c2 (fun h3 s3 f3 => ?_)
    obtain ⟨g1, g2, g3, g4, g5⟩ := pLev_gd (pUn_gd t use 5) 5 0 (by omega)
    rw [List.nil_append] at s3
    have s' : oSame h h3 [42, 43, 44, 45, 46] := by
      refine oSame_tr s2 ⟨fun a b hab => f3.1 a b ?_ ?_ ?_, f3.2⟩
      · rintro ⟨rfl, rfl⟩; simp at hab
      · rintro rfl; simp at hab
      · rintro rfl; simp at hab
    have Q := q h3 s3.2.2.2 s'
    unfold pAns pOk pTx at Q
    rw [s3.1, s3.2.2.1.1, List.length_map]
    refine oh_bz (fun c => ?_) (fun c => ?_)
    · rw [c] at Q
      exact Q
    · rw [c] at Q
      simp only [Bool.true_and, decide_eq_true_eq] at Q
      refine oh_nc (fun z => ?_) (fun z => ?_)
      · rw [if_neg (fun e => z (by rw [e]))] at Q
        exact Q
      · rw [if_pos ((nI_eq (by omega) (by omega)).mp z)] at Q
        exact Q
  have pre : ∀ (m : Nat), m = use + 1 → cSt (oh_upi (oh_upi (oh_upi h1 42 2 (nI m)) 42 3 0) 43 1 0) t use 0 [] ∧ oSame h (oh_upi (oh_upi (oh_upi h1 42 2 (nI m)) 42 3 0) 43 1 0) [42, 43, 44, 45, 46] := by
    rintro m rfl
    refine ⟨⟨?_, ?_, ?_, ?_, ?_, ?_⟩, ?_⟩
    · rw [oh_g1, if_neg (by omega), oh_g1, if_pos ⟨rfl, rfl⟩]; rfl
    · rw [oh_g1, if_neg (by omega), oh_g1, if_neg (by omega), oh_g1, if_pos ⟨rfl, rfl⟩]
    · exact rowIs_same r1 (oSame_up (oSame_up (oSame_up (X := [42, 43]) (oSame_rf h1 _) (by simp)) (by simp)) (by simp)) (by simp) (by simp)
    · rw [oh_g1, if_pos ⟨rfl, rfl⟩]; rfl
    · intro i hi; simp at hi
    · simp
    · exact oSame_up (oSame_up (oSame_up (oSame_mono s1 (by simp)) (by simp)) (by simp)) (by simp)
  have hu2 : use = 0 ∨ use = 1 := by omega
  rcases hu2 with rfl | rfl
  · refine oh_nf rfl (sX3_clear (d := d + 65) (o := 43) (by unfold oRow; omega) ?_)
    have := pre 1 rfl
    exact main _ this.2 this.1
  · refine oh_nt (by decide) (sX3_clear (d := d + 65) (o := 43) (by unfold oRow; omega) ?_)
    have := pre 2 rfl
    exact main _ this.2 this.1

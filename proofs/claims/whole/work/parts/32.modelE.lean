/-! THE MODEL: the levels of a text -/
theorem mLS_either {t : List Nat} {use base : Nat} {nm : Nat → Int32} {op D : Nat} {sub : Nat → pR} (hO : tOk t base) (hg : pGd t sub) (hs : mPS t use base nm (D + 2) jX8_both op sub) : mLS t use base nm op (wX8_either_5 (D + 2)) (pLoop t sub 0) := by
  refine mLS_of hO hg (fun K v k x hf hx q => bX8_either_5 (sX8_takesF (c := 124) hf hx (by omega) (br_t rfl q))) (fun K v k b hb hk q0 q1 => ?_)
  refine bX8_either_5 (sX8_takes (c := 124) hO hk hb (by omega) (fun z => ?_) (fun z => br_t rfl (q0 (by unfold isS; simpa using z))))
  have hb2 := nb_lt (t := t) (a := b) (by omega)
  have q1 := q1 (by unfold isS; simpa using z) hb2
  have p1 := pF_up k 9 (nI (b + 1)) (Or.inl rfl)
  refine br_f (by decide) (hs _ _ (b + 1) hb2 (mPt_at hk (b + 1)) (fun w k' c hw hk' hf => ?_) (fun w k' c hf' hp => ?_))
  · have := q1.1 w k' c hw hk' (pF_tr p1 hf)
    rw [z] at this
    simp only [oJ, if_true] at this
    refine ⟨fun y => ?_, fun y => ⟨fun y2 => ?_, fun y2 => ?_⟩⟩
    · rw [if_neg (fun e => y e.1)] at this; exact this
    · rw [if_pos ⟨y, y2⟩] at this; exact this
    · rw [if_neg (fun e => y2 e.2)] at this; exact this
  · have Q := fun u => q1.2 u k' c hf' (pF_tr p1 hp)
    exact ⟨fun _ => Q _, fun _ => ⟨fun _ => Q _, fun _ => Q _⟩⟩
theorem mLS_both {t : List Nat} {use base : Nat} {nm : Nat → Int32} {op D : Nat} {sub : Nat → pR} (hO : tOk t base) (hg : pGd t sub) (hs : mPS t use base nm (D + 2) jX8_compared op sub) : mLS t use base nm op (wX8_both_5 (D + 2)) (pLoop t sub 1) := by
  refine mLS_of hO hg (fun K v k x hf hx q => bX8_both_5 (sX8_takesF (c := 38) hf hx (by omega) (br_t rfl q))) (fun K v k b hb hk q0 q1 => ?_)
  refine bX8_both_5 (sX8_takes (c := 38) hO hk hb (by omega) (fun z => ?_) (fun z => br_t rfl (q0 (by unfold isS; simpa using z))))
  have hb2 := nb_lt (t := t) (a := b) (by omega)
  have q1 := q1 (by unfold isS; simpa using z) hb2
  have p1 := pF_up k 9 (nI (b + 1)) (Or.inl rfl)
  refine br_f (by decide) (hs _ _ (b + 1) hb2 (mPt_at hk (b + 1)) (fun w k' c hw hk' hf => ?_) (fun w k' c hf' hp => ?_))
  · have := q1.1 w k' c hw hk' (pF_tr p1 hf)
    rw [z] at this
    simp only [oJ, Nat.reduceEqDiff, if_false, if_true] at this
    refine ⟨fun y => ?_, fun y => ⟨fun y2 => ?_, fun y2 => ?_⟩⟩
    · rw [if_pos (Or.inl y)] at this; exact this
    · rw [if_pos (Or.inr y2)] at this; exact this
    · rw [if_neg (fun e => by rcases e with e | e; exact y e; exact y2 e)] at this; exact this
  · have Q := fun u => q1.2 u k' c hf' (pF_tr p1 hp)
    exact ⟨fun _ => Q _, fun _ => ⟨fun _ => Q _, fun _ => Q _⟩⟩
theorem pcI_b2 {t : List Nat} (ht : ∀ x ∈ t, x < 256) {a : Nat} (c : Nat) {A B : Prop} (hc : c < 256) (g : nb t a = c → B) (f : ¬ nb t a = c → A) : (pcI t a = nI c → B) ∧ (¬ pcI t a = nI c → A) := ⟨fun z => g ((pcI_eq ht hc).mp z), fun z => f (mt (pcI_eq ht hc).mpr z)⟩
theorem pcI_b1 {t : List Nat} (ht : ∀ x ∈ t, x < 256) {a : Nat} (c : Nat) {A B : Prop} (hc : c < 256) (f : ¬ nb t a = c → A) (g : nb t a = c → B) : (¬ pcI t a = nI c → A) ∧ (pcI t a = nI c → B) := ⟨fun z => f (mt (pcI_eq ht hc).mpr z), fun z => g ((pcI_eq ht hc).mp z)⟩
theorem mLS_sum {t : List Nat} {use base : Nat} {nm : Nat → Int32} {op D : Nat} {sub : Nat → pR} (hO : tOk t base) (hg : pGd t sub) (hs : mPS t use base nm (D + 2) jX8_product op sub) : mLS t use base nm op (wX8_sum_5 (D + 2)) (pLoop t sub 3) := by
  refine mLS_of hO hg (fun K v k x hf hx q => bX8_sum_5 (sX8_hereF hf hx (br_f (om_m1 (c := 43) (by omega)) (sX8_hereF hf hx (oh_nt (om_m1 (c := 45) (by omega)) q))))) (fun K v k b hb hk q0 q1 => ?_)
  have go : isS 3 (nb t b) = true → MM (D + 2) jX8_product [.ref 0] (oh_upi k 0 9 ((k.1 0 9) + (1 : Int32))) (oh_r1 (fun x6 h5 => ((¬ pcI t b = (43 : Int32) → wX8_sum_5 (D + 2) (oh_r1 K) (v - x6) h5) ∧ (pcI t b = (43 : Int32) → wX8_sum_5 (D + 2) (oh_r1 K) (v + x6) h5)))) := by
    intro z
    have hb2 := nb_lt (t := t) (a := b) (isS_in z).1
    have q1 := q1 z hb2
    have p1 := pF_up k 9 (nI (b + 1)) (Or.inl rfl)
    rw [hk.2.1, nI_1]
    refine hs _ _ (b + 1) hb2 (mPt_at hk (b + 1)) (fun w k' c hw hk' hf => ?_) (fun w k' c hf' hp => ?_)
    · have := q1.1 w k' c hw hk' (pF_tr p1 hf)
      refine pcI_b1 hO.1 43 (by omega) (fun y => ?_) (fun y => ?_)
      · have e : nb t b = 45 := by
          unfold isS at z
          simp at z
          omega
        rw [e] at this
        exact this
      · rw [y] at this
        exact this
    · have Q := fun u => q1.2 u k' c hf' (pF_tr p1 hp)
      exact ⟨fun _ => Q _, fun _ => Q _⟩
  refine bX8_sum_5 (sX8_here hO hk hb (pcI_b2 hO.1 43 (by omega) (fun z => sX8_here hO hk hb (go (by unfold isS; simp [z]))) (fun z => sX8_here hO hk hb (pcI_b1 hO.1 45 (by omega) (fun z2 => q0 (by unfold isS; simp [z, z2])) (fun z2 => sX8_here hO hk hb (go (by unfold isS; simp [z2])))))))
theorem mLS_product {t : List Nat} {use base : Nat} {nm : Nat → Int32} {op D : Nat} {sub : Nat → pR} (hO : tOk t base) (hg : pGd t sub) (hs : mPS t use base nm (D + 2) jX8_unit op sub) : mLS t use base nm op (wX8_product_5 (D + 2)) (pLoop t sub 4) := by
  refine mLS_of hO hg (fun K v k x hf hx q => bX8_product_5 (sX8_hereF hf hx (br_f (om_m1 (c := 42) (by omega)) (sX8_hereF hf hx (br_f (om_m1 (c := 47) (by omega)) (sX8_hereF hf hx (oh_nt (om_m1 (c := 37) (by omega)) q))))))) (fun K v k b hb hk q0 q1 => ?_)
  have go : isS 4 (nb t b) = true → MM (D + 2) jX8_unit [.ref 0] (oh_upi k 0 9 ((k.1 0 9) + (1 : Int32))) (oh_r1 (fun x6 h5 => ((¬ pcI t b = (42 : Int32) → ((¬ x6 = 0 → ((¬ pcI t b = (47 : Int32) → (¬ x6 = 0 ∧ wX8_product_5 (D + 2) (oh_r1 K) (v - v / x6 * x6) h5)) ∧ (pcI t b = (47 : Int32) → (¬ x6 = 0 ∧ wX8_product_5 (D + 2) (oh_r1 K) (v / x6) h5)))) ∧ (x6 = 0 → wX8_product_5 (D + 2) (oh_r1 K) (0 : Int32) h5))) ∧ (pcI t b = (42 : Int32) → wX8_product_5 (D + 2) (oh_r1 K) (v * x6) h5)))) := by
    intro z
    have hb2 := nb_lt (t := t) (a := b) (isS_in z).1
    have q1 := q1 z hb2
    have p1 := pF_up k 9 (nI (b + 1)) (Or.inl rfl)
    rw [hk.2.1, nI_1]
    refine hs _ _ (b + 1) hb2 (mPt_at hk (b + 1)) (fun w k' c hw hk' hf => ?_) (fun w k' c hf' hp => ?_)
    · have Q := q1.1 w k' c hw hk' (pF_tr p1 hf)
      refine pcI_b1 hO.1 42 (by omega) (fun y => ⟨fun w0 => pcI_b1 hO.1 47 (by omega) (fun y2 => ⟨w0, ?_⟩) (fun y2 => ⟨w0, ?_⟩), fun w0 => ?_⟩) (fun y => ?_)
      · have e : nb t b = 37 := by
          unfold isS at z
          simp at z
          omega
        rw [e] at Q
        simp only [oJ, Nat.reduceEqDiff, if_false, if_true, w0] at Q
        exact Q
      · rw [y2] at Q
        simp only [oJ, Nat.reduceEqDiff, if_false, if_true, w0] at Q
        exact Q
      · have e : nb t b = 37 ∨ nb t b = 47 := by
          unfold isS at z
          simp at z
          omega
        rcases e with e | e
        · rw [e] at Q
          simp only [oJ, Nat.reduceEqDiff, if_false, if_true, w0] at Q
          exact Q
        · rw [e] at Q
          simp only [oJ, Nat.reduceEqDiff, if_false, if_true, w0] at Q
          exact Q
      · rw [y] at Q
        exact Q
    · have Q := fun u => q1.2 u k' c hf' (pF_tr p1 hp)
      exact ⟨fun _ => ⟨fun w0 => ⟨fun _ => ⟨w0, Q _⟩, fun _ => ⟨w0, Q _⟩⟩, fun _ => Q _⟩, fun _ => Q _⟩
  refine bX8_product_5 (sX8_here hO hk hb (pcI_b2 hO.1 42 (by omega) (fun z => sX8_here hO hk hb (go (by unfold isS; simp [z]))) (fun z => sX8_here hO hk hb (pcI_b2 hO.1 47 (by omega) (fun z2 => sX8_here hO hk hb (go (by unfold isS; simp [z2]))) (fun z2 => sX8_here hO hk hb (pcI_b1 hO.1 37 (by omega) (fun z3 => q0 (by unfold isS; simp [z, z2, z3])) (fun z3 => sX8_here hO hk hb (go (by unfold isS; simp [z3])))))))))
theorem mPS_compared {t : List Nat} {use base : Nat} {nm : Nat → Int32} {op D : Nat} {u : Nat → pR} (hO : tOk t base) (hg : pGd t u) (hs : mPS t use base nm (D + 2) jX8_sum op (pLev t u 2)) : mPS t use base nm (D + 3) jX8_compared op (pLev t u 3) := by
  intro K k a ha hk q1 q0
  have gd := pLev_gd hg 2
  obtain ⟨g1, g2, g3, g4, g5⟩ := gd a ha
  have hl := hO.2.1
  unfold pLev at q1 q0
  refine mX8_compared (hs _ k a ha hk (fun v k1 c hv hk1 hf => ?_) (fun v k1 c hf hp => ?_))
  · rw [if_pos c] at q1 q0
    generalize (pLev t u 2 a).2.1 = b at *
    generalize (pLev t u 2 a).2.2 = C at *
    rw [show pMost (4 - 2) = 1 from rfl] at q1 q0
    unfold pLoop at q1 q0
    have stop : isS 2 (nb t b) = false → K v k1 := by
      intro z
      rw [if_neg (by rw [show (4 - 2) = 2 from rfl, z]; decide)] at q1
      exact q1 v k1 rfl (by simpa using hv) hk1 hf
    have go : isS 2 (nb t b) = true → MM (D + 2) jX8_sum [.ref 0] (oh_upi k1 0 9 ((k1.1 0 9) + (1 : Int32))) (oh_r1 (fun x6 h5 => ((¬ pcI t b = (60 : Int32) → ((¬ pcI t b = (61 : Int32) → ((v ≤ x6 → oh_r1 K (some (.int (0 : Int32))) h5) ∧ (¬ v ≤ x6 → oh_r1 K (some (.int (1 : Int32))) h5))) ∧ (pcI t b = (61 : Int32) → ((¬ v = x6 → oh_r1 K (some (.int (0 : Int32))) h5) ∧ (v = x6 → oh_r1 K (some (.int (1 : Int32))) h5))))) ∧ (pcI t b = (60 : Int32) → ((x6 ≤ v → oh_r1 K (some (.int (0 : Int32))) h5) ∧ (¬ x6 ≤ v → oh_r1 K (some (.int (1 : Int32))) h5)))))) := by
      intro z
      have hb2 := nb_lt (t := t) (a := b) (isS_in z).1
      have p1 := pF_up k1 9 (nI (b + 1)) (Or.inl rfl)
      rw [show (4 - 2) = 2 from rfl, if_pos z] at q1 q0
      have hz := isS_in z
      rw [hk1.2.1, nI_1]
      refine hs _ _ (b + 1) hb2 (mPt_at hk1 (b + 1)) (fun w k' c2 hw hk' hf2 => ?_) (fun w k' c2 hf' hp => ?_)
      · rw [if_pos c2] at q1
        unfold pLoop at q1
        have Q : K (oJ (nb t b) v w) k' := q1 _ k' rfl (by
          have := pv_sign hv hw hz.1 hz.2
          rw [List.append_assoc] at this
          exact this) hk' (pF_tr hf (pF_tr p1 hf2))
        have q2 : ∀ {x : Int32}, oJ (nb t b) v w = x → oh_r1 K (some (.int x)) k' := fun e => by rw [← e]; exact Q
        refine pcI_b1 hO.1 60 (by omega) (fun y => pcI_b1 hO.1 61 (by omega) (fun y2 => ?_) (fun y2 => ?_)) (fun y => ?_)
        · have e : nb t b = 62 := by
            unfold isS at z
            simp at z
            omega
          refine ⟨fun o => q2 ?_, fun o => q2 ?_⟩
          · rw [e, oJ]
            simp only [Nat.reduceEqDiff, if_false, if_true]
            rw [if_neg (Int32.not_lt.mpr o)]
          · rw [e, oJ]
            simp only [Nat.reduceEqDiff, if_false, if_true]
            rw [if_pos (Int32.not_le.mp o)]
        · refine ⟨fun o => q2 ?_, fun o => q2 ?_⟩
          · rw [y2, oJ]
            simp only [Nat.reduceEqDiff, if_false, if_true, o]
          · rw [y2, oJ]
            simp only [Nat.reduceEqDiff, if_false, if_true, o]
        · refine ⟨fun o => q2 ?_, fun o => q2 ?_⟩
          · rw [y, oJ]
            simp only [Nat.reduceEqDiff, if_false, if_true]
            rw [if_neg (Int32.not_lt.mpr o)]
          · rw [y, oJ]
            simp only [Nat.reduceEqDiff, if_false, if_true]
            rw [if_pos (Int32.not_le.mp o)]
      · rw [if_neg (by rw [c2]; decide)] at q0
        have Q := fun v => q0 v k' c2 hf' (pF_tr hf (pF_tr p1 hp))
        exact ⟨fun _ => ⟨fun _ => ⟨fun _ => Q _, fun _ => Q _⟩, fun _ => ⟨fun _ => Q _, fun _ => Q _⟩⟩, fun _ => ⟨fun _ => Q _, fun _ => Q _⟩⟩
    refine sX8_here hO hk1 g2 (pcI_b2 hO.1 60 (by omega) (fun z => go (by unfold isS; simp [z])) (fun z => pcI_b2 hO.1 61 (by omega) (fun z2 => go (by unfold isS; simp [z2])) (fun z2 => pcI_b2 hO.1 62 (by omega) (fun z3 => go (by unfold isS; simp [z3])) (fun z3 => stop (by unfold isS; simp [z, z2, z3])))))
  · rw [if_neg (by rw [c]; decide)] at q0
    exact sX8_hereF hf (by omega) (br_f (om_m1 (c := 60) (by omega)) (br_f (om_m1 (c := 61) (by omega)) (br_f (om_m1 (c := 62) (by omega)) (q0 v k1 c hf hp))))
theorem mPS_either {t : List Nat} {use base : Nat} {nm : Nat → Int32} {op D : Nat} {u : Nat → pR} (hO : tOk t base) (hg : pGd t u) (hs : mPS t use base nm (D + 2) jX8_unit op u) : mPS t use base nm (D + 7) jX8_either op (pLev t u 5) := by
  have h1 : mPS t use base nm (D + 3) jX8_product op (pLev t u 1) := mPS_of (j := 0) (js := jX8_unit) (wX8_product_5 (D + 2)) hO hg rfl (fun K k q => mX8_product q) (fun K v k x hf hx q => bX8_product_5 (sX8_hereF hf hx (br_f (om_m1 (c := 42) (by omega)) (sX8_hereF hf hx (br_f (om_m1 (c := 47) (by omega)) (sX8_hereF hf hx (oh_nt (om_m1 (c := 37) (by omega)) q))))))) hs (mLS_product hO hg hs)
  have h2 : mPS t use base nm (D + 4) jX8_sum op (pLev t u 2) := mPS_of (j := 1) (js := jX8_product) (wX8_sum_5 (D + 3)) hO hg rfl (fun K k q => mX8_sum q) (fun K v k x hf hx q => bX8_sum_5 (sX8_hereF hf hx (br_f (om_m1 (c := 43) (by omega)) (sX8_hereF hf hx (oh_nt (om_m1 (c := 45) (by omega)) q))))) h1 (mLS_sum (D := D + 1) hO (pLev_gd hg 1) h1)
  have h3 : mPS t use base nm (D + 5) jX8_compared op (pLev t u 3) := mPS_compared (D := D + 2) hO hg h2
  have h4 : mPS t use base nm (D + 6) jX8_both op (pLev t u 4) := mPS_of (j := 3) (js := jX8_compared) (wX8_both_5 (D + 5)) hO hg rfl (fun K k q => mX8_both q) (fun K v k x hf hx q => bX8_both_5 (sX8_takesF (c := 38) hf hx (by omega) (br_t rfl q))) h3 (mLS_both (D := D + 3) hO (pLev_gd hg 3) h3)
  exact mPS_of (j := 4) (js := jX8_both) (wX8_either_5 (D + 6)) hO hg rfl (fun K k q => mX8_either q) (fun K v k x hf hx q => bX8_either_5 (sX8_takesF (c := 124) hf hx (by omega) (br_t rfl q))) h4 (mLS_either (D := D + 4) hO (pLev_gd hg 4) h4)

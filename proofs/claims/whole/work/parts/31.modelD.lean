/-! THE MODEL: reading a text, one sign at a time -/
theorem om_ltL (x y : Int32) : x.toInt64 < y.toInt64 ↔ x < y := by
  rw [Int64.lt_iff_toInt_lt, Int32.toInt_toInt64, Int32.toInt_toInt64, Int32.lt_iff_toInt_lt]
theorem sX8_in {d : Nat} {K : Int32 → oh_St → Prop} {k : oh_St} {x lo hi : Int32} (q : K (oh_b (decide (¬ x < lo) && decide (¬ hi < x))) k) : MM (d + 1) jX8_in [.long x.toInt64, .long lo.toInt64, .long hi.toInt64] k (oh_r1 K) := by
  refine mX8_in ?_
  rw [oh_cmpl, oh_cmpg, om_ltL, om_ltL]
  refine ⟨fun c => ⟨oh_i0, ?_⟩, fun c => ⟨fun c2 => ⟨oh_i0, ?_⟩, fun c2 => ⟨oh_i1, ?_⟩⟩⟩
  · simp only [c, not_true, decide_false, Bool.false_and] at q; exact q
  · simp only [c2, not_true, decide_false, Bool.and_false] at q; exact q
  · simp only [c, c2, not_false_iff, decide_true, Bool.and_true] at q; exact q
def mPt (k : oh_St) (t : List Nat) (use base : Nat) (nm : Nat → Int32) (a op : Nat) : Prop := k.1 0 8 = nI base ∧ k.1 0 9 = nI a ∧ k.1 0 10 = nI t.length ∧ k.1 0 11 = -1 ∧ k.1 0 12 = nI op ∧ k.1 0 13 = oh_b (decide (use = 1)) ∧ (∀ i, i < t.length → k.1 1 (base + i) = nI (nb t i)) ∧ ∀ j, j < 4 → k.1 5 j = nm j
def pF (k k' : oh_St) : Prop := (∀ a b, ¬ (a = 0 ∧ (b = 9 ∨ b = 11 ∨ b = 12)) → k'.1 a b = k.1 a b) ∧ k'.2 = k.2
theorem pF_rf (k : oh_St) : pF k k := ⟨fun _ _ _ => rfl, rfl⟩
theorem pF_tr {k k' k2 : oh_St} (H : pF k k') (H2 : pF k' k2) : pF k k2 := ⟨fun a b x => (H2.1 a b x).trans (H.1 a b x), H2.2.trans H.2⟩
theorem pF_up (k : oh_St) (b : Nat) (v : Int32) (hb : b = 9 ∨ b = 11 ∨ b = 12) : pF k (oh_upi k 0 b v) := ⟨fun a c x => by
  rw [oh_g1, if_neg (fun z => x ⟨z.1, by rw [z.2]; exact hb⟩)], rfl⟩
theorem mPt_at {k : oh_St} {t : List Nat} {use base : Nat} {nm : Nat → Int32} {a op : Nat} (H : mPt k t use base nm a op) (a' : Nat) : mPt (oh_upi k 0 9 (nI a')) t use base nm a' op := by
  obtain ⟨h1, h2, h3, h4, h5, h6, h7, h8⟩ := H
  refine ⟨?_, ?_, ?_, ?_, ?_, ?_, fun i hi => ?_, fun j hj => ?_⟩
  · rw [oh_g1, if_neg (by omega)]; exact h1
  · rw [oh_g1, if_pos ⟨rfl, rfl⟩]
  · rw [oh_g1, if_neg (by omega)]; exact h3
  · rw [oh_g1, if_neg (by omega)]; exact h4
  · rw [oh_g1, if_neg (by omega)]; exact h5
  · rw [oh_g1, if_neg (by omega)]; exact h6
  · rw [oh_g1, if_neg (by omega)]; exact h7 i hi
  · rw [oh_g1, if_neg (by omega)]; exact h8 j hj
theorem mPt_op {k : oh_St} {t : List Nat} {use base : Nat} {nm : Nat → Int32} {a op : Nat} (H : mPt k t use base nm a op) (op' : Nat) : mPt (oh_upi k 0 12 (nI op')) t use base nm a op' := by
  obtain ⟨h1, h2, h3, h4, h5, h6, h7, h8⟩ := H
  refine ⟨?_, ?_, ?_, ?_, ?_, ?_, fun i hi => ?_, fun j hj => ?_⟩
  · rw [oh_g1, if_neg (by omega)]; exact h1
  · rw [oh_g1, if_neg (by omega)]; exact h2
  · rw [oh_g1, if_neg (by omega)]; exact h3
  · rw [oh_g1, if_neg (by omega)]; exact h4
  · rw [oh_g1, if_pos ⟨rfl, rfl⟩]
  · rw [oh_g1, if_neg (by omega)]; exact h6
  · rw [oh_g1, if_neg (by omega)]; exact h7 i hi
  · rw [oh_g1, if_neg (by omega)]; exact h8 j hj
/-- a text that can be read -/
def tOk (t : List Nat) (base : Nat) : Prop := (∀ x ∈ t, x < 256) ∧ t.length ≤ 50 ∧ base ≤ 160
theorem sX8_here {d : Nat} {K : Int32 → oh_St → Prop} {k : oh_St} {t : List Nat} {use base : Nat} {nm : Nat → Int32} {a op : Nat} (hO : tOk t base) (H : mPt k t use base nm a op) (ha : a ≤ t.length) (q : K (pcI t a) k) : MM (d + 1) jX8_here [.ref 0] k (oh_r1 K) := by
  have hl := hO.2.1
  have hb := hO.2.2
  refine mX8_here ?_
  rw [H.1, H.2.1, H.2.2.1, H.2.2.2.1]
  unfold pcI at q
  by_cases c : a < t.length
  · rw [if_pos c] at q
    refine br_f (nI_ge c (by omega)) (br_f (by decide) ?_)
    rw [nI_add, oh_cl (by omega), H.2.2.2.2.2.2.1 a c]
    exact ⟨om_in (by omega), q⟩
  · rw [if_neg c] at q
    exact br_t (nI_le (by omega) (by omega)) q
theorem sX8_hereF {d : Nat} {K : Int32 → oh_St → Prop} {k : oh_St} {x : Nat} (hf : k.1 0 11 = nI x) (hx : x < 1000) (q : K (-1) k) : MM (d + 1) jX8_here [.ref 0] k (oh_r1 K) := by
  refine mX8_here ⟨fun _ => q, fun _ => ?_⟩
  rw [hf]
  exact br_t (nI_pos' (by omega)) q
theorem sX8_takes {d : Nat} {K : Int32 → oh_St → Prop} {k : oh_St} {t : List Nat} {use base : Nat} {nm : Nat → Int32} {a op c : Nat} (hO : tOk t base) (H : mPt k t use base nm a op) (ha : a ≤ t.length) (hc : c < 256) (q1 : nb t a = c → K 1 (oh_upi k 0 9 (nI (a + 1)))) (q0 : ¬ nb t a = c → K 0 k) : MM (d + 2) jX8_takes [.ref 0, .int (nI c)] k (oh_r1 K) := by
  refine mX8_takes (sX8_here hO H ha ⟨fun z => ⟨oh_i1, ?_⟩, fun z => ⟨oh_i0, ?_⟩⟩)
  · rw [H.2.1, nI_1]
    exact q1 ((pcI_eq hO.1 hc).mp z)
  · exact q0 (mt (pcI_eq hO.1 hc).mpr z)
theorem om_m1 {c : Nat} (hc : c < 256) : ¬ (-1 : Int32) = nI c := fun z => absurd (show (-1 : Int32) < 0 by decide) (by rw [z]; exact nI_pos (by omega))
theorem sX8_takesF {d : Nat} {K : Int32 → oh_St → Prop} {k : oh_St} {x c : Nat} (hf : k.1 0 11 = nI x) (hx : x < 1000) (hc : c < 256) (q : K 0 k) : MM (d + 2) jX8_takes [.ref 0, .int (nI c)] k (oh_r1 K) := mX8_takes (sX8_hereF hf hx (br_f (om_m1 hc) ⟨oh_i0, q⟩))
theorem sX8_wrong {d : Nat} {K : Int32 → oh_St → Prop} {k : oh_St} {t : List Nat} {use base : Nat} {nm : Nat → Int32} {a op : Nat} (H : mPt k t use base nm a op) (q : K 0 (oh_upi k 0 11 (nI a))) : MM (d + 1) jX8_wrong [.ref 0] k (oh_r1 K) := by
  refine mX8_wrong ?_
  rw [H.2.2.2.1, H.2.1]
  exact br_f (by decide) q
theorem sX8_wrongF {d : Nat} {K : Int32 → oh_St → Prop} {k : oh_St} {x : Nat} (hf : k.1 0 11 = nI x) (hx : x < 1000) (q : K 0 (oh_upi k 0 11 (nI x))) : MM (d + 1) jX8_wrong [.ref 0] k (oh_r1 K) := by
  refine mX8_wrong ?_
  rw [hf]
  exact br_t (nI_pos' (by omega)) q
theorem sX8_nameOf {d : Nat} {K : Int32 → oh_St → Prop} {k : oh_St} {t : List Nat} {use base : Nat} {nm : Nat → Int32} {a op : Nat} (hu : use < 2) (hO : tOk t base) (H : mPt k t use base nm a op) (q : K (match nmOf use (nb t a) with
  | some k => nI k
  | none => -1) k) : MM (d + 1) jX8_nameOf [.ref 0, .int (pcI t a)] k (oh_r1 K) := by
  have br : ∀ (c : Nat) {A B : Prop}, c < 256 → (¬ nb t a = c → A) → (nb t a = c → B) → (¬ pcI t a = nI c → A) ∧ (pcI t a = nI c → B) := fun c _ _ hc f g => ⟨fun z => f (mt (pcI_eq hO.1 hc).mpr z), fun z => g ((pcI_eq hO.1 hc).mp z)⟩
  refine mX8_nameOf ?_
  rw [H.2.2.2.2.2.1]
  unfold nmOf at q
  have hu2 : use = 0 ∨ use = 1 := by omega
  rcases hu2 with rfl | rfl
  · rw [if_pos rfl] at q
    refine br_t rfl (br 98 (by omega) (fun z => ?_) (fun z => ?_))
    · rw [if_neg z] at q
      refine br 110 (by omega) (fun z => ?_) (fun z => ?_)
      · rw [if_neg z] at q
        refine br 102 (by omega) (fun z => ?_) (fun z => ?_)
        · rw [if_neg z] at q
          refine br 108 (by omega) (fun z => ?_) (fun z => ?_)
          · rw [if_neg z] at q; exact q
          · rw [if_pos z] at q; exact q
        · rw [if_pos z] at q; exact q
      · rw [if_pos z] at q; exact q
    · rw [if_pos z] at q; exact q
  · rw [if_neg (by decide)] at q
    refine br_f (by decide) (br 104 (by omega) (fun z => ?_) (fun z => ?_))
    · rw [if_neg z] at q
      refine br 116 (by omega) (fun z => ?_) (fun z => ?_)
      · rw [if_neg z] at q
        refine br 99 (by omega) (fun z => ?_) (fun z => ?_)
        · rw [if_neg z] at q; exact q
        · rw [if_pos z] at q; exact q
      · rw [if_pos z] at q; exact q
    · rw [if_pos z] at q; exact q
/-- what code comes to -/
def pv (nm : Nat → Int32) (c : List Nat) (v : Int32) : Prop := 1 ≤ c.length ∧ ∀ st rest, st.length + c.length ≤ 50 → eC nm (c ++ rest) st = eC nm rest (v :: st)
theorem pv_num (nm : Nat → Int32) {n : Nat} (h : n < 10000) : pv nm [n] (nI n) := ⟨by simp, fun st rest hl => by
  simp only [List.length_singleton] at hl
  rw [List.singleton_append]
  conv => lhs; unfold eC
  rw [if_pos h, if_pos (by omega)]⟩
theorem pv_name (nm : Nat → Int32) (n : Nat) : pv nm [20000 + n] (nm n) := ⟨by simp, fun st rest hl => by
  simp only [List.length_singleton] at hl
  rw [List.singleton_append]
  conv => lhs; unfold eC
  rw [if_neg (by omega), if_neg (by omega), if_pos (by omega), show 20000 + n - 20000 = n by omega]⟩
theorem pv_not {nm : Nat → Int32} {c : List Nat} {v : Int32} (h : pv nm c v) : pv nm (c ++ [10033]) (if v = 0 then 1 else 0) := ⟨by simp, fun st rest hl => by
  simp only [List.length_append, List.length_singleton] at hl
  rw [List.append_assoc, h.2 st _ (by omega), List.singleton_append]
  conv => lhs; unfold eC
  rw [if_neg (by omega), if_pos (by omega), if_pos rfl]⟩
theorem pv_sign {nm : Nat → Int32} {c c2 : List Nat} {v w : Int32} {s : Nat} (h : pv nm c v) (h2 : pv nm c2 w) (hs : s < 256) (hn : ¬ s = 33) : pv nm (c ++ c2 ++ [10000 + s]) (oJ s v w) := ⟨by simp; omega, fun st rest hl => by
  have := h.1
  simp only [List.length_append, List.length_singleton] at hl
  rw [List.append_assoc, List.append_assoc, h.2 st _ (by omega), h2.2 _ _ (by simp; omega), List.singleton_append]
  conv => lhs; unfold eC
  rw [if_neg (by omega), if_pos (by omega), if_neg (by omega), show 10000 + s - 10000 = s by omega]⟩
/-- what a reading method of the model does -/
def mPS (t : List Nat) (use base : Nat) (nm : Nat → Int32) (D : Nat) (j : Nat) (op : Nat) (f : Nat → pR) : Prop := ∀ (K : Int32 → oh_St → Prop) k a, a ≤ t.length → mPt k t use base nm a op → (∀ v k', (f a).1 = true → pv nm (f a).2.2 v → mPt k' t use base nm (f a).2.1 op → pF k k' → K v k') → (∀ v k', (f a).1 = false → k'.1 0 11 = nI (f a).2.1 → pF k k' → K v k') → MM D j [.ref 0] k (oh_r1 K)
/-- a loop of the model's: what it does behind a value -/
def mLS (t : List Nat) (use base : Nat) (nm : Nat → Int32) (op : Nat) (W : oh_Q → Int32 → oh_St → Prop) (L : Nat → Nat → pR) : Prop := ∀ f (K : Int32 → oh_St → Prop) b (C : List Nat) v k, b ≤ t.length → t.length ≤ b + f → mPt k t use base nm b op → pv nm C v → (∀ v2 k2, (L f b).1 = true → pv nm (C ++ (L f b).2.2) v2 → mPt k2 t use base nm (L f b).2.1 op → pF k k2 → K v2 k2) → (∀ v2 k2, (L f b).1 = false → k2.1 0 11 = nI (L f b).2.1 → pF k k2 → K v2 k2) → W (oh_r1 K) v k
/-- a loop, by its one step -/
theorem mLS_of {t : List Nat} {use base : Nat} {nm : Nat → Int32} {op lv : Nat} {W : oh_Q → Int32 → oh_St → Prop} {sub : Nat → pR} (hO : tOk t base) (hg : pGd t sub)
    (fault : ∀ (K : Int32 → oh_St → Prop) v k x, k.1 0 11 = nI x → x < 1000 → K v k → W (oh_r1 K) v k)
    (step : ∀ (K : Int32 → oh_St → Prop) v k b, b ≤ t.length → mPt k t use base nm b op → (isS lv (nb t b) = false → K v k) → (isS lv (nb t b) = true → b < t.length → (∀ w k', (sub (b + 1)).1 = true → pv nm (sub (b + 1)).2.2 w → mPt k' t use base nm (sub (b + 1)).2.1 op → pF k k' → W (oh_r1 K) (oJ (nb t b) v w) k') ∧ (∀ u k', (sub (b + 1)).1 = false → k'.1 0 11 = nI (sub (b + 1)).2.1 → pF k k' → W (oh_r1 K) u k')) → W (oh_r1 K) v k) : mLS t use base nm op W (pLoop t sub lv) := by
  intro f
  induction f with
  | zero =>
    intro K b C v k hb hf hk hv q1 q0
    have hn : isS lv (nb t b) = false := by
      cases h : isS lv (nb t b)
      · rfl
      · have := nb_lt (isS_in h).1
        omega
    refine step K v k b hb hk (fun _ => ?_) (fun z => by rw [hn] at z; cases z)
    unfold pLoop at q1
    exact q1 v k rfl (by simpa using hv) hk (pF_rf k)
  | succ f ih =>
    intro K b C v k hb hf hk hv q1 q0
    unfold pLoop at q1 q0
    refine step K v k b hb hk (fun z => ?_) (fun z hb2 => ?_)
    · rw [if_neg (by rw [z]; decide)] at q1
      exact q1 v k rfl (by simpa using hv) hk (pF_rf k)
    · rw [if_pos z] at q1 q0
      have hs := isS_in z
      obtain ⟨g1, g2, g3, g4, g5⟩ := hg (b + 1) hb2
      refine ⟨fun w k' c2 hw hk' hf' => ?_, fun u k' c2 hf' hp => ?_⟩
      · rw [if_pos c2] at q1 q0
        have g4 := g4 c2
        refine ih K _ (C ++ (sub (b + 1)).2.2 ++ [10000 + nb t b]) _ k' g2 (by omega) hk' (pv_sign hv hw hs.1 hs.2) (fun v2 k2 a1 a2 a3 a4 => q1 v2 k2 a1 ?_ a3 (pF_tr hf' a4)) (fun v2 k2 a1 a2 a3 => q0 v2 k2 a1 a2 (pF_tr hf' a3))
        rw [List.append_assoc, List.append_assoc] at a2
        exact a2
      · rw [if_neg (by rw [c2]; decide)] at q0
        have := hO.2.1
        exact fault K u k' _ hf' (by omega) (q0 u k' c2 hf' hp)
/-- a level with a loop -/
theorem mPS_of {t : List Nat} {use base : Nat} {nm : Nat → Int32} {op j D jm js : Nat} {u : Nat → pR} (W : oh_Q → Int32 → oh_St → Prop) (hO : tOk t base) (hg : pGd t u) (hj : pMost (4 - j) = 50)
    (enter : ∀ (K : Int32 → oh_St → Prop) k, MM D js [.ref 0] k (oh_r1 (fun x h => W (oh_r1 K) x h)) → MM (D + 1) jm [.ref 0] k (oh_r1 K))
    (fault : ∀ (K : Int32 → oh_St → Prop) v k x, k.1 0 11 = nI x → x < 1000 → K v k → W (oh_r1 K) v k)
    (hs : mPS t use base nm D js op (pLev t u j)) (hl : mLS t use base nm op W (pLoop t (pLev t u j) (4 - j))) : mPS t use base nm (D + 1) jm op (pLev t u (j + 1)) := by
  intro K k a ha hk q1 q0
  obtain ⟨g1, g2, g3, g4, g5⟩ := pLev_gd hg j a ha
  have := hO.2.1
  unfold pLev at q1 q0
  rw [hj] at q1 q0
  refine enter K k (hs _ k a ha hk (fun v k1 c hv hk1 hf => ?_) (fun v k1 c hf hp => ?_))
  · rw [if_pos c] at q1 q0
    exact hl 50 K _ _ v k1 g2 (by omega) hk1 hv (fun v2 k2 a1 a2 a3 a4 => q1 v2 k2 a1 a2 a3 (pF_tr hf a4)) (fun v2 k2 a1 a2 a3 => q0 v2 k2 a1 a2 (pF_tr hf a3))
  · rw [if_neg (by rw [c]; decide)] at q0
    exact fault K v k1 _ hf (by omega) (q0 v k1 c hf hp)

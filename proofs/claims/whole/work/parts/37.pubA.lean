/-! BOTH SIDES: calls that speak of men -/
def Both (jc jm : Nat) (args : List Value) (h k : oh_St) : Prop := ∀ d, CM (d + 100) jc (.ref 0 :: args) h (oh_r1 (fun x h' => MM (d + 100) jm (.ref 0 :: args) k (oh_r1 (fun y k' => x = y ∧ R h' k'))))
theorem sX8_inT {d : Nat} {K : Int32 → oh_St → Prop} {k : oh_St} {x : Int32} {lo' hi' : Int64} (lo hi : Int32) (e1 : lo' = lo.toInt64) (e2 : hi' = hi.toInt64) (c1 : ¬ x < lo) (c2 : ¬ hi < x) (q : K 1 k) : MM (d + 1) jX8_in [.long x.toInt64, .long lo', .long hi'] k (oh_r1 K) := by
  subst e1 e2
  refine sX8_in ?_
  simp only [c1, c2, not_false_iff, decide_true, Bool.and_true]
  exact q
theorem sX8_inF {d : Nat} {K : Int32 → oh_St → Prop} {k : oh_St} {x : Int32} {lo' hi' : Int64} (lo hi : Int32) (e1 : lo' = lo.toInt64) (e2 : hi' = hi.toInt64) (c : x < lo ∨ hi < x) (q : K 0 k) : MM (d + 1) jX8_in [.long x.toInt64, .long lo', .long hi'] k (oh_r1 K) := by
  subst e1 e2
  refine sX8_in ?_
  rcases c with c | c
  · simp only [c, not_true, decide_false, Bool.false_and]
    exact q
  · simp only [c, not_true, decide_false, Bool.and_false]
    exact q
/-- one of the first n -/
def oIn (n : Nat) (v : Int32) : Prop := ∃ p, p < n ∧ v = nI p
theorem oIn_no {n : Nat} {v : Int32} (hn : n < 2 ^ 31) (h : ¬ oIn n v) : v < 0 ∨ nI n ≤ v := by
  by_cases c : v < 0
  · exact Or.inl c
  · refine Or.inr (Int32.not_lt.mp (fun z => h ?_))
    exact (oh_rng hn).mp ⟨c, z⟩
theorem oIn_of {n : Nat} {v : Int32} (hn : n < 2 ^ 31) (c1 : ¬ v < 0) (c2 : ¬ nI n ≤ v) : oIn n v := (oh_rng hn).mp ⟨c1, Int32.not_le.mp c2⟩
/-- between 0 and a number -/
theorem oIn_le {n : Nat} {v : Int32} (hn : n + 1 < 2 ^ 31) : (¬ v < 0 ∧ ¬ nI n < v) ↔ oIn (n + 1) v := by
  constructor
  · rintro ⟨c1, c2⟩
    obtain ⟨j, hj, rfl⟩ := nI_of c1
    refine ⟨j, ?_, rfl⟩
    have := mt (nI_ltI (by omega) (by omega)).mpr c2
    omega
  · rintro ⟨p, hp, rfl⟩
    exact ⟨nI_pos (by omega), nI_nlt (by omega) (by omega)⟩
theorem oIn_out {n : Nat} {v : Int32} (hn : n + 1 < 2 ^ 31) (h : ¬ oIn (n + 1) v) : v < 0 ∨ nI n < v := by
  by_cases c : v < 0
  · exact Or.inl c
  · by_cases c2 : nI n < v
    · exact Or.inr c2
    · exact absurd ((oIn_le hn).mp ⟨c, c2⟩) h
theorem sX7_isManT {d : Nat} {K : Int32 → oh_St → Prop} {h : oh_St} {n p : Nat} (hn : h.1 2 0 = nI n) (h6 : n ≤ 6) (hp : p < n) (q : K 1 h) : CM (d + 1) jX7_isMan [.ref 0, .int (nI p)] h (oh_r1 K) := by
  refine mX7_isMan ?_
  rw [hn]
  exact br_f (nI_pos (by omega)) (br_f (nI_ge hp (by omega)) ⟨oh_i1, q⟩)
theorem sX7_isManF {d : Nat} {K : Int32 → oh_St → Prop} {h : oh_St} {n : Nat} {v : Int32} (hn : h.1 2 0 = nI n) (h6 : n ≤ 6) (hp : ¬ oIn n v) (q : K 0 h) : CM (d + 1) jX7_isMan [.ref 0, .int v] h (oh_r1 K) := by
  refine mX7_isMan ?_
  rw [hn]
  refine ⟨fun _ => ⟨oh_i0, q⟩, fun c => ⟨fun _ => ⟨oh_i0, q⟩, fun c2 => absurd (oIn_of (by omega) c c2) hp⟩⟩
theorem om_pm (n : Nat) {j : Nat} (hn : n ≤ 6) (hj : j < 2 ^ 31) : nI n - 1 < nI j ↔ n ≤ j := by
  cases n with
  | zero =>
    have : (nI 0 - 1 : Int32) = -1 := by decide
    rw [this]
    constructor
    · intro _; omega
    · intro _
      have h0 := nI_pos' hj
      exact Int32.lt_of_lt_of_le (by decide) h0
  | succ m =>
    rw [nI_pred, nI_ltI (by omega) hj]
    omega
theorem sX8_isManT {d : Nat} {K : Int32 → oh_St → Prop} {k : oh_St} {n p : Nat} (hn : k.1 1 0 = nI n) (h6 : n ≤ 6) (hp : p < n) (q : K 1 k) : MM (d + 2) jX8_isMan [.ref 0, .int (nI p)] k (oh_r1 K) := by
  refine mX8_isMan ⟨om_in (n := 0) (by omega), ?_⟩
  rw [om_0, hn]
  exact sX8_inT 0 (nI n - 1) (by decide) rfl (nI_pos (by omega)) (fun z => by have := (om_pm n h6 (by omega)).mp z; omega) ⟨oh_i1, q⟩
theorem sX8_isManF {d : Nat} {K : Int32 → oh_St → Prop} {k : oh_St} {n : Nat} {v : Int32} (hn : k.1 1 0 = nI n) (h6 : n ≤ 6) (hp : ¬ oIn n v) (q : K 0 k) : MM (d + 2) jX8_isMan [.ref 0, .int v] k (oh_r1 K) := by
  refine mX8_isMan ⟨om_in (n := 0) (by omega), ?_⟩
  rw [om_0, hn]
  refine sX8_inF 0 (nI n - 1) (by decide) rfl ?_ ⟨oh_i0, q⟩
  rcases oIn_no (by omega) hp with c | c
  · exact Or.inl c
  · by_cases c0 : v < 0
    · exact Or.inl c0
    · obtain ⟨j, hj, rfl⟩ := nI_of c0
      exact Or.inr ((om_pm n h6 hj).mpr ((nI_leI (by omega) hj).mp c))
theorem sX8_isOpen {d : Nat} {K : Int32 → oh_St → Prop} {k : oh_St} {b : Bool} (hb : k.1 1 1 = oh_b b) (q : K (oh_b b) k) : MM (d + 1) jX8_isOpen [.ref 0] k (oh_r1 K) := by
  refine mX8_isOpen ⟨om_in (n := 1) (by omega), ?_⟩
  rw [om_1, hb]
  exact oh_bo (fun c => ⟨oh_i0, by rw [c] at q; exact q⟩) (fun c => ⟨oh_i1, by rw [c] at q; exact q⟩)
theorem sX8_allMen {d : Nat} {K : Int32 → oh_St → Prop} {k : oh_St} {n : Nat} (hn : k.1 1 0 = nI n) (h6 : n ≤ 6) (q : K (nI (2 ^ n - 1)) k) : MM (d + 1) jX8_allMen [.ref 0] k (oh_r1 K) := by
  refine mX8_allMen ⟨om_in (n := 0) (by omega), ?_⟩
  have : 0 < 2 ^ n := Nat.two_pow_pos n
  rw [om_0, hn, ob_pow (by omega), show (1 : Int32) = nI 1 from rfl, om_sub (by omega)]
  exact q
theorem hF_up (h : oh_St) (o b : Nat) (v : Int32) (ho : (1 ≤ o ∧ o ≤ 18 ∨ 37 ≤ o ∧ o ≤ 47) ∧ ¬ (o = 7 ∧ b = 0) ∧ ¬ (o = 11 ∧ b = 0)) : hF h (oh_upi h o b v) := ⟨fun a c x => by rw [oh_g1, if_neg (by omega)], by rw [oh_g1, if_neg (by omega)], by rw [oh_g1, if_neg (by omega)], rfl⟩
theorem kF_up (k : oh_St) (b : Nat) (v : Int32) : kF k (oh_upi k 1 b v) := ⟨fun a c x => by rw [oh_g1, if_neg (by omega)], rfl⟩
/-- a scene that changes on both sides -/
theorem R_sc {h k h' k' : oh_St} {B : oBk} (b1 : cB h 1 B) (b2 : mB k B) (b3 : bOk B) (r : rest h k) (S : oS) (op : Bool) (f : Int32) (pd : Nat → Int32) (z : Int32)
    (c : cSc h' 2 S ∧ h'.1 2 7 = oh_b op ∧ h'.1 2 6 = f ∧ (∀ i, i < 6 → h'.1 6 i = pd i) ∧ h'.1 1 5 = z) (ce : ∀ a b, a = 8 ∨ a = 9 ∨ a = 12 ∨ a = 13 ∨ a = 15 ∨ a = 16 ∨ a = 17 ∨ a = 18 → h'.1 a b = h.1 a b)
    (m : mS0 k' S ∧ (op = true → k'.2 0 3 = lN (sP S)) ∧ k'.1 1 1 = oh_b op ∧ k'.1 1 4 = f ∧ (∀ i, i < 6 → k'.1 1 (8 + 5 * i + 4) = pd i) ∧ k'.1 1 5 = z) (me : ∀ b, b = 6 ∨ b = 7 ∨ (38 ≤ b ∧ b < 210) → k'.1 1 b = k.1 1 b)
    (o : sB S ≤ 99 ∧ (∀ i, sN S ≤ i → i < 6 → pd i = 0) ∧ ((op = false → sP S = 0) ∧ (op = true → ¬ sP S = 0))) (hf : hF h h') (kf : kF k k') : R h' k' := by
  have hl := cB_len (Or.inl rfl) b1
  obtain ⟨h1, h2, h3, h4, h5, h6, h7, h8, h9⟩ := b1
  obtain ⟨k1, k2, k3, k4, k5, k6, k7, k8, k9, k10⟩ := b2
  have t0 := k6.2.2.2.1
  have t1 := k7.2.2.2.1
  have x6 : txIs k' 1 0 (bX B 0) := ⟨(me _ (by omega)).trans k6.1, fun i hi => (me _ (by omega)).trans (k6.2.1 i hi), k6.2.2⟩
  have x7 : txIs k' 1 1 (bX B 1) := ⟨(me _ (by omega)).trans k7.1, fun i hi => (me _ (by omega)).trans (k7.2.1 i hi), k7.2.2⟩
  have x8 : tpIs k' (bT B) := ⟨(me _ (by omega)).trans k8.1, fun i hi => (me _ (by omega)).trans (k8.2 i hi)⟩
  have x9 : wtIs k' (bW B) := ⟨(me _ (by omega)).trans k9.1, fun i hi => (me _ (by omega)).trans (k9.2 i hi)⟩
  exact ⟨(S, op, f, pd, bT B, bW B, bX B, z), ⟨c.1, c.2.1, c.2.2.1, c.2.2.2.1, rowIs_c h5 (fun a b x => ce a b (by omega)), rowIs_c h6 (fun a b x => ce a b (by omega)), rowIs_c h7 (fun a b x => ce a b (by omega)), rowIs_c h8 (fun a b x => ce a b (by omega)), c.2.2.2.2⟩, ⟨m.1, m.2.1, m.2.2.1, m.2.2.2.1, m.2.2.2.2.1, x6, x7, x8, x9, m.2.2.2.2.2⟩, ⟨o.1, b3.2.1, o.2.1, o.2.2⟩, rest_c r hf kf⟩
theorem cSc_d {h h' : oh_St} {o : Nat} {S : oS} (H : cSc h o S) (e : ∀ b, b = 0 ∨ b = 5 ∨ b = 9 ∨ b = 10 → h'.1 o b = h.1 o b) (e1 : ∀ a b, (a = o + 1 ∨ a = o + 2 ∨ a = o + 3) → h'.1 a b = h.1 a b) (e2 : h'.2 o 8 = h.2 o 8) : cSc h' o S := by
  obtain ⟨h1, h2, h3, h4, h5, h6, h7⟩ := H
  refine ⟨(e _ (by omega)).trans h1, fun p hp => ?_, (e _ (by omega)).trans h3, e2.trans h4, (e _ (by omega)).trans h5, (e _ (by omega)).trans h6, h7⟩
  rw [e1 _ _ (by omega), e1 _ _ (by omega), e1 _ _ (by omega)]
  exact h2 p hp
theorem mS0_d {k k' : oh_St} {S : oS} (H : mS0 k S) (e : ∀ b, b = 0 ∨ b = 2 ∨ b = 3 ∨ (8 ≤ b ∧ b < 38) → k'.1 1 b = k.1 1 b) : mS0 k' S := by
  obtain ⟨h1, h2, h3, h4⟩ := H
  refine ⟨(e _ (by omega)).trans h1, fun p hp => ?_, (e _ (by omega)).trans h3, (e _ (by omega)).trans h4⟩
  rw [e _ (by omega), e _ (by omega), e _ (by omega), e _ (by omega)]
  exact h2 p hp
theorem p_fine {h k : oh_St} {v : Int32} (H : R h k) : Both jX7_fine jX8_fine [.int v] h k := by
  intro d
  obtain ⟨B, b1, b2, b3, r⟩ := id H
  by_cases c1 : v < 0
  · exact mX7_fine (br_t c1 (sX7_failed 1 (by decide) (by omega) (by omega) (mX8_fine (sX8_inF 0 99 (by decide) (by decide) (Or.inl c1) (oh_nf rfl (sX8_finds 1 (by omega) ⟨by decide, R_fail H (by omega)⟩))))))
  · by_cases c2 : 99 < v
    · exact mX7_fine (br_f c1 (br_f (Int32.not_le.mpr c2) (sX7_failed 1 (by decide) (by omega) (by omega) (mX8_fine (sX8_inF 0 99 (by decide) (by decide) (Or.inr c2) (oh_nf rfl (sX8_finds 1 (by omega) ⟨by decide, R_fail H (by omega)⟩)))))))
    · refine mX7_fine (br_f c1 (br_t (Int32.not_lt.mp c2) (mX8_fine (sX8_inT 0 99 (by decide) (by decide) c1 c2 (oh_nt (by decide) ⟨om_in (n := 4) (by omega), om_in (n := 4) (by omega), ?_⟩)))))
      rw [om_4]
      obtain ⟨h1, h2, h3, h4, h5, h6, h7, h8, h9⟩ := id b1
      obtain ⟨k1, k2, k3, k4, k5, k6, k7, k8, k9, k10⟩ := id b2
      refine ⟨by rw [h3, k4], R_sc b1 b2 b3 r (bS B) (bO B) v (bD B) (bZ B) ⟨cSc_d h1 (fun b x => ?_) (fun a b x => ?_) rfl, ?_, ?_, fun i hi => ?_, ?_⟩ (fun a b x => ?_) ⟨mS0_d k1 (fun b x => ?_), k2, ?_, ?_, fun i hi => ?_, ?_⟩ (fun b x => ?_) ⟨b3.1, b3.2.2.1, b3.2.2.2⟩ (hF_up h 2 6 v (by omega)) (kF_up k 4 v)⟩
      · rw [oh_g1, if_neg (by omega)]
      · rw [oh_g1, if_neg (by omega)]
      · rw [oh_g1, if_neg (by omega)]; exact h2
      · rw [oh_g1, if_pos ⟨rfl, rfl⟩]
      · rw [oh_g1, if_neg (by omega)]; exact h4 i hi
      · rw [oh_g1, if_neg (by omega)]; exact h9
      · rw [oh_g1, if_neg (by omega)]
      · rw [oh_g1, if_neg (by omega)]
      · rw [oh_g1, if_neg (by omega)]; exact k3
      · rw [oh_g1, if_pos ⟨rfl, rfl⟩]
      · rw [oh_g1, if_neg (by omega)]; exact k5 i hi
      · rw [oh_g1, if_neg (by omega)]; exact k10
      · rw [oh_g1, if_neg (by omega)]
theorem p_seed {h k : oh_St} {v : Int32} (H : R h k) : Both jX7_seed jX8_seed [.int v] h k := by
  intro d
  obtain ⟨B, b1, b2, b3, r⟩ := id H
  obtain ⟨h1, h2, h3, h4, h5, h6, h7, h8, h9⟩ := id b1
  obtain ⟨k1, k2, k3, k4, k5, k6, k7, k8, k9, k10⟩ := id b2
  refine mX7_seed (mX8_seed ⟨om_in (n := 5) (by omega), om_in (n := 5) (by omega), ?_⟩)
  rw [om_5]
  refine ⟨by rw [h9, k10], R_sc b1 b2 b3 r (bS B) (bO B) (bF B) (bD B) v ⟨cSc_d h1 (fun b x => ?_) (fun a b x => ?_) rfl, ?_, ?_, fun i hi => ?_, ?_⟩ (fun a b x => ?_) ⟨mS0_d k1 (fun b x => ?_), k2, ?_, ?_, fun i hi => ?_, ?_⟩ (fun b x => ?_) ⟨b3.1, b3.2.2.1, b3.2.2.2⟩ (hF_up h 1 5 v (by omega)) (kF_up k 5 v)⟩
  · rw [oh_g1, if_neg (by omega)]
  · rw [oh_g1, if_neg (by omega)]
  · rw [oh_g1, if_neg (by omega)]; exact h2
  · rw [oh_g1, if_neg (by omega)]; exact h3
  · rw [oh_g1, if_neg (by omega)]; exact h4 i hi
  · rw [oh_g1, if_pos ⟨rfl, rfl⟩]
  · rw [oh_g1, if_neg (by omega)]
  · rw [oh_g1, if_neg (by omega)]
  · rw [oh_g1, if_neg (by omega)]; exact k3
  · rw [oh_g1, if_neg (by omega)]; exact k4
  · rw [oh_g1, if_neg (by omega)]; exact k5 i hi
  · rw [oh_g1, if_pos ⟨rfl, rfl⟩]
  · rw [oh_g1, if_neg (by omega)]

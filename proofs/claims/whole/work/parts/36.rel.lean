/-! BOTH SIDES: books, and what ties the class to the model -/
abbrev oBk : Type := oS × Bool × Int32 × (Nat → Int32) × List Nat × List Int32 × (Nat → List Nat) × Int32
def bS (B : oBk) : oS := B.1
def bO (B : oBk) : Bool := B.2.1
def bF (B : oBk) : Int32 := B.2.2.1
def bD (B : oBk) (i : Nat) : Int32 := B.2.2.2.1 i
def bT (B : oBk) : List Nat := B.2.2.2.2.1
def bW (B : oBk) : List Int32 := B.2.2.2.2.2.1
def bX (B : oBk) (u : Nat) : List Nat := B.2.2.2.2.2.2.1 u
def bZ (B : oBk) : Int32 := B.2.2.2.2.2.2.2
/-- a book of the class at o -/
def cB (h : oh_St) (o : Nat) (B : oBk) : Prop := cSc h (o + 1) (bS B) ∧ h.1 (o + 1) 7 = oh_b (bO B) ∧ h.1 (o + 1) 6 = bF B ∧ (∀ i, i < 6 → h.1 (o + 5) i = bD B i) ∧ rowIs h (o + 7) ((cOf 0 (bX B 0)).map nI) ∧ rowIs h (o + 11) ((cOf 1 (bX B 1)).map nI) ∧ rowIs h (o + 14) ((bT B).map nI) ∧ rowIs h (o + 16) (bW B) ∧ h.1 o 5 = bZ B
/-- the model's scene but for its worlds -/
def mS0 (k : oh_St) (S : oS) : Prop := k.1 1 0 = nI (sN S) ∧ (∀ p, p < 6 → k.1 1 (8 + 5 * p + 0) = nI (sK S p) ∧ k.1 1 (8 + 5 * p + 1) = nI (sM S p) ∧ k.1 1 (8 + 5 * p + 2) = oh_b ((sW S).testBit p) ∧ k.1 1 (8 + 5 * p + 3) = nI (sE S p)) ∧ k.1 1 3 = nI (sQ S) ∧ k.1 1 2 = nI (sB S)
theorem mSc_0 {k : oh_St} {S : oS} (h : mS0 k S) (hP : k.2 0 3 = lN (sP S)) (hok : sOk S) : mSc k S := ⟨h.1, h.2.1, hP, h.2.2.1, h.2.2.2, hok⟩
theorem mS0_of {k : oh_St} {S : oS} (h : mSc k S) : mS0 k S := ⟨h.1, h.2.1, h.2.2.2.1, h.2.2.2.2.1⟩
def tpIs (k : oh_St) (t : List Nat) : Prop := k.1 1 6 = nI t.length ∧ ∀ i, i < t.length → k.1 1 (160 + i) = nI (nb t i)
def wtIs (k : oh_St) (l : List Int32) : Prop := k.1 1 7 = nI l.length ∧ ∀ i, i < l.length → k.1 1 (40 + i) = l.getD i 0
/-- the model's book -/
def mB (k : oh_St) (B : oBk) : Prop := mS0 k (bS B) ∧ (bO B = true → k.2 0 3 = lN (sP (bS B))) ∧ k.1 1 1 = oh_b (bO B) ∧ k.1 1 4 = bF B ∧ (∀ i, i < 6 → k.1 1 (8 + 5 * i + 4) = bD B i) ∧ txIs k 1 0 (bX B 0) ∧ txIs k 1 1 (bX B 1) ∧ tpIs k (bT B) ∧ wtIs k (bW B) ∧ k.1 1 5 = bZ B
def bOk (B : oBk) : Prop := sB (bS B) ≤ 99 ∧ (∀ x ∈ bT B, x < 256) ∧ (∀ i, sN (bS B) ≤ i → i < 6 → bD B i = 0) ∧ ((bO B = false → sP (bS B) = 0) ∧ (bO B = true → ¬ sP (bS B) = 0))
/-- the model with what it keeps in its place -/
def kp (k : oh_St) : oh_St := (fun a b => if a = 1 then k.1 3 b else k.1 a b, fun a b => if a = 0 ∧ b = 3 then k.2 0 5 else k.2 a b)
theorem kp_1 (k : oh_St) (b : Nat) : (kp k).1 1 b = k.1 3 b := rfl
theorem kp_3 (k : oh_St) : (kp k).2 0 3 = k.2 0 5 := rfl
def shIs (h k : oh_St) (s : Nat) : Prop := (h.1 (51 + 2 * s) 0 = k.1 11 s ∧ (k.1 11 s = 0 ∨ k.1 11 s = 8 ∨ k.1 11 s = 16 ∨ k.1 11 s = 32)) ∧ (∃ n, n ≤ 40 ∧ h.1 (51 + 2 * s) 1 = nI n ∧ k.1 12 s = nI n) ∧ ∀ i, i < 40 → h.1 (52 + 2 * s) i = k.1 13 (40 * s + i)
def trIs (h k : oh_St) : Prop := ∃ tr : List Int32, rowIs h 48 tr ∧ k.1 0 20 = nI tr.length ∧ ∀ i, i < tr.length → k.1 10 i = tr.getD i 0
/-- all but the book of now -/
def rest (h k : oh_St) : Prop := (h.1 7 0 = 0 ∧ h.1 11 0 = 1) ∧ k.1 0 6 = h.1 0 7 ∧ (¬ h.1 0 7 = 0 → ∃ B, cB h 19 B ∧ mB (kp k) B ∧ bOk B) ∧ (∀ i, i < 6 → h.1 59 i = k.1 4 i) ∧ trIs h k ∧ ∀ s, s < 4 → shIs h k s
def R (h k : oh_St) : Prop := ∃ B, cB h 1 B ∧ mB k B ∧ bOk B ∧ rest h k
/-- what rest reads -/
def hF (h h' : oh_St) : Prop := (∀ a b, a = 0 ∨ (19 ≤ a ∧ a ≤ 36) ∨ 48 ≤ a → h'.1 a b = h.1 a b) ∧ h'.1 7 0 = h.1 7 0 ∧ h'.1 11 0 = h.1 11 0 ∧ h'.2 20 8 = h.2 20 8
def kF (k k' : oh_St) : Prop := (∀ a b, (a = 0 ∧ (b = 6 ∨ b = 20)) ∨ a = 3 ∨ a = 4 ∨ a = 10 ∨ a = 11 ∨ a = 12 ∨ a = 13 → k'.1 a b = k.1 a b) ∧ k'.2 0 5 = k.2 0 5
theorem hF_rf (h : oh_St) : hF h h := ⟨fun _ _ _ => rfl, rfl, rfl, rfl⟩
theorem kF_rf (k : oh_St) : kF k k := ⟨fun _ _ _ => rfl, rfl⟩
theorem hF_tr {h h' h2 : oh_St} (H : hF h h') (H2 : hF h' h2) : hF h h2 := ⟨fun a b x => (H2.1 a b x).trans (H.1 a b x), H2.2.1.trans H.2.1, H2.2.2.1.trans H.2.2.1, H2.2.2.2.trans H.2.2.2⟩
theorem kF_tr {k k' k2 : oh_St} (H : kF k k') (H2 : kF k' k2) : kF k k2 := ⟨fun a b x => (H2.1 a b x).trans (H.1 a b x), H2.2.trans H.2⟩
theorem cSc_c {h h' : oh_St} {o : Nat} {S : oS} (H : cSc h o S) (e : ∀ a b, (a = o ∨ a = o + 1 ∨ a = o + 2 ∨ a = o + 3) → h'.1 a b = h.1 a b) (e2 : h'.2 o 8 = h.2 o 8) : cSc h' o S := by
  obtain ⟨h1, h2, h3, h4, h5, h6, h7⟩ := H
  refine ⟨(e _ _ (by omega)).trans h1, fun p hp => ?_, (e _ _ (by omega)).trans h3, e2.trans h4, (e _ _ (by omega)).trans h5, (e _ _ (by omega)).trans h6, h7⟩
  rw [e _ _ (by omega), e _ _ (by omega), e _ _ (by omega)]
  exact h2 p hp
theorem rowIs_c {h h' : oh_St} {o : Nat} {l : List Int32} (H : rowIs h o l) (e : ∀ a b, (a = o ∨ a = o + 1) → h'.1 a b = h.1 a b) : rowIs h' o l := ⟨(e _ _ (by omega)).trans H.1, fun i hi => (e _ _ (by omega)).trans (H.2.1 i hi), H.2.2⟩
theorem cB_c {h h' : oh_St} {o : Nat} {B : oBk} (H : cB h o B) (e : ∀ a b, o ≤ a ∧ a ≤ o + 17 → h'.1 a b = h.1 a b) (e2 : h'.2 (o + 1) 8 = h.2 (o + 1) 8) : cB h' o B := by
  obtain ⟨h1, h2, h3, h4, h5, h6, h7, h8, h9⟩ := H
  refine ⟨cSc_c h1 (fun a b x => e a b (by omega)) e2, (e _ _ (by omega)).trans h2, (e _ _ (by omega)).trans h3, fun i hi => (e _ _ (by omega)).trans (h4 i hi), rowIs_c h5 (fun a b x => e a b (by omega)), rowIs_c h6 (fun a b x => e a b (by omega)), rowIs_c h7 (fun a b x => e a b (by omega)), rowIs_c h8 (fun a b x => e a b (by omega)), (e _ _ (by omega)).trans h9⟩
theorem mB_c {k k' : oh_St} {B : oBk} (H : mB k B) (e : ∀ b, b < 210 → k'.1 1 b = k.1 1 b) (e2 : k'.2 0 3 = k.2 0 3) (hl : (bT B).length ≤ 50) (hw : (bW B).length ≤ 20) : mB k' B := by
  obtain ⟨h1, h2, h3, h4, h5, h6, h7, h8, h9, h10⟩ := H
  refine ⟨⟨(e _ (by omega)).trans h1.1, fun p hp => ?_, (e _ (by omega)).trans h1.2.2.1, (e _ (by omega)).trans h1.2.2.2⟩, fun c => e2.trans (h2 c), (e _ (by omega)).trans h3, (e _ (by omega)).trans h4, fun i hi => (e _ (by omega)).trans (h5 i hi), ⟨(e _ (by omega)).trans h6.1, fun i hi => ?_, h6.2.2⟩, ⟨(e _ (by omega)).trans h7.1, fun i hi => ?_, h7.2.2⟩, ⟨(e _ (by omega)).trans h8.1, fun i hi => (e _ (by omega)).trans (h8.2 i hi)⟩, ⟨(e _ (by omega)).trans h9.1, fun i hi => (e _ (by omega)).trans (h9.2 i hi)⟩, (e _ (by omega)).trans h10⟩
  · rw [e _ (by omega), e _ (by omega), e _ (by omega), e _ (by omega)]
    exact h1.2.1 p hp
  · have := h6.2.2.2.1
    rw [e _ (by omega)]
    exact h6.2.1 i hi
  · have := h7.2.2.2.1
    rw [e _ (by omega)]
    exact h7.2.1 i hi
theorem cB_len {h : oh_St} {o : Nat} {B : oBk} (ho : o = 1 ∨ o = 19) (H : cB h o B) : (bT B).length ≤ 50 ∧ (bW B).length ≤ 20 := by
  obtain ⟨h1, h2, h3, h4, h5, h6, h7, h8, h9⟩ := H
  have a := h7.2.2
  have b := h8.2.2
  rw [List.length_map] at a
  rcases ho with rfl | rfl
  · exact ⟨a, b⟩
  · exact ⟨a, b⟩
theorem rest_c {h h' k k' : oh_St} (H : rest h k) (eh : hF h h') (ek : kF k k') : rest h' k' := by
  obtain ⟨h1, h2, h3, h4, h5, h6⟩ := H
  have e : ∀ a b, a = 0 ∨ (19 ≤ a ∧ a ≤ 36) ∨ 48 ≤ a → h'.1 a b = h.1 a b := eh.1
  have f : ∀ a b, (a = 0 ∧ (b = 6 ∨ b = 20)) ∨ a = 3 ∨ a = 4 ∨ a = 10 ∨ a = 11 ∨ a = 12 ∨ a = 13 → k'.1 a b = k.1 a b := ek.1
  refine ⟨⟨eh.2.1.trans h1.1, eh.2.2.1.trans h1.2⟩, ?_, fun c => ?_, fun i hi => ?_, ?_, fun s hs => ?_⟩
  · rw [f _ _ (by omega), e _ _ (by omega)]; exact h2
  · rw [e _ _ (by omega)] at c
    obtain ⟨B, b1, b2, b3⟩ := h3 c
    have hl := cB_len (Or.inr rfl) b1
    refine ⟨B, cB_c b1 (fun a b x => e a b (by omega)) eh.2.2.2, mB_c b2 (fun b _ => ?_) ?_ hl.1 hl.2, b3⟩
    · rw [kp_1, kp_1, f _ _ (by omega)]
    · rw [kp_3, kp_3, ek.2]
  · rw [e _ _ (by omega), f _ _ (by omega)]; exact h4 i hi
  · obtain ⟨tr, t1, t2, t3⟩ := h5
    exact ⟨tr, rowIs_c t1 (fun a b x => e a b (by omega)), (f _ _ (by omega)).trans t2, fun i hi => (f _ _ (by omega)).trans (t3 i hi)⟩
  · obtain ⟨⟨s1, s2⟩, ⟨n, s3, s4, s5⟩, s6⟩ := h6 s hs
    refine ⟨⟨?_, ?_⟩, ⟨n, s3, (e _ _ (by omega)).trans s4, (f _ _ (by omega)).trans s5⟩, fun i hi => ?_⟩
    · rw [e _ _ (by omega), f _ _ (by omega)]; exact s1
    · rw [f _ _ (by omega)]; exact s2
    · rw [e _ _ (by omega), f _ _ (by omega)]; exact s6 i hi
/-- an error is counted on both sides -/
theorem R_fail {h k : oh_St} (H : R h k) {j : Nat} (hj : j < 6) : R (oh_upi h 59 j (h.1 59 j + 1)) (oh_upi k 4 j (k.1 4 j + 1)) := by
  obtain ⟨B, b1, b2, b3, h1, h2, h3, h4, h5, h6⟩ := H
  have hl := cB_len (Or.inl rfl) b1
  have e : ∀ a b, a ≠ 59 → (oh_upi h 59 j (h.1 59 j + 1)).1 a b = h.1 a b := fun a b x => by rw [oh_g1, if_neg (fun z => x z.1)]
  have f : ∀ a b, a ≠ 4 → (oh_upi k 4 j (k.1 4 j + 1)).1 a b = k.1 a b := fun a b x => by rw [oh_g1, if_neg (fun z => x z.1)]
  refine ⟨B, cB_c b1 (fun a b x => e a b (by omega)) rfl, mB_c b2 (fun b _ => f 1 b (by omega)) rfl hl.1 hl.2, b3, ⟨?_, ?_⟩, ?_, fun c => ?_, fun i hi => ?_, ?_, fun s hs => ?_⟩
  · rw [e _ _ (by omega)]; exact h1.1
  · rw [e _ _ (by omega)]; exact h1.2
  · rw [e _ _ (by omega), f _ _ (by omega)]; exact h2
  · rw [e _ _ (by omega)] at c
    obtain ⟨B', b1', b2', b3'⟩ := h3 c
    have hl' := cB_len (Or.inr rfl) b1'
    refine ⟨B', cB_c b1' (fun a b x => e a b (by omega)) rfl, mB_c b2' (fun b _ => ?_) rfl hl'.1 hl'.2, b3'⟩
    rw [kp_1, kp_1, f _ _ (by omega)]
  · rw [oh_g1, oh_g1]
    by_cases z : i = j
    · subst z
      rw [if_pos ⟨rfl, rfl⟩, if_pos ⟨rfl, rfl⟩, h4 i hi]
    · rw [if_neg (fun y => z y.2), if_neg (fun y => z y.2)]; exact h4 i hi
  · obtain ⟨tr, t1, t2, t3⟩ := h5
    exact ⟨tr, rowIs_c t1 (fun a b x => e a b (by omega)), (f _ _ (by omega)).trans t2, fun i hi => (f _ _ (by omega)).trans (t3 i hi)⟩
  · obtain ⟨⟨s1, s2⟩, ⟨n, s3, s4, s5⟩, s6⟩ := h6 s hs
    refine ⟨⟨?_, ?_⟩, ⟨n, s3, (e _ _ (by omega)).trans s4, (f _ _ (by omega)).trans s5⟩, fun i hi => ?_⟩
    · rw [e _ _ (by omega), f _ _ (by omega)]; exact s1
    · rw [f _ _ (by omega)]; exact s2
    · rw [e _ _ (by omega), f _ _ (by omega)]; exact s6 i hi
theorem sX7_failed {d : Nat} {K : Int32 → oh_St → Prop} {h : oh_St} {e : Int32} (j : Nat) (he : (-1000000000 : Int32) - e = nI j) (h1 : 1 ≤ j) (h5 : j ≤ 5) (q : K e (oh_upi h 59 j (h.1 59 j + 1))) : CM (d + 1) jX7_failed [.ref 0, .int e] h (oh_r1 K) := by
  refine mX7_failed ?_
  rw [he]
  refine br_f (nI_nlt (b := 1) h1 (by omega)) (br_f (nI_nlt (a := 5) h5 (by omega)) ⟨oh_in (by omega) (by omega), oh_in (by omega) (by omega), ?_⟩)
  rw [oh_cl (by omega)]
  exact q
theorem sX8_finds {d : Nat} {K : Int32 → oh_St → Prop} {k : oh_St} (j : Nat) (h5 : j ≤ 5) (q : K ((-1000000000 : Int32) - nI j) (oh_upi k 4 j (k.1 4 j + 1))) : MM (d + 1) jX8_finds [.ref 0, .int (nI j)] k (oh_r1 K) := by
  refine mX8_finds ⟨oh_in (by omega) (by omega), oh_in (by omega) (by omega), ?_⟩
  rw [oh_cl (by omega)]
  exact q
/-- both fail alike -/
theorem fail2 {d d2 : Nat} {h k : oh_St} {e : Int32} (j : Nat) (he : (-1000000000 : Int32) - e = nI j) (he2 : e = (-1000000000 : Int32) - nI j) (h1 : 1 ≤ j) (h5 : j ≤ 5) (H : R h k) {P : oh_Q} (q : MM (d2 + 1) jX8_finds [.ref 0, .int (nI j)] k (oh_r1 (fun y k' => e = y ∧ R (oh_upi h 59 j (h.1 59 j + 1)) k')) → P (some (.int e)) (oh_upi h 59 j (h.1 59 j + 1))) : CM (d + 1) jX7_failed [.ref 0, .int e] h (oh_r1 (fun x h' => P (some (.int x)) h')) := sX7_failed j he h1 h5 (q (sX8_finds j h5 ⟨he2, R_fail H (by omega)⟩))

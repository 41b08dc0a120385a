/-! THE MODEL: a bell -/
theorem sSp_q {S : oS} {p A : Nat} (h : (sQ S).testBit p = true) : sSp S p A = false := by
  unfold sSp
  rw [h]
  rfl
theorem sFits_eq {S : oS} {who blk : Nat} (hw : who < 2 ^ sN S) (hb : blk < 2 ^ sN S) (hs : ∀ p, blk.testBit p = true → who.testBit p = true) (hq : ∀ p, who.testBit p = true → (sQ S).testBit p = false) (y : Nat) : (decide (sWho S y = who) && decide (sBlk S y who = blk)) = (List.range (sN S)).all (sFits S who blk y) := by
  rw [Bool.eq_iff_iff]
  simp only [Bool.and_eq_true, decide_eq_true_eq, List.all_eq_true, List.mem_range]
  constructor
  · rintro ⟨h1, h2⟩ p hp
    have e1 : sSp S p (sCell S p y) = who.testBit p := by
      rw [← h1, sWho, ob_m_bit]; simp [hp]
    have e2 : (who.testBit p && oSay p (sCell S p y)) = blk.testBit p := by
      conv => rhs; rw [← h2, sBlk, ob_m_bit]
      simp [hp]
    unfold sFits sGood
    rw [e1, ← e2]
    cases who.testBit p <;> cases oSay p (sCell S p y) <;> simp
  · intro h
    have key : ∀ p, p < sN S → sSp S p (sCell S p y) = who.testBit p ∧ (who.testBit p && oSay p (sCell S p y)) = blk.testBit p := by
      intro p hp
      have hf := h p hp
      unfold sFits sGood at hf
      cases hQ : (sQ S).testBit p
      · rw [hQ] at hf
        simp only [Bool.false_or, Bool.and_eq_true, beq_iff_eq, Bool.or_eq_true, Bool.not_eq_true'] at hf
        refine ⟨hf.1, ?_⟩
        cases hW : who.testBit p
        · cases hB : blk.testBit p
          · rfl
          · rw [hs p hB] at hW; cases hW
        · rw [hW] at hf
          rcases hf.2 with z | z
          · cases z
          · rw [z]; rfl
      · have hW : who.testBit p = false := by
          cases hW : who.testBit p
          · rfl
          · rw [hq p hW] at hQ; cases hQ
        have hB : blk.testBit p = false := by
          cases hB : blk.testBit p
          · rfl
          · rw [hs p hB] at hW; cases hW
        rw [sSp_q hQ, hW, hB]
        exact ⟨rfl, rfl⟩
    constructor
    · apply ob_ext
      intro p
      rw [sWho, ob_m_bit]
      by_cases hp : p < sN S
      · rw [(key p hp).1]; simp [hp]
      · rw [ob_hi hw (by omega : sN S ≤ p)]; simp [hp]
    · apply ob_ext
      intro p
      rw [sBlk, ob_m_bit]
      by_cases hp : p < sN S
      · rw [(key p hp).2]; simp [hp]
      · rw [ob_hi hb (by omega : sN S ≤ p)]; simp [hp]
def mL (S : oS) (who blk w : Nat) : Nat := ob_m (fun y => (sP S).testBit y && (decide (sWho S y = who) && decide (sBlk S y who = blk))) w
theorem mL_end {S : oS} (hok : sOk S) {who blk : Nat} (hw : who < 2 ^ sN S) (hb : blk < 2 ^ sN S) (hs : ∀ p, blk.testBit p = true → who.testBit p = true) (hq : ∀ p, who.testBit p = true → (sQ S).testBit p = false) : mL S who blk (2 ^ sN S) = sLf S who blk (sN S) := by
  have h64 := sPow hok
  apply ob_ext
  intro y
  rw [mL, sLf, ob_m_bit, ob_m_bit, sFits_eq hw hb hs hq]
  by_cases hy : y < 2 ^ sN S
  · have : y < 64 := by omega
    simp [hy, this]
  · rw [ob_hi hok.2.2.2.1 (by omega : 2 ^ sN S ≤ y)]
    simp
/-- what paying changes -/
def yF (k k' : oh_St) : Prop := (∀ a b, a ≠ 1 → a ≠ 5 → ¬ (a = 0 ∧ 8 ≤ b ∧ b ≤ 13) → k'.1 a b = k.1 a b) ∧ (∀ b, (∀ p, p < 6 → b ≠ 12 + 5 * p) → k'.1 1 b = k.1 1 b) ∧ k'.2 = k.2
theorem yF_rf (k : oh_St) : yF k k := ⟨fun _ _ _ _ _ => rfl, fun _ _ => rfl, rfl⟩
theorem yF_tr {k k' k2 : oh_St} (H : yF k k') (H2 : yF k' k2) : yF k k2 := ⟨fun a b x y z => (H2.1 a b x y z).trans (H.1 a b x y z), fun b x => (H2.2.1 b x).trans (H.2.1 b x), H2.2.2.trans H.2.2⟩
theorem yF_g {k k' : oh_St} (H : gF k k') : yF k k' := ⟨fun a b _ y z => H.1 a b y z, fun b _ => H.1 1 b (by omega) (by omega), H.2⟩
theorem yF_p (k : oh_St) {p : Nat} (hp : p < 6) (v : Int32) : yF k (oh_upi k 1 (8 + 5 * p + 4) v) := ⟨fun a b x _ _ => by rw [oh_g1, if_neg (fun z => x z.1)], fun b x => by rw [oh_g1, if_neg (fun z => x p hp (by omega))], rfl⟩
theorem mSc_y {k k' : oh_St} {S : oS} (H : mSc k S) (hy : yF k k') : mSc k' S := by
  obtain ⟨h1, h2, h3, h4, h5, h6⟩ := H
  have e : ∀ b, (∀ p, p < 6 → b ≠ 12 + 5 * p) → k'.1 1 b = k.1 1 b := hy.2.1
  refine ⟨(e 0 (by omega)).trans h1, fun p hp => ?_, by rw [hy.2.2]; exact h3, (e 3 (by omega)).trans h4, (e 2 (by omega)).trans h5, h6⟩
  rw [e _ (by omega), e _ (by omega), e _ (by omega), e _ (by omega)]
  exact h2 p hp
theorem txIs_y {k k' : oh_St} {u : Nat} {t : List Nat} (hu : u < 2) (H : txIs k 1 u t) (hy : yF k k') : txIs k' 1 u t := by
  obtain ⟨h1, h2, h3⟩ := H
  refine ⟨(hy.2.1 _ (by omega)).trans h1, fun i hi => ?_, h3⟩
  rw [hy.2.1 _ (by omega)]
  exact h2 i hi
theorem sX8_pays {d : Nat} {K : oh_St → Prop} {k : oh_St} {S : oS} {t : List Nat} {p : Nat} {r : Bool} {many fi x : Int32} (hk : mSc k S) (ht : txIs k 1 1 t) (hf : k.1 1 4 = fi) (hp : p < 6) (hx : k.1 1 (8 + 5 * p + 4) = x)
    (q : ∀ k', yF k k' → k'.1 1 (8 + 5 * p + 4) = oHeld (x + (if r then lwF 1 (cOf 1 t) (oh_b ((sW S).testBit p)) (nI (sB S)) many 0 else -fi)) (-99999) 99999 → (∀ i, i < 6 → i ≠ p → k'.1 1 (8 + 5 * i + 4) = k.1 1 (8 + 5 * i + 4)) → K k') : MM (d + 47) jX8_pays [.ref 0, .int (nI p), .int (oh_b r), .int many] k (oh_r0 K) := by
  refine mX8_pays (oh_bz (fun c => ⟨om_in (n := 4) (by omega), ?_⟩) (fun c => ?_))
  · rw [om_4, hf]
    refine sX8_of (w := 4) hp (by omega) (sX8_held (sX8_becomes (w := 4) hp (by omega) (q _ (yF_p k hp _) ?_ (fun i hi hn => ?_))))
    · rw [oh_g1, if_pos ⟨rfl, rfl⟩, hx, c]
      rfl
    · rw [oh_g1, if_neg (by omega)]
  · refine sX8_of (w := 2) hp (by omega) ⟨om_in (n := 2) (by omega), ?_⟩
    rw [om_2, (hk.2.1 p hp).2.2.1, hk.2.2.2.2.1]
    refine sX8_gives (u := 1) (by omega) ht (fun k1 g => ?_)
    have y1 := yF_g g
    have e : ∀ i, k1.1 1 i = k.1 1 i := fun i => g.1 1 i (by omega) (by omega)
    refine sX8_of (w := 4) hp (by omega) (sX8_held (sX8_becomes (w := 4) hp (by omega) (q _ (yF_tr y1 (yF_p k1 hp _)) ?_ (fun i hi hn => ?_))))
    · rw [oh_g1, if_pos ⟨rfl, rfl⟩, e, hx, c]
      rfl
    · rw [oh_g1, if_neg (by omega), e]
/-- what a bell of the model's changes -/
def rF (k k' : oh_St) : Prop := (∀ a b, a ≠ 1 → a ≠ 5 → a ≠ 6 → a ≠ 7 → a ≠ 8 → a ≠ 9 → ¬ (a = 0 ∧ 8 ≤ b ∧ b ≤ 13) → k'.1 a b = k.1 a b) ∧ (∀ b, b ≠ 2 → b ≠ 3 → b ≠ 5 → (∀ p, p < 6 → b ≠ 12 + 5 * p) → k'.1 1 b = k.1 1 b) ∧ ∀ a b, ¬ (a = 0 ∧ b = 3) → k'.2 a b = k.2 a b
theorem rF_rf (k : oh_St) : rF k k := ⟨fun _ _ _ _ _ _ _ _ _ => rfl, fun _ _ _ _ _ => rfl, fun _ _ _ => rfl⟩
theorem rF_tr {k k' k2 : oh_St} (H : rF k k') (H2 : rF k' k2) : rF k k2 := ⟨fun a b x1 x2 x3 x4 x5 x6 x7 => (H2.1 a b x1 x2 x3 x4 x5 x6 x7).trans (H.1 a b x1 x2 x3 x4 x5 x6 x7), fun b x y z w => (H2.2.1 b x y z w).trans (H.2.1 b x y z w), fun a b x => (H2.2.2 a b x).trans (H.2.2 a b x)⟩
theorem rF_y {k k' : oh_St} (H : yF k k') : rF k k' := ⟨fun a b x1 x2 _ _ _ _ x7 => H.1 a b x1 x2 x7, fun b _ _ _ w => H.2.1 b w, fun a b _ => by rw [H.2.2]⟩
theorem rF_th {k k' : oh_St} (H : oSame k k' [6, 7, 8, 9]) : rF k k' := ⟨fun a b _ _ x3 x4 x5 x6 _ => H.1 a b (by simp [x3, x4, x5, x6]), fun b _ _ _ _ => H.1 1 b (by simp), fun a b _ => by rw [H.2]⟩
/-- the scene with other worlds -/
def sWith (S : oS) (P : Nat) : oS := (sN S, sK S, sM S, sE S, sW S, P, sQ S, sB S)
theorem sX8_ringC {d : Nat} {K : oh_St → Prop} {k : oh_St} {S : oS} {t : List Nat} {who blk P : Nat} {fi : Int32} {pd : Nat → Int32} (hk : mSc k (sWith S P)) (ht : txIs k 1 1 t) (hf : k.1 1 4 = fi) (hpd : ∀ i, i < 6 → k.1 1 (8 + 5 * i + 4) = pd i) (hw : who < 64) (hb : blk < 64)
    (q : ∀ k', rF k k' → mSc (oh_upi (oh_upi k' 1 3 (nI (sQ S))) 1 2 (nI (sB S))) (sWith S P) → k'.1 1 3 = nI (sQ S ||| who) → k'.1 1 2 = nI (sB S + 1) → k'.1 1 5 = k.1 1 5 → k'.2 0 3 = lN P → (∀ i, i < 6 → k'.1 1 (8 + 5 * i + 4) = pdF S fi (cOf 1 t) who blk pd i) → K k') : wX8_rings_164 (d + 47) (oh_r0 K) (nI who) (nI blk) (0 : Int32) k := by
  have hn : sN S ≤ 6 := hk.2.2.2.2.2.1
  have key : ∀ i, i ≤ sN S → ∀ k', yF k k' → (∀ j, j < 6 → k'.1 1 (8 + 5 * j + 4) = if j < i then pdF S fi (cOf 1 t) who blk pd j else pd j) → wX8_rings_164 (d + 47) (oh_r0 K) (nI who) (nI blk) (nI i) k' := by
    refine oh_up (fun i hi ih => ?_) ?_
    · intro k' hy hp
      have hk' := mSc_y hk hy
      refine bX8_rings_164 ⟨om_in (n := 0) (by omega), ?_⟩
      rw [om_0, hk'.1]
      refine br_f (nI_ge (show i < sN (sWith S P) from hi) (by show sN S < _; omega)) ?_
      rw [ob_bit (by omega) (by omega), ob_bit (by omega) (by omega), nI_1]
      have hpi := hp i (by omega)
      rw [if_neg (by omega)] at hpi
      refine oh_bo (fun c => ?_) (fun c => sX8_of (w := 2) (by omega) (by omega) ?_)
      · refine ih k' hy (fun j hj => ?_)
        rw [hp j hj]
        by_cases hji : j = i
        · subst hji
          rw [if_neg (by omega), if_pos (by omega), pdF, if_neg (by rw [c]; simp)]
        · by_cases hlt : j < i
          · rw [if_pos hlt, if_pos (by omega)]
          · rw [if_neg hlt, if_neg (by omega)]
      · rw [(hk'.2.1 i (by omega)).2.2.1]
        have fin : ∀ (r : Bool), r = decide (blk.testBit i = (sW S).testBit i) → MM (d + 47) jX8_pays [.ref 0, .int (nI i), .int (oh_b r), .int (nI (ob_ct who 6))] k' (oh_r0 (fun h5 => wX8_rings_164 (d + 47) (oh_r0 K) (nI who) (nI blk) (nI (i + 1)) h5)) := by
          intro r hr
          refine sX8_pays hk' (txIs_y (by omega) ht hy) ((hy.2.1 4 (by omega)).trans hf) (by omega) hpi (fun k2 y2 e2 o2 => ih k2 (yF_tr hy y2) (fun j hj => ?_))
          by_cases hji : j = i
          · subst hji
            rw [e2, if_pos (show j < j + 1 by omega), pdF, if_pos (show j < sN S ∧ who.testBit j = true from ⟨hi, c⟩), hr]
            by_cases z : blk.testBit j = (sW S).testBit j
            · rw [if_pos z, decide_eq_true z]; rfl
            · rw [if_neg z, decide_eq_false z]; rfl
          · rw [o2 j hj hji, hp j hj]
            by_cases hlt : j < i
            · rw [if_pos hlt, if_pos (by omega)]
            · rw [if_neg hlt, if_neg (by omega)]
        refine oh_nc (fun z => sX8_ones (by omega) (fin false ?_)) (fun z => sX8_ones (by omega) (fin true ?_))
        · rw [decide_eq_false]
          exact fun e => z (by show oh_b _ = oh_b ((sW S).testBit i); rw [e])
        · rw [decide_eq_true]
          exact oh_b_inj.mp z
    · intro k' hy hp
      have hk' := mSc_y hk hy
      refine bX8_rings_164 ⟨om_in (n := 0) (by omega), ?_⟩
      rw [om_0, hk'.1, om_3, om_2]
      refine br_t (nI_le (Nat.le_refl _) (by show sN S < _; omega)) ⟨om_in (n := 3) (by omega), om_in (n := 3) (by omega), om_in (n := 2) (by omega), om_in (n := 2) (by omega), ?_⟩
      have e3 : k'.1 1 3 = nI (sQ S) := hk'.2.2.2.1
      have e2 : k'.1 1 2 = nI (sB S) := hk'.2.2.2.2.1
      rw [oh_g1, if_neg (by omega), e3, e2, ob_or, nI_1]
      refine q _ ?_ ?_ ?_ ?_ ?_ ?_ (fun i hi => ?_)
      · refine rF_tr (rF_y hy) ⟨fun a b x1 _ _ _ _ _ _ => ?_, fun b x y _ _ => ?_, fun a b _ => rfl⟩
        · rw [oh_g1, if_neg (fun z => x1 z.1), oh_g1, if_neg (fun z => x1 z.1)]
        · rw [oh_g1, if_neg (fun z => x z.2), oh_g1, if_neg (fun z => y z.2)]
      · have ee : oh_upi (oh_upi (oh_upi (oh_upi k' 1 3 (nI (sQ S ||| who))) 1 2 (nI (sB S + 1))) 1 3 (nI (sQ S))) 1 2 (nI (sB S)) = k' := by
          refine oh_ext (fun a b => ?_) (fun a b => rfl)
          simp only [oh_g1]
          by_cases z1 : a = 1 ∧ b = 2
          · rw [if_pos z1, z1.1, z1.2, e2]
          · by_cases z2 : a = 1 ∧ b = 3
            · rw [if_neg z1, if_pos z2, z2.1, z2.2, e3]
            · rw [if_neg z1, if_neg z2, if_neg z1, if_neg z2]
        rw [ee]
        exact hk'
      · rw [oh_g1, if_neg (by omega), oh_g1, if_pos ⟨rfl, rfl⟩]
      · rw [oh_g1, if_pos ⟨rfl, rfl⟩]
      · rw [oh_g1, if_neg (by omega), oh_g1, if_neg (by omega)]
        exact hy.2.1 5 (by omega)
      · exact hk'.2.2.1
      · rw [oh_g1, if_neg (by omega), oh_g1, if_neg (by omega), hp i hi]
        by_cases hlt : i < sN S
        · rw [if_pos hlt]
        · rw [if_neg hlt, pdF, if_neg (by simp [hlt])]
  exact key 0 (Nat.zero_le _) k (yF_rf k) (fun j hj => by rw [if_neg (by omega)]; exact hpd j hj)

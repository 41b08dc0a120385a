/-! THE CLASS: a bell rings -/
def pdF (S : oS) (fi : Int32) (c : List Nat) (who blk : Nat) (pd : Nat → Int32) (i : Nat) : Int32 := if i < sN S ∧ who.testBit i = true then oHeld (pd i + (if blk.testBit i = (sW S).testBit i then lwF 1 c (oh_b ((sW S).testBit i)) (nI (sB S)) (nI (ob_ct who 6)) 0 else -fi)) (-99999) 99999 else pd i
theorem oh_b_inj {a b : Bool} : oh_b a = oh_b b ↔ a = b := by cases a <;> cases b <;> decide
theorem cSc_same {h h' : oh_St} {o : Nat} {S : oS} {X : List Nat} (H : cSc h o S) (hs : oSame h h' X) (h0 : o ∉ X) (h1 : o + 1 ∉ X) (h2 : o + 2 ∉ X) (h3 : o + 3 ∉ X) : cSc h' o S := by
  obtain ⟨a1, a2, a3, a4, a5, a6, a7⟩ := H
  exact ⟨(hs.1 _ _ h0).trans a1, fun p hp => ⟨(hs.1 _ _ h1).trans (a2 p hp).1, (hs.1 _ _ h2).trans (a2 p hp).2.1, (hs.1 _ _ h3).trans (a2 p hp).2.2⟩, (hs.1 _ _ h0).trans a3, by rw [hs.2]; exact a4, (hs.1 _ _ h0).trans a5, (hs.1 _ _ h0).trans a6, a7⟩
theorem oScX {o : Nat} (ho : o = 2 ∨ o = 37) : o ∉ [o + 4, 14] ∧ o + 1 ∉ [o + 4, 14] ∧ o + 2 ∉ [o + 4, 14] ∧ o + 3 ∉ [o + 4, 14] ∧ 11 ∉ [o + 4, 14] ∧ 12 ∉ [o + 4, 14] ∧ 13 ∉ [o + 4, 14] ∧ o + 4 ≠ 14 ∧ o ≠ 11 ∧ o ≠ 12 ∧ o ≠ 13 ∧ o ≠ 14 := by
  rcases ho with rfl | rfl <;> decide
theorem sX4_payAll {d : Nat} {K : oh_St → Prop} {h : oh_St} {o who blk : Nat} {S : oS} {fi : Int32} {c : List Nat} {pd : Nat → Int32} (ho : o = 2 ∨ o = 37) (hc : cSc h o S) (hf : h.1 o 6 = fi) (hp : ∀ i, i < 6 → h.1 (o + 4) i = pd i) (hl : lawIs h 11 1 c) (hw : who < 64) (hb : blk < 64)
    (q : ∀ h', oSame h h' [o + 4, 14] → (∀ i, i < 6 → h'.1 (o + 4) i = pdF S fi c who blk pd i) → K h') : CM (d + 4) jX4_payAll [.ref o, .int (nI who), .int (nI blk), .ref 11] h (oh_r0 K) := by
  have hok := hc.2.2.2.2.2.2
  have hn := hok.1
  have hW := sW_lt hok
  have hB := hok.2.2.2.2.2
  obtain ⟨x0, x1, x2, x3, y0, y1, y2, y3, -⟩ := oScX ho
  refine mX4_payAll ho (sJ6_bitCount hw ?_)
  have key : ∀ i, i ≤ sN S → ∀ h', oSame h h' [o + 4, 14] → (∀ j, j < 6 → h'.1 (o + 4) j = if j < i then pdF S fi c who blk pd j else pd j) → wX4_payAll_9 (d + 3) (oh_r0 K) o (nI who) (nI blk) (nI (ob_ct who 6)) (nI i) h' := by
    refine oh_up (fun i hi ih => ?_) ?_
    · intro h' hs hpd
      have hc' := cSc_same hc hs x0 x1 x2 x3
      have hl' := lawIs_same hl hs y0 y1 y2
      have hf' : h'.1 o 6 = fi := (hs.1 o 6 x0).trans hf
      have hpi : h'.1 (o + 4) i = pd i := by rw [hpd i (by omega), if_neg (by omega)]
      refine bX4_payAll_9 ho ?_
      rw [hc'.1]
      refine br_f (nI_ge hi (by omega)) (sX7_bit (by omega) (by omega) ?_)
      rw [show (1 : Int32) = nI 1 from rfl, nI_add]
      refine oh_bo (fun c1 => ?_) (fun c1 => ?_)
      · refine ih h' hs (fun j hj => ?_)
        rw [hpd j hj]
        by_cases hji : j = i
        · subst hji
          rw [if_neg (by omega), if_pos (by omega), pdF, if_neg (by rw [c1]; simp)]
        · by_cases hlt : j < i
          · rw [if_pos hlt, if_pos (by omega)]
          · rw [if_neg hlt, if_neg (by omega)]
      · rw [hc'.2.2.1]
        refine sX7_bit (by omega) (by omega) (sX7_bit (by omega) (by omega) ?_)
        rw [oh_cl (by omega), hpi, hf']
        have fin : ∀ (h2 : oh_St) (v : Int32), oSame h' h2 [o + 4, 14] → (∀ j, j < 6 → h2.1 (o + 4) j = h'.1 (o + 4) j) → v = pdF S fi c who blk pd i → wX4_payAll_9 (d + 3) (oh_r0 K) o (nI who) (nI blk) (nI (ob_ct who 6)) (nI (i + 1)) (oh_upi h2 (o + 4) i v) := by
          intro h2 v hs2 hp2 hv
          refine ih _ (oSame_up (oSame_tr hs hs2) (by simp)) (fun j hj => ?_)
          rw [oh_g1]
          by_cases hji : j = i
          · subst hji
            rw [if_pos ⟨rfl, rfl⟩, if_pos (by omega), hv]
          · rw [if_neg (fun z => hji z.2), hp2 j hj, hpd j hj]
            by_cases hlt : j < i
            · rw [if_pos hlt, if_pos (by omega)]
            · rw [if_neg hlt, if_neg (by omega)]
        refine oh_nc (fun c2 => ⟨oh_in (by omega) (by omega), sX7_held (by decide) ⟨oh_in (by omega) (by omega), ?_⟩⟩) (fun c2 => ?_)
        · have c2 : ¬ blk.testBit i = (sW S).testBit i := fun z => c2 (by rw [z])
          refine fin h' _ (oSame_rf _ _) (fun _ _ => rfl) ?_
          rw [pdF, if_pos ⟨hi, c1⟩, if_neg c2]
        · have c2 : blk.testBit i = (sW S).testBit i := oh_b_inj.mp c2
          rw [hc'.2.2.2.2.2.1]
          refine sX1_gives (by omega) hl' (fun h2 hs2 => ⟨oh_in (by omega) (by omega), ?_⟩)
          have e4 : ∀ j, h2.1 (o + 4) j = h'.1 (o + 4) j := fun j => hs2.1 _ _ (by simp; omega)
          rw [e4, hpi]
          refine sX7_held (by decide) ⟨oh_in (by omega) (by omega), ?_⟩
          refine fin h2 _ (oSame_mono hs2 (by simp)) (fun j _ => e4 j) ?_
          rw [pdF, if_pos ⟨hi, c1⟩, if_pos c2]
    · intro h' hs hpd
      have hc' := cSc_same hc hs x0 x1 x2 x3
      refine bX4_payAll_9 ho ?_
      rw [hc'.1]
      refine br_t (nI_le (Nat.le_refl _) (by omega)) (q h' hs (fun i hi => ?_))
      rw [hpd i hi]
      by_cases hin : i < sN S
      · rw [if_pos hin]
      · rw [if_neg hin, pdF, if_neg (fun z => hin z.1)]
  exact key 0 (Nat.zero_le _) h (oSame_rf _ _) (fun j hj => by rw [if_neg (by omega)]; exact hp j hj)
-- which worlds are left
def sFits (S : oS) (who blk y p : Nat) : Bool := (sQ S).testBit p || sGood S p (who.testBit p) (blk.testBit p) y
def sLf (S : oS) (who blk i : Nat) : Nat := ob_m (fun y => (sP S).testBit y && (List.range i).all (sFits S who blk y)) 64
theorem sLf_0 {S : oS} (h : sOk S) (who blk : Nat) : sLf S who blk 0 = sP S := by
  conv => rhs; rw [← ob_m_self (sP_lt h)]
  exact ob_m_cong (fun y _ => by simp)
theorem sLf_s (S : oS) (who blk i : Nat) : sLf S who blk (i + 1) = if (sQ S).testBit i then sLf S who blk i else sFit S i (sLf S who blk i) (who.testBit i) (blk.testBit i) := by
  cases hq : (sQ S).testBit i
  · rw [if_neg (by decide), sFit]
    apply ob_ext
    intro y
    rw [sLf, ob_m_bit, ob_m_bit, sLf, ob_m_bit]
    by_cases hy : y < 64
    · simp only [hy, decide_true, Bool.true_and, List.range_succ, List.all_append, List.all_cons, List.all_nil, Bool.and_true, sFits, hq, Bool.false_or, Bool.and_assoc]
    · simp [hy]
  · rw [if_pos rfl]
    exact ob_m_cong (fun y _ => by simp [List.range_succ, sFits, hq])
theorem sLf_sub (S : oS) (who blk i y : Nat) (h : (sLf S who blk i).testBit y = true) : (sP S).testBit y = true := by
  rw [sLf, ob_m_bit] at h
  simp only [Bool.and_eq_true] at h
  exact h.2.1
def sHear (S : oS) (who blk : Nat) : oS := (sN S, sK S, sM S, sE S, sW S, if sLf S who blk (sN S) = 0 then sP S else sLf S who blk (sN S), sQ S ||| who, sB S + 1)
theorem sLf_lt {S : oS} (h : sOk S) (who blk i : Nat) : sLf S who blk i < 2 ^ 2 ^ sN S := ob_lt (fun j hj => by
  cases hb : (sLf S who blk i).testBit j
  · rfl
  · have := sLf_sub S who blk i j hb
    rw [ob_hi h.2.2.2.1 hj] at this; cases this)
theorem sHear_ok {S : oS} (h : sOk S) {who blk : Nat} (hw : who < 2 ^ sN S) (hb : sB S + 1 < 1000) : sOk (sHear S who blk) := by
  refine ⟨h.1, h.2.1, h.2.2.1, ?_, ?_, hb⟩
  · show (if sLf S who blk (sN S) = 0 then sP S else sLf S who blk (sN S)) < 2 ^ 2 ^ sN S
    by_cases hz : sLf S who blk (sN S) = 0
    · rw [if_pos hz]; exact h.2.2.2.1
    · rw [if_neg hz]; exact sLf_lt h _ _ _
  · exact Nat.or_lt_two_pow h.2.2.2.2.1 hw
/-- what a bell leaves as it was -/
def oFr (h h' : oh_St) (o : Nat) : Prop := (∀ a b, a ≠ o → a ≠ o + 4 → a ≠ 14 → h'.1 a b = h.1 a b) ∧ (∀ b, b ≠ 9 → b ≠ 10 → h'.1 o b = h.1 o b) ∧ ∀ a b, ¬ (a = o ∧ b = 8) → h'.2 a b = h.2 a b
def sChg (S : oS) (who blk : Nat) : Bool := decide (¬ who = 0) || (decide (¬ sLf S who blk (sN S) = 0) && decide (¬ sLf S who blk (sN S) = sP S))
theorem sX4_hear {d : Nat} {K : Int32 → oh_St → Prop} {h : oh_St} {o who blk : Nat} {S : oS} {fi : Int32} {c : List Nat} {pd : Nat → Int32} (ho : o = 2 ∨ o = 37) (hc : cSc h o S) (hf : h.1 o 6 = fi) (hp : ∀ i, i < 6 → h.1 (o + 4) i = pd i) (hl : lawIs h 11 1 c) (hw : who < 2 ^ sN S) (hb : blk < 64) (hbe : sB S + 1 < 1000)
    (q : ∀ h', cSc h' o (sHear S who blk) → oFr h h' o → (∀ i, i < 6 → h'.1 (o + 4) i = pdF S fi c who blk pd i) → K (oh_b (sChg S who blk)) h') : CM (d + 6) jX4_hear [.ref o, .int (nI who), .int (nI blk), .ref 11] h (oh_r1 K) := by
  have hok := hc.2.2.2.2.2.2
  have hn := hok.1
  have h64 := sPow hok
  obtain ⟨x0, x1, x2, x3, y0, y1, y2, y3, -, -, -, y4⟩ := oScX ho
  refine mX4_hear ho ?_
  have key : ∀ i, i ≤ sN S → wX4_hear_9 (d + 5) (oh_r1 K) o (nI who) (nI blk) (lN (sLf S who blk i)) (nI i) h := by
    refine oh_up (fun i hi ih => ?_) ?_
    · refine bX4_hear_9 ho ?_
      rw [hc.1]
      refine br_f (nI_ge hi (by omega)) (sX4_hasSpoken ho hc (by omega) ?_)
      rw [sLf_s] at ih
      rw [show (1 : Int32) = nI 1 from rfl, nI_add]
      refine oh_bn (fun c1 => ?_) (fun c1 => ?_)
      · rw [if_pos c1] at ih
        exact ih
      · rw [if_neg (by rw [c1]; decide)] at ih
        refine sX7_bit (by omega) (by omega) (oh_bo (fun c2 => ?_) (fun c2 => ?_))
        · refine sX7_bit (by omega) (by omega) ?_
          have := sX4_fitting (d := d) (K := fun x h' => wX4_hear_9 (d + 5) (oh_r1 K) o (nI who) (nI blk) x (nI (i + 1)) h') (sp := false) (sd := blk.testBit i) (p := i) (A := sLf S who blk i) ho hc (by omega) (ob_m_lt _ _) (fun y hy => sLf_sub S who blk i y hy) (by rw [c2] at ih; exact ih)
          exact this
        · refine sX7_bit (by omega) (by omega) ?_
          have := sX4_fitting (d := d) (K := fun x h' => wX4_hear_9 (d + 5) (oh_r1 K) o (nI who) (nI blk) x (nI (i + 1)) h') (sp := true) (sd := blk.testBit i) (p := i) (A := sLf S who blk i) ho hc (by omega) (ob_m_lt _ _) (fun y hy => sLf_sub S who blk i y hy) (by rw [c2] at ih; exact ih)
          exact this
    · refine bX4_hear_9 ho ?_
      rw [hc.1]
      refine br_t (nI_le (Nat.le_refl _) (by omega)) (sX4_payAll ho hc hf hp hl (by omega) hb (fun h1 hs hpd => ?_))
      have hc1 := cSc_same hc hs x0 x1 x2 x3
      rw [hc1.2.2.2.1]
      have e0 : (lg_cmp (lN (sLf S who blk (sN S))) 0 = 0) ↔ sLf S who blk (sN S) = 0 := by
        rw [oh_cmp0, show (0 : Int64) = lN 0 from rfl, ob_linj (show sLf S who blk (sN S) < 2 ^ 64 from ob_m_lt _ _) (by omega)]
      have eP : (lg_cmp (lN (sLf S who blk (sN S))) (lN (sP S)) = 0) ↔ sLf S who blk (sN S) = sP S := by
        rw [oh_cmp0, ob_linj (show sLf S who blk (sN S) < 2 ^ 64 from ob_m_lt _ _) (sP_lt hok)]
      have ew : nI who = 0 ↔ who = 0 := by
        rw [show (0 : Int32) = nI 0 from rfl, nI_eq (by omega) (by omega)]
      have hok' := sHear_ok hok (blk := blk) hw hbe
      -- the two states behind it
      have fin0 : sLf S who blk (sN S) = 0 → K (oh_b (sChg S who blk)) (oh_upi (oh_upi h1 o 9 ((h1.1 o 9) ||| nI who)) o 10 (((oh_upi h1 o 9 ((h1.1 o 9) ||| nI who)).1 o 10) + 1)) := by
        intro hz
        obtain ⟨a1, a2, a3, a4, a5, a6, a7⟩ := hc1
        refine q _ ⟨?_, fun p hp => ?_, ?_, ?_, ?_, ?_, hok'⟩ ⟨fun a b n1 n2 n3 => ?_, fun b n1 n2 => ?_, fun a b _ => ?_⟩ (fun i hi => ?_)
        · rw [oh_g1, if_neg (by omega), oh_g1, if_neg (by omega)]; exact a1
        · rw [oh_g1, if_neg (by omega), oh_g1, if_neg (by omega), oh_g1, if_neg (by omega), oh_g1, if_neg (by omega), oh_g1, if_neg (by omega), oh_g1, if_neg (by omega)]; exact a2 p hp
        · rw [oh_g1, if_neg (by omega), oh_g1, if_neg (by omega)]; exact a3
        · rw [oh_g2, oh_g2, a4]
          show lN (sP S) = lN (if sLf S who blk (sN S) = 0 then sP S else sLf S who blk (sN S))
          rw [if_pos hz]
        · rw [oh_g1, if_neg (by omega), oh_g1, if_pos ⟨rfl, rfl⟩, a5, ob_or]; rfl
        · rw [oh_g1, if_pos ⟨rfl, rfl⟩, oh_g1, if_neg (by omega), a6, nI_1]; rfl
        · rw [oh_g1, if_neg (fun z => n1 z.1), oh_g1, if_neg (fun z => n1 z.1)]
          exact hs.1 a b (by simp; exact ⟨n2, n3⟩)
        · rw [oh_g1, if_neg (fun z => n2 z.2), oh_g1, if_neg (fun z => n1 z.2)]
          exact hs.1 o b x0
        · rw [oh_g2, oh_g2, hs.2]
        · rw [oh_g1, if_neg (by omega), oh_g1, if_neg (by omega)]; exact hpd i hi
      have fin1 : ¬ sLf S who blk (sN S) = 0 → K (oh_b (sChg S who blk)) (oh_upi (oh_upi (oh_upl h1 o 8 (lN (sLf S who blk (sN S)))) o 9 (((oh_upl h1 o 8 (lN (sLf S who blk (sN S)))).1 o 9) ||| nI who)) o 10 (((oh_upi (oh_upl h1 o 8 (lN (sLf S who blk (sN S)))) o 9 (((oh_upl h1 o 8 (lN (sLf S who blk (sN S)))).1 o 9) ||| nI who)).1 o 10) + 1)) := by
        intro hz
        obtain ⟨a1, a2, a3, a4, a5, a6, a7⟩ := hc1
        refine q _ ⟨?_, fun p hp => ?_, ?_, ?_, ?_, ?_, hok'⟩ ⟨fun a b n1 n2 n3 => ?_, fun b n1 n2 => ?_, fun a b n1 => ?_⟩ (fun i hi => ?_)
        · rw [oh_g1, if_neg (by omega), oh_g1, if_neg (by omega), oh_g3]; exact a1
        · rw [oh_g1, if_neg (by omega), oh_g1, if_neg (by omega), oh_g1, if_neg (by omega), oh_g1, if_neg (by omega), oh_g1, if_neg (by omega), oh_g1, if_neg (by omega), oh_g3]; exact a2 p hp
        · rw [oh_g1, if_neg (by omega), oh_g1, if_neg (by omega), oh_g3]; exact a3
        · rw [oh_g2, oh_g2, oh_g4, if_pos ⟨rfl, rfl⟩]
          show _ = lN (if sLf S who blk (sN S) = 0 then sP S else sLf S who blk (sN S))
          rw [if_neg hz]
        · rw [oh_g1, if_neg (by omega), oh_g1, if_pos ⟨rfl, rfl⟩, oh_g3, a5, ob_or]; rfl
        · rw [oh_g1, if_pos ⟨rfl, rfl⟩, oh_g1, if_neg (by omega), oh_g3, a6, nI_1]; rfl
        · rw [oh_g1, if_neg (fun z => n1 z.1), oh_g1, if_neg (fun z => n1 z.1), oh_g3]
          exact hs.1 a b (by simp; exact ⟨n2, n3⟩)
        · rw [oh_g1, if_neg (fun z => n2 z.2), oh_g1, if_neg (fun z => n1 z.2), oh_g3]
          exact hs.1 o b x0
        · rw [oh_g2, oh_g2, oh_g4, if_neg n1, hs.2]
        · rw [oh_g1, if_neg (by omega), oh_g1, if_neg (by omega), oh_g3]; exact hpd i hi
      unfold sChg at fin0 fin1
      refine oh_nc (fun w => ?_) (fun w => ?_)
      · have w := mt ew.mpr w
        simp only [w, not_false_iff, decide_true, Bool.true_or] at fin0 fin1
        exact ⟨fun z => ⟨oh_i1, fin0 (e0.mp z)⟩, fun z => ⟨oh_i1, fin1 (mt e0.mpr z)⟩⟩
      · have w := ew.mp w
        simp only [w, not_true, decide_false, Bool.false_or] at fin0 fin1
        subst w
        refine ⟨fun z => ?_, fun z => ?_⟩
        · have z0 := e0.mp z
          simp only [z0, not_true, decide_false, Bool.false_and] at fin0
          exact br_t z ⟨oh_i0, fin0 trivial⟩
        · have z0 := mt e0.mpr z
          simp only [z0, not_false_iff, decide_true, Bool.true_and] at fin1
          refine ⟨fun z2 => br_f z ⟨oh_i0, ?_⟩, fun z2 => br_f z ⟨oh_i1, ?_⟩⟩
          · have := fin1 trivial
            rw [decide_eq_false (by rw [eP.mp z2]; simp)] at this
            exact this
          · have := fin1 trivial
            rw [decide_eq_true (mt eP.mpr z2)] at this
            exact this
  have := key 0 (Nat.zero_le _)
  rw [sLf_0 hok] at this
  rw [hc.2.2.2.1]
  exact this
def sRing (S : oS) : oS := sHear S (sWho S (sW S)) (sBlk S (sW S) (sWho S (sW S)))
theorem sX4_ring {d : Nat} {K : Int32 → oh_St → Prop} {h : oh_St} {o : Nat} {S : oS} {fi : Int32} {c : List Nat} {pd : Nat → Int32} (ho : o = 2 ∨ o = 37) (hc : cSc h o S) (hf : h.1 o 6 = fi) (hp : ∀ i, i < 6 → h.1 (o + 4) i = pd i) (hl : lawIs h 11 1 c) (hbe : sB S + 1 < 1000)
    (q : ∀ h', cSc h' o (sRing S) → oFr h h' o → (∀ i, i < 6 → h'.1 (o + 4) i = pdF S fi c (sWho S (sW S)) (sBlk S (sW S) (sWho S (sW S))) pd i) → K (oh_b (sChg S (sWho S (sW S)) (sBlk S (sW S) (sWho S (sW S))))) h') : CM (d + 7) jX4_ring [.ref o, .ref 11] h (oh_r1 K) := by
  have hok := hc.2.2.2.2.2.2
  have h64 := sPow hok
  have w1 : sWho S (sW S) < 2 ^ sN S := ob_m_lt _ _
  have w2 : sBlk S (sW S) (sWho S (sW S)) < 2 ^ sN S := ob_m_lt _ _
  refine mX4_ring ho (sX4_speakers ho hc (sX4_sayings ho hc (by omega) (sX4_hear ho hc hf hp hl w1 (by omega) hbe (fun h' a b c => ⟨oh_b_01 _, q h' a b c⟩))))

/-! THE CLASS: which worlds fit what one man did -/
theorem sCell_eq {S : oS} (hok : sOk S) {p x : Nat} (hp : p < 6) (hx : x < 64) : lN (sP S) &&& (lN (oAW (sE S p)) <<< ((nI x &&& nI (sE S p)).toInt64 &&& 63)) = lN (sCell S p x) := by
  have hs := (hok.2.1 p hp).2.2
  rw [ob_and, wb_shl _ (Nat.lt_of_le_of_lt Nat.and_le_left hx), ob_land]
  congr 1
  apply ob_ext
  intro y
  rw [Nat.testBit_and, Nat.testBit_mul_two_pow, sCell, ob_m_bit]
  by_cases hy : y < 64
  · have k := sCell_k (sE S p) hs y hy x hx
    rw [← k]
    simp only [hy, decide_true, Bool.true_and, oAW, ob_m_bit]
    have : y - (x &&& sE S p) < 64 := by omega
    simp [this]
  · have := ob_hi (sP_lt hok) (by omega : 64 ≤ y)
    simp [hy, this]
theorem sCell_view {S : oS} {p x y : Nat} (h : y &&& sE S p = x &&& sE S p) : sCell S p y = sCell S p x := by unfold sCell; rw [h]
theorem sCell_bit {S : oS} {p x y : Nat} (hy : y < 64) : (sCell S p x).testBit y = ((sP S).testBit y && decide (y &&& sE S p = x &&& sE S p)) := by
  rw [sCell, ob_m_bit]; simp [hy]
/-- what a man did fits a world -/
def sGood (S : oS) (p : Nat) (sp sd : Bool) (y : Nat) : Bool := (sSp S p (sCell S p y) == sp) && (!sp || (oSay p (sCell S p y) == sd))
def sFit (S : oS) (p A : Nat) (sp sd : Bool) : Nat := ob_m (fun y => A.testBit y && sGood S p sp sd y) 64
def sSeen (S : oS) (p A w y : Nat) : Bool := (List.range w).any (fun x => A.testBit x && decide (x &&& sE S p = y &&& sE S p))
theorem sSeen_i {S : oS} {p A w y : Nat} : sSeen S p A w y = true ↔ ∃ x, x < w ∧ A.testBit x = true ∧ x &&& sE S p = y &&& sE S p := by
  unfold sSeen
  rw [List.any_eq_true]
  constructor
  · rintro ⟨x, hx, h⟩
    simp only [Bool.and_eq_true, decide_eq_true_eq] at h
    exact ⟨x, List.mem_range.mp hx, h.1, h.2⟩
  · rintro ⟨x, hx, h1, h2⟩
    exact ⟨x, List.mem_range.mpr hx, by simp [h1, h2]⟩
def sFl (S : oS) (p A w : Nat) : Nat := ob_m (fun y => A.testBit y && !sSeen S p A w y) 64
def sFf (S : oS) (p A : Nat) (sp sd : Bool) (w : Nat) : Nat := ob_m (fun y => A.testBit y && (sSeen S p A w y && sGood S p sp sd y)) 64
theorem sSeen_s {S : oS} {p A w y : Nat} : sSeen S p A (w + 1) y = (sSeen S p A w y || (A.testBit w && decide (w &&& sE S p = y &&& sE S p))) := by
  rw [Bool.eq_iff_iff]
  simp only [Bool.or_eq_true, sSeen_i, Bool.and_eq_true, decide_eq_true_eq]
  constructor
  · rintro ⟨x, hx, h1, h2⟩
    by_cases hxw : x = w
    · subst hxw; exact Or.inr ⟨h1, h2⟩
    · exact Or.inl ⟨x, by omega, h1, h2⟩
  · rintro (⟨x, hx, h1, h2⟩ | ⟨h1, h2⟩)
    · exact ⟨x, by omega, h1, h2⟩
    · exact ⟨w, by omega, h1, h2⟩
/-- a world whose view was seen, or that isn't among them: nothing changes -/
theorem sSeen_no {S : oS} {p A w : Nat} (hw : w < 64) (h : (sFl S p A w).testBit w = false) (y : Nat) : sSeen S p A (w + 1) y = sSeen S p A w y := by
  rw [sFl, ob_m_bit] at h
  simp only [hw, decide_true, Bool.true_and] at h
  rw [sSeen_s]
  cases hA : A.testBit w
  · simp
  · rw [hA] at h
    have hs : sSeen S p A w w = true := by simpa using h
    by_cases hv : w &&& sE S p = y &&& sE S p
    · obtain ⟨x, h1, h2, h3⟩ := sSeen_i.mp hs
      have : sSeen S p A w y = true := sSeen_i.mpr ⟨x, h1, h2, h3.trans hv⟩
      rw [this]; rfl
    · simp [hv]
theorem sFl_no {S : oS} {p A w : Nat} (hw : w < 64) (h : (sFl S p A w).testBit w = false) : sFl S p A (w + 1) = sFl S p A w := ob_m_cong (fun y _ => by rw [sSeen_no hw h])
theorem sFf_no {S : oS} {p A w : Nat} {sp sd : Bool} (hw : w < 64) (h : (sFl S p A w).testBit w = false) : sFf S p A sp sd (w + 1) = sFf S p A sp sd w := ob_m_cong (fun y _ => by rw [sSeen_no hw h])
theorem sGood_view {S : oS} {p x y : Nat} {sp sd : Bool} (h : y &&& sE S p = x &&& sE S p) : sGood S p sp sd y = sGood S p sp sd x := by unfold sGood; rw [sCell_view h]
theorem sFl_yes {S : oS} {p A w : Nat} (hsub : ∀ y, A.testBit y = true → (sP S).testBit y = true) (h : A.testBit w = true) : sFl S p A (w + 1) = sFl S p A w &&& ob_m (fun j => !(sCell S p w).testBit j) 64 := ob_ext (fun y => by
  rw [Nat.testBit_and]
  simp only [sFl, ob_m_bit]
  by_cases hy : y < 64
  · simp only [hy, decide_true, Bool.true_and, sCell_bit hy, sSeen_s, h]
    cases hA : A.testBit y
    · simp
    · rw [hsub y hA]
      by_cases hv : w &&& sE S p = y &&& sE S p
      · simp [hv]
      · have hv' : ¬ y &&& sE S p = w &&& sE S p := fun z => hv z.symm
        simp [hv, hv']
  · simp [hy])
theorem sFf_yes {S : oS} {p A w : Nat} {sp sd : Bool} (hsub : ∀ y, A.testBit y = true → (sP S).testBit y = true) (h : A.testBit w = true) : sFf S p A sp sd (w + 1) = if sGood S p sp sd w then sFf S p A sp sd w ||| (sCell S p w &&& A) else sFf S p A sp sd w := by
  by_cases hg : sGood S p sp sd w = true
  · rw [if_pos hg]
    apply ob_ext
    intro y
    rw [Nat.testBit_or, Nat.testBit_and]
    simp only [sFf, ob_m_bit]
    by_cases hy : y < 64
    · simp only [hy, decide_true, Bool.true_and, sCell_bit hy, sSeen_s, h]
      cases hA : A.testBit y
      · simp
      · rw [hsub y hA]
        by_cases hv : w &&& sE S p = y &&& sE S p
        · rw [sGood_view (sp := sp) (sd := sd) hv.symm, hg]
          simp [hv]
        · have hv' : ¬ y &&& sE S p = w &&& sE S p := fun z => hv z.symm
          simp [hv, hv']
    · simp only [hy, decide_false, Bool.false_and, Bool.false_or]
      rw [show (sCell S p w).testBit y = false from ob_hi (sCell_lt S p w) (by omega), Bool.false_and]
  · rw [if_neg hg]
    apply ob_m_cong
    intro y hy
    rw [sSeen_s, h]
    by_cases hv : w &&& sE S p = y &&& sE S p
    · rw [sGood_view (sp := sp) (sd := sd) hv.symm]
      have : sGood S p sp sd w = false := by simpa using hg
      simp [this]
    · simp [hv]
theorem sFf_all {S : oS} {p A w : Nat} {sp sd : Bool} (h : ∀ y, y < 64 → A.testBit y = true → sSeen S p A w y = true) : sFf S p A sp sd w = sFit S p A sp sd := ob_m_cong (fun y hy => by
  cases hA : A.testBit y
  · rfl
  · rw [h y hy hA]; rfl)
theorem sFl_z {S : oS} {p A w : Nat} (h : sFl S p A w = 0) : ∀ y, y < 64 → A.testBit y = true → sSeen S p A w y = true := by
  intro y hy hA
  have := congrArg (fun n => Nat.testBit n y) h
  simp only [sFl, ob_m_bit, hy, decide_true, Bool.true_and, hA, Nat.zero_testBit] at this
  simpa using this
theorem sX4_fitting {d : Nat} {K : Int64 → oh_St → Prop} {h : oh_St} {o p A : Nat} {sp sd : Bool} {S : oS} (ho : o = 2 ∨ o = 37) (hc : cSc h o S) (hp : p < 6) (hA : A < 2 ^ 64) (hsub : ∀ y, A.testBit y = true → (sP S).testBit y = true) (q : K (lN (sFit S p A sp sd)) h) : CM (d + 5) jX4_fitting [.ref o, .int (nI p), .long (lN A), .int (oh_b sp), .int (oh_b sd)] h (oh_r2 K) := by
  refine mX4_fitting ho (br_f (nI_pos (by omega)) (br_t (nI_lt (b := 6) hp (by omega)) ⟨oh_in hp (by omega), ?_⟩))
  obtain ⟨h1, h2, h3, h4, h5, h6, hok⟩ := id hc
  have hs := (hok.2.1 p hp).2.2
  have h64 := sPow hok
  rw [oh_cl (by omega), (h2 p hp).2.2]
  refine sX7_allWhite hs ?_
  have hlt : ∀ y, A.testBit y = true → y < 2 ^ sN S := fun y hy => by
    rcases Nat.lt_or_ge y (2 ^ sN S) with z | z
    · exact z
    · have := ob_hi hok.2.2.2.1 z
      rw [hsub y hy] at this; cases this
  have key : ∀ w, w ≤ 2 ^ sN S → wX4_fitting_38 (d + 4) (oh_r2 K) o (nI p) (lN A) (oh_b sp) (oh_b sd) (nI (sE S p)) (lN (oAW (sE S p))) (lN (sFf S p A sp sd w)) (lN (sFl S p A w)) (nI w) h := by
    refine oh_up (fun w hw ih => ?_) ?_
    · refine bX4_fitting_38 ho (sX4_worldCount ho hc (br_f (nI_ge hw (by omega)) ?_))
      have e0 : (lg_cmp (lN (sFl S p A w)) 0 = 0) ↔ sFl S p A w = 0 := by
        rw [oh_cmp0, show (0 : Int64) = lN 0 from rfl, ob_linj (show sFl S p A w < 2 ^ 64 from ob_m_lt _ _) (by omega)]
      refine ⟨fun z => ?_, fun z => ?_⟩
      · show K _ h
        rw [sFf_all (sFl_z (e0.mp z))]
        exact q
      · refine sX7_holds (ob_m_lt _ _) (by omega) ?_
        rw [show (1 : Int32) = nI 1 from rfl, nI_add]
        refine oh_bz (fun c => ?_) (fun c => ?_)
        · rw [sFl_no (by omega) c, sFf_no (by omega) c] at ih
          exact ih
        · have hAw : A.testBit w = true := by
            rw [sFl, ob_m_bit] at c
            simp only [Bool.and_eq_true] at c
            exact c.2.1
          rw [h4, sCell_eq hok hp (by omega), ob_not (sCell_lt _ _ _), ob_land, ob_land, ob_lor]
          rw [sFl_yes hsub hAw, sFf_yes hsub hAw] at ih
          refine sX4_speaks ho hc hp (sCell_lt _ _ _) ?_
          unfold sGood at ih
          refine oh_nc (fun c2 => ?_) (fun c2 => ?_)
          · have c2 : ¬ sSp S p (sCell S p w) = sp := fun z => c2 (by rw [z])
            rw [if_neg (by simp [c2])] at ih
            exact ih
          · have c2 : sSp S p (sCell S p w) = sp := by
              revert c2
              cases sSp S p (sCell S p w) <;> cases sp <;> decide
            rw [c2] at ih
            refine oh_bz (fun c3 => ?_) (fun c3 => ?_)
            · rw [c3] at ih ⊢
              rw [if_pos (by simp)] at ih
              exact ih
            · rw [c3] at ih ⊢
              refine sX7_wouldSay (sCell_lt _ _ _) hp (oh_nc (fun c4 => ?_) (fun c4 => ?_))
              · have c4 : ¬ oSay p (sCell S p w) = sd := fun z => c4 (by rw [z])
                rw [if_neg (by simp [c4])] at ih
                exact ih
              · have c4 : oSay p (sCell S p w) = sd := by
                  revert c4
                  cases oSay p (sCell S p w) <;> cases sd <;> decide
                rw [if_pos (by simp [c4])] at ih
                exact ih
    · refine bX4_fitting_38 ho (sX4_worldCount ho hc (br_t (nI_le (Nat.le_refl _) (by omega)) ?_))
      show K _ h
      rw [sFf_all (fun y _ hA => sSeen_i.mpr ⟨y, hlt y hA, hA, rfl⟩)]
      exact q
  have := key 0 (Nat.zero_le _)
  have e1 : sFf S p A sp sd 0 = 0 := by
    apply ob_ext
    intro y
    rw [sFf, ob_m_bit, Nat.zero_testBit]
    simp [sSeen]
  have e2 : sFl S p A 0 = A := by
    conv => rhs; rw [← ob_m_self hA]
    apply ob_m_cong
    intro y _
    simp [sSeen]
  rw [e1, e2] at this
  exact this

/-! THE CLASS: sets of worlds; what a man thinks, knows, would say; who speaks -/
theorem oh_nt {c A B : Prop} (h : ¬ c) (a : A) : (¬ c → A) ∧ (c → B) := ⟨fun _ => a, fun z => absurd z h⟩
theorem oh_nf {c A B : Prop} (h : c) (b : B) : (¬ c → A) ∧ (c → B) := ⟨fun z => absurd h z, fun _ => b⟩
theorem oh_nc {c A B : Prop} (a : ¬ c → A) (b : c → B) : (¬ c → A) ∧ (c → B) := ⟨a, b⟩
theorem sX7_bit {d : Nat} {K : Int32 → oh_St → Prop} {h : oh_St} {a i : Nat} (ha : a < 2 ^ 31) (hi : i < 31) (q : K (oh_b (a.testBit i)) h) : CM (d + 1) jX7_bit [.int (nI a), .int (nI i)] h (oh_r1 K) := by
  refine mX7_bit ?_
  show K _ h
  rw [ob_bit ha hi]
  exact q
def oHeld (v lo hi : Int32) : Int32 := if v < lo then lo else if hi < v then hi else v
theorem sX7_held {d : Nat} {K : Int32 → oh_St → Prop} {h : oh_St} {v lo hi : Int32} (hl : lo ≤ hi) (q : K (oHeld v lo hi) h) : CM (d + 2) jX7_held [.int v, .int lo, .int hi] h (oh_r1 K) := by
  refine mX7_held (mJ9_min_7cf53 ?_)
  have t : ∀ {a b : Int32}, a < b → b < a → False := fun h1 h2 => Int32.lt_irrefl (Int32.lt_trans h1 h2)
  refine ⟨fun c1 => ?_, fun c1 => ?_⟩
  · refine mJ9_max_7cf53 ⟨fun c2 => ?_, fun c2 => ?_⟩
    · show K v h
      have e : oHeld v lo hi = v := by
        unfold oHeld
        rw [if_neg (fun z => t c2 z), if_neg (fun z => t c1 z)]
      rw [e] at q
      exact q
    · show K lo h
      by_cases hv : v < lo
      · have e : oHeld v lo hi = lo := by unfold oHeld; rw [if_pos hv]
        rw [e] at q
        exact q
      · have e : v = lo := Int32.le_antisymm (Int32.not_lt.mp c2) (Int32.not_lt.mp hv)
        subst e
        have e : oHeld v v hi = v := by
          unfold oHeld
          rw [if_neg hv, if_neg (fun z => t c1 z)]
        rw [e] at q
        exact q
  · refine mJ9_max_7cf53 ⟨fun c2 => ?_, fun c2 => ?_⟩
    · show K hi h
      have hv : ¬ v < lo := fun z => c1 (Int32.lt_trans z c2)
      by_cases hh : hi < v
      · have e : oHeld v lo hi = hi := by unfold oHeld; rw [if_neg hv, if_pos hh]
        rw [e] at q
        exact q
      · have e : v = hi := Int32.le_antisymm (Int32.not_lt.mp hh) (Int32.not_lt.mp c1)
        subst e
        have e : oHeld v lo v = v := by unfold oHeld; rw [if_neg hv, if_neg hh]
        rw [e] at q
        exact q
    · show K lo h
      have e : lo = hi := Int32.le_antisymm hl (Int32.not_lt.mp c2)
      subst e
      have hv : ¬ v < lo := c1
      by_cases hh : lo < v
      · have e : oHeld v lo lo = lo := by unfold oHeld; rw [if_neg hv, if_pos hh]
        rw [e] at q
        exact q
      · have e : v = lo := Int32.le_antisymm (Int32.not_lt.mp hh) (Int32.not_lt.mp hv)
        subst e
        have e : oHeld v v v = v := by unfold oHeld; rw [if_neg hv, if_neg hh]
        rw [e] at q
        exact q
theorem sX7_holds {d : Nat} {K : Int32 → oh_St → Prop} {h : oh_St} {A x : Nat} (hA : A < 2 ^ 64) (hx : x < 64) (q : K (oh_b (A.testBit x)) h) : CM (d + 1) jX7_holds [.long (lN A), .int (nI x)] h (oh_r1 K) := by
  refine mX7_holds ?_
  rw [ob_lbit hA hx]
  have e : (lg_cmp (lN (A.testBit x).toNat) 1 = 0) ↔ A.testBit x = true := by rw [oh_cmp0, ob_b1]
  cases hb : A.testBit x
  · rw [hb] at e q
    exact oh_nt (fun z => by have := e.mp z; cases this) ⟨oh_i0, q⟩
  · rw [hb] at e q
    exact oh_nf (e.mpr rfl) ⟨oh_i1, q⟩
/-- the worlds that give a man black -/
def oB (p : Nat) : Nat := ob_m (fun y => y.testBit p) 64
theorem oB_tab : ∀ p, p < 6 → oh_l1002.getD p 0 = lN (oB p) := by decide +kernel
theorem oB_lt (p : Nat) : oB p < 2 ^ 64 := ob_m_lt _ _
def oBl (p A : Nat) : Nat := fb_ct (fun y => A.testBit y && y.testBit p) 64
def oWh (p A : Nat) : Nat := fb_ct (fun y => A.testBit y && !y.testBit p) 64
theorem oBl_le (p A : Nat) : oBl p A ≤ 64 := fb_ct_le _ _
theorem oWh_le (p A : Nat) : oWh p A ≤ 64 := fb_ct_le _ _
theorem oAnd_lt {A B : Nat} (h : A < 2 ^ 64) : A &&& B < 2 ^ 64 := Nat.lt_of_le_of_lt Nat.and_le_left h
theorem sX7_blacks {d : Nat} {K : Int32 → oh_St → Prop} {h : oh_St} {A p : Nat} (hA : A < 2 ^ 64) (hp : p < 6) (q : K (nI (oBl p A)) h) : CM (d + 2) jX7_blacks [.int (nI p), .long (lN A)] h (oh_r1 K) := by
  refine mX7_blacks (br_f (nI_pos (by omega)) (br_t (nI_lt (b := 6) hp (by omega)) ⟨oh_in hp (by omega), ?_⟩))
  rw [oh_cl (by omega), oB_tab p hp, ob_land]
  refine sJ13_bitCount (oAnd_lt hA) ?_
  have e : ob_ct (A &&& oB p) 64 = oBl p A := fb_ct_cong (fun y hy => by rw [Nat.testBit_and, oB, ob_m_bit]; simp [hy])
  rw [e]
  exact q
theorem oNB {A p : Nat} : A &&& ob_m (fun j => !(oB p).testBit j) 64 = ob_m (fun y => A.testBit y && !y.testBit p) 64 := ob_ext (fun y => by
  rw [Nat.testBit_and, ob_m_bit, ob_m_bit, oB, ob_m_bit]
  by_cases hy : y < 64 <;> simp [hy])
theorem sX7_whites {d : Nat} {K : Int32 → oh_St → Prop} {h : oh_St} {A p : Nat} (hA : A < 2 ^ 64) (hp : p < 6) (q : K (nI (oWh p A)) h) : CM (d + 2) jX7_whites [.int (nI p), .long (lN A)] h (oh_r1 K) := by
  refine mX7_whites (br_f (nI_pos (by omega)) (br_t (nI_lt (b := 6) hp (by omega)) ⟨oh_in hp (by omega), ?_⟩))
  rw [oh_cl (by omega), oB_tab p hp, ob_not (oB_lt p), ob_land, oNB]
  refine sJ13_bitCount (ob_m_lt _ _) ?_
  have e : ob_ct (ob_m (fun y => A.testBit y && !y.testBit p) 64) 64 = oWh p A := ob_cnt_m _ _
  rw [e]
  exact q
def oKn (p A : Nat) : Bool := decide (oBl p A = 0) || decide (oWh p A = 0)
theorem oBl_0 {A p : Nat} (hA : A < 2 ^ 64) : A &&& oB p = 0 ↔ oBl p A = 0 := by
  unfold oBl
  rw [fb_ct_zero]
  constructor
  · intro h y hy
    have := congrArg (fun n => Nat.testBit n y) h
    simpa [Nat.testBit_and, oB, ob_m_bit, hy] using this
  · intro h
    apply ob_ext
    intro y
    rw [Nat.testBit_and, oB, ob_m_bit, Nat.zero_testBit]
    by_cases hy : y < 64
    · simpa [hy] using h y hy
    · simp [hy]
theorem oWh_0 {A p : Nat} : ob_m (fun y => A.testBit y && !y.testBit p) 64 = 0 ↔ oWh p A = 0 := by
  unfold oWh
  rw [fb_ct_zero]
  constructor
  · intro h y hy
    have := congrArg (fun n => Nat.testBit n y) h
    simpa [ob_m_bit, hy] using this
  · intro h
    apply ob_ext
    intro y
    rw [ob_m_bit, Nat.zero_testBit]
    by_cases hy : y < 64
    · simpa [hy] using h y hy
    · simp [hy]
theorem sX7_knows {d : Nat} {K : Int32 → oh_St → Prop} {h : oh_St} {A p : Nat} (hA : A < 2 ^ 64) (hp : p < 6) (q : K (oh_b (oKn p A)) h) : CM (d + 1) jX7_knows [.int (nI p), .long (lN A)] h (oh_r1 K) := by
  refine mX7_knows (br_f (nI_pos (by omega)) (br_f (nI_ge (b := 6) hp (by omega)) ⟨oh_in hp (by omega), ?_⟩))
  rw [oh_cl (by omega), oB_tab p hp, ob_not (oB_lt p), ob_land, ob_land, oNB]
  have e1 : (lg_cmp (lN (A &&& oB p)) 0 = 0) ↔ oBl p A = 0 := by
    rw [oh_cmp0, show (0 : Int64) = lN 0 from rfl, ob_linj (oAnd_lt hA) (by omega)]
    exact oBl_0 hA
  have e2 : (lg_cmp (lN (ob_m (fun y => A.testBit y && !y.testBit p) 64)) 0 = 0) ↔ oWh p A = 0 := by
    rw [oh_cmp0, show (0 : Int64) = lN 0 from rfl, ob_linj (ob_m_lt _ _) (by omega)]
    exact oWh_0
  unfold oKn at q
  by_cases c1 : oBl p A = 0
  · simp only [c1, decide_true, Bool.true_or] at q
    exact br_t (e1.mpr c1) ⟨oh_i1, q⟩
  · simp only [c1, decide_false, Bool.false_or] at q
    refine br_f (fun z => c1 (e1.mp z)) ⟨oh_in hp (by omega), ?_⟩
    by_cases c2 : oWh p A = 0
    · simp only [c2, decide_true] at q
      exact oh_nf (e2.mpr c2) ⟨oh_i1, q⟩
    · simp only [c2, decide_false] at q
      exact oh_nt (fun z => c2 (e2.mp z)) ⟨oh_i0, q⟩
def oSay (p A : Nat) : Bool := decide (oWh p A ≤ oBl p A)
theorem sX7_wouldSay {d : Nat} {K : Int32 → oh_St → Prop} {h : oh_St} {A p : Nat} (hA : A < 2 ^ 64) (hp : p < 6) (q : K (oh_b (oSay p A)) h) : CM (d + 3) jX7_wouldSay [.int (nI p), .long (lN A)] h (oh_r1 K) := by
  refine mX7_wouldSay (sX7_blacks hA hp (sX7_whites hA hp ?_))
  have h1 := oBl_le p A
  have h2 := oWh_le p A
  unfold oSay at q
  by_cases c : oBl p A < oWh p A
  · rw [decide_eq_false (by omega)] at q
    exact br_t (nI_lt c (by omega)) q
  · rw [decide_eq_true (by omega)] at q
    exact br_f (nI_nlt (by omega) (by omega)) q
def oAW (s : Nat) : Nat := ob_m (fun y => decide (y &&& s = 0)) 64
theorem oAW_0 (y s : Nat) : y &&& s = 0 ↔ ∀ j, ¬ (y.testBit j = true ∧ s.testBit j = true) := by
  constructor
  · intro h j hj
    have := congrArg (fun n => Nat.testBit n j) h
    simp [Nat.testBit_and, hj.1, hj.2] at this
  · intro h
    apply ob_ext
    intro j
    rw [Nat.testBit_and, Nat.zero_testBit]
    cases h1 : y.testBit j
    · rfl
    · cases h2 : s.testBit j
      · rfl
      · exact absurd ⟨h1, h2⟩ (h j)
/-- behind i steps -/
def oAWi (s i : Nat) : Nat := ob_m (fun y => decide (y &&& (s % 2 ^ i) = 0)) 64
theorem oAWi_s (s i : Nat) : oAWi s (i + 1) = if s.testBit i then oAWi s i &&& ob_m (fun j => !(oB i).testBit j) 64 else oAWi s i := by
  have key : ∀ y, (y &&& (s % 2 ^ (i + 1)) = 0) ↔ (y &&& (s % 2 ^ i) = 0) ∧ ¬ (y.testBit i = true ∧ s.testBit i = true) := by
    intro y
    rw [oAW_0, oAW_0]
    constructor
    · intro h
      refine ⟨fun j hj => h j ⟨hj.1, ?_⟩, fun hj => h i ⟨hj.1, ?_⟩⟩
      · have := hj.2
        rw [Nat.testBit_mod_two_pow] at this ⊢
        simp only [Bool.and_eq_true, decide_eq_true_eq] at this ⊢
        exact ⟨by omega, this.2⟩
      · rw [Nat.testBit_mod_two_pow]
        simp [hj.2]
    · intro h j hj
      have h2 := hj.2
      rw [Nat.testBit_mod_two_pow] at h2
      simp only [Bool.and_eq_true, decide_eq_true_eq] at h2
      by_cases hji : j = i
      · subst hji
        exact h.2 ⟨hj.1, h2.2⟩
      · refine h.1 j ⟨hj.1, ?_⟩
        rw [Nat.testBit_mod_two_pow]
        simp only [Bool.and_eq_true, decide_eq_true_eq]
        exact ⟨by omega, h2.2⟩
  by_cases hs : s.testBit i = true
  · rw [if_pos hs]
    apply ob_ext
    intro y
    rw [Nat.testBit_and]
    simp only [oAWi, ob_m_bit, oB]
    by_cases hy : y < 64
    · simp only [hy, decide_true, Bool.true_and]
      rw [Bool.eq_iff_iff]
      simp only [decide_eq_true_eq, Bool.and_eq_true, Bool.not_eq_true']
      rw [key y, hs]
      simp
    · simp [hy]
  · rw [if_neg hs]
    apply ob_m_cong
    intro y hy
    congr 1
    rw [propext_iff] 
    rw [key y]
    simp [hs]
theorem oAWi_0 (s : Nat) : oAWi s 0 = 2 ^ 64 - 1 := by
  apply ob_ext
  intro y
  simp only [oAWi, ob_m_bit, Nat.testBit_two_pow_sub_one, Nat.pow_zero, Nat.mod_one, Nat.and_zero, decide_true, Bool.and_true]
theorem oAWi_6 {s : Nat} (h : s < 64) : oAWi s 6 = oAW s := by
  unfold oAWi oAW
  rw [Nat.mod_eq_of_lt (show s < 2 ^ 6 by omega)]
theorem sX7_allWhite {d : Nat} {K : Int64 → oh_St → Prop} {h : oh_St} {s : Nat} (hs : s < 64) (q : K (lN (oAW s)) h) : CM (d + 2) jX7_allWhite [.int (nI s)] h (oh_r2 K) := by
  refine mX7_allWhite ?_
  have key : ∀ i, i ≤ 6 → wX7_allWhite_6 (d + 1) (oh_r2 K) (nI s) (lN (oAWi s i)) (nI i) h := by
    refine oh_up (fun i hi ih => ?_) ?_
    · refine bX7_allWhite_6 (br_f (nI_ge (b := 6) hi (by omega)) (sX7_bit (by omega) (by omega) ?_))
      refine oh_bo (fun c => ?_) (fun c => ⟨oh_in hi (by omega), ?_⟩)
      · have e := oAWi_s s i
        rw [if_neg (by rw [c]; decide)] at e
        rw [show (1 : Int32) = nI 1 from rfl, nI_add]
        rw [e] at ih
        exact ih
      · have e := oAWi_s s i
        rw [if_pos c] at e
        rw [oh_cl (by omega), oB_tab i hi, ob_not (oB_lt i), ob_land, show (1 : Int32) = nI 1 from rfl, nI_add, ← e]
        exact ih
    · refine bX7_allWhite_6 (br_t (nI_le (Nat.le_refl 6) (by omega)) ?_)
      rw [oAWi_6 hs]
      exact q
  have := key 0 (by omega)
  rw [oAWi_0, ← ob_m1] at this
  exact this

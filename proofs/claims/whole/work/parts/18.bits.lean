/-! BITS: sets of men as small numbers (nI), sets of worlds as longs (lN) -/
theorem ob_mod2 (a i : Nat) : a / 2 ^ i % 2 = (a.testBit i).toNat := (Nat.toNat_testBit a i).symm
theorem ob_shr {a i : Nat} (ha : a < 2 ^ 31) (hi : i < 31) : nI a >>> (nI i &&& 31) = nI (a / 2 ^ i) := pk_shrN ha _ i (s_l i (by omega))
theorem ob_and1 (a : Nat) : nI a &&& 1 = nI (a % 2) := fa_mask a 1
theorem ob_bit {a i : Nat} (ha : a < 2 ^ 31) (hi : i < 31) : (nI a >>> (nI i &&& 31)) &&& 1 = oh_b (a.testBit i) := by
  rw [ob_shr ha hi, ob_and1, ob_mod2, oh_b_nI]
theorem ob_pow {i : Nat} (hi : i < 31) : (1 : Int32) <<< (nI i &&& 31) = nI (2 ^ i) := by
  have := pk_shlN (n := 1) (nI i &&& 31) i (s_l i (by omega)) (by rw [Nat.one_mul]; exact Nat.pow_lt_pow_right (by omega) (by omega))
  rw [Nat.one_mul] at this
  exact this
theorem ob_or (a b : Nat) : nI a ||| nI b = nI (a ||| b) := fa_or a b
theorem ob_and (a b : Nat) : nI a &&& nI b = nI (a &&& b) := fa_and a b
theorem ob_xor (a b : Nat) : nI a ^^^ nI b = nI (a ^^^ b) := fb_xorI a b
/-- the set of those below n with a property -/
def ob_m (f : Nat → Bool) : Nat → Nat
  | 0 => 0
  | n + 1 => if f n then ob_m f n ||| 2 ^ n else ob_m f n
theorem ob_m_bit (f : Nat → Bool) (j : Nat) : ∀ n, (ob_m f n).testBit j = (decide (j < n) && f j)
  | 0 => by simp [ob_m]
  | n + 1 => by
    unfold ob_m
    have ih := ob_m_bit f j n
    by_cases hf : f n = true
    · rw [if_pos hf, fb_bit_set, ih]
      by_cases hj : j = n
      · subst hj
        simp [hf]
      · have : decide (j < n + 1) = decide (j < n) := by congr 1; exact propext (by omega)
        rw [this]
        simp [hj]
    · rw [if_neg hf, ih]
      by_cases hj : j = n
      · subst hj
        have : f j = false := by simpa using hf
        simp [this]
      · have : decide (j < n + 1) = decide (j < n) := by congr 1; exact propext (by omega)
        rw [this]
theorem ob_lt {a n : Nat} (h : ∀ j, n ≤ j → a.testBit j = false) : a < 2 ^ n := Nat.lt_pow_two_of_testBit a h
theorem ob_hi {a n j : Nat} (h : a < 2 ^ n) (hj : n ≤ j) : a.testBit j = false := Nat.testBit_lt_two_pow (Nat.lt_of_lt_of_le h (Nat.pow_le_pow_right (by omega) hj))
theorem ob_m_lt (f : Nat → Bool) (n : Nat) : ob_m f n < 2 ^ n := ob_lt (fun j hj => by rw [ob_m_bit]; simp; omega)
theorem ob_m_le (f : Nat → Bool) {n m : Nat} (h : n ≤ m) : ob_m f n < 2 ^ m := Nat.lt_of_lt_of_le (ob_m_lt f n) (Nat.pow_le_pow_right (by omega) h)
theorem ob_ext {a b : Nat} (h : ∀ j, a.testBit j = b.testBit j) : a = b := Nat.eq_of_testBit_eq h
theorem ob_m_cong {f g : Nat → Bool} {n : Nat} (h : ∀ j, j < n → f j = g j) : ob_m f n = ob_m g n := ob_ext (fun j => by
  rw [ob_m_bit, ob_m_bit]
  by_cases hj : j < n
  · rw [h j hj]
  · simp [hj])
theorem ob_m_self {a n : Nat} (h : a < 2 ^ n) : ob_m (fun j => a.testBit j) n = a := ob_ext (fun j => by
  rw [ob_m_bit]
  by_cases hj : j < n
  · simp [hj]
  · simp [hj, ob_hi h (by omega : n ≤ j)])
-- longs
theorem ob_lbit {P k : Nat} (hP : P < 2 ^ 64) (hk : k < 64) : ((lN P).toUInt64 >>> ((nI k).toInt64.toUInt64 &&& Int64.toUInt64 63)).toInt64 &&& 1 = lN (P.testBit k).toNat := by
  rw [wb_bit hP hk, ob_mod2]
theorem ob_sbit {P k : Nat} (hk : k < 64) : (lN P >>> ((nI k).toInt64 &&& 63)) &&& 1 = lN ((P % 2 ^ 64).testBit k).toNat := by
  rw [wb_c k hk]
  apply wb_inj
  apply BitVec.eq_of_getLsbD_eq
  intro i hi
  rw [Int64.toBitVec_and, Int64.toBitVec_shiftRight, BitVec.getLsbD_and]
  show (((lN P).toBitVec.sshiftRight ((BitVec.ofNat 64 k).smod 64).toNat).getLsbD i && (BitVec.ofNat 64 1).getLsbD i) = (BitVec.ofNat 64 ((P % 2 ^ 64).testBit k).toNat).getLsbD i
  rw [wb_sm k hk]
  have hkn : (BitVec.ofNat 64 k).toNat = k := by rw [BitVec.toNat_ofNat]; exact Nat.mod_eq_of_lt (by omega)
  rw [hkn, BitVec.getLsbD_sshiftRight]
  rcases Nat.eq_zero_or_pos i with rfl | h0
  · have : (lN P).toBitVec.getLsbD k = (P % 2 ^ 64).testBit k := by
      show (BitVec.ofNat 64 P).getLsbD k = _
      rw [BitVec.getLsbD_ofNat, Nat.testBit_mod_two_pow]
    simp only [Nat.add_zero]
    rw [if_pos hk, this]
    cases (P % 2 ^ 64).testBit k <;> simp
  · have h1 : (BitVec.ofNat 64 1).getLsbD i = false := by
      rw [BitVec.getLsbD_ofNat]
      have : Nat.testBit 1 i = false := by
        exact ob_hi (n := 1) (by decide) (by omega)
      simp [this]
    have h2 : ∀ b : Bool, (BitVec.ofNat 64 b.toNat).getLsbD i = false := by
      intro b
      cases b
      · simp
      · exact h1
    rw [h1, h2, Bool.and_false]
theorem ob_lpow {k : Nat} (hk : k < 64) : (1 : Int64) <<< ((nI k).toInt64 &&& 63) = lN (2 ^ k) := by
  have := wb_shl 1 hk
  rw [Nat.one_mul] at this
  exact this
theorem ob_lor (a b : Nat) : lN a ||| lN b = lN (a ||| b) := fb_orL a b
theorem ob_land (a b : Nat) : lN a &&& lN b = lN (a &&& b) := fb_andL a b
theorem ob_lxor (a b : Nat) : lN a ^^^ lN b = lN (a ^^^ b) := fb_xorL a b
theorem ob_m1 : (-1 : Int64) = lN (2 ^ 64 - 1) := by decide +kernel
theorem ob_linj {a b : Nat} (ha : a < 2 ^ 64) (hb : b < 2 ^ 64) : lN a = lN b ↔ a = b := by
  constructor
  · intro h
    have := congrArg (fun x : Int64 => x.toBitVec.toNat) h
    simpa [wb_tn ha, wb_tn hb] using this
  · intro h; rw [h]
theorem ob_not {a : Nat} (ha : a < 2 ^ 64) : lN a ^^^ (-1) = lN (ob_m (fun j => !a.testBit j) 64) := by
  rw [ob_m1, ob_lxor]
  congr 1
  apply ob_ext
  intro j
  rw [Nat.testBit_xor, ob_m_bit, Nat.testBit_two_pow_sub_one]
  by_cases hj : j < 64
  · simp [hj]
  · simp [hj, ob_hi ha (by omega : 64 ≤ j)]
theorem ob_b1 (c : Bool) : lN c.toNat = 1 ↔ c = true := by cases c <;> decide
theorem ob_b0 (c : Bool) : lN c.toNat = 0 ↔ c = false := by cases c <;> decide
/-- how many below n -/
theorem ob_cnt_m (f : Nat → Bool) (n : Nat) : fb_ct (fun j => (ob_m f n).testBit j) n = fb_ct f n := fb_ct_cong (fun k hk => by rw [ob_m_bit]; simp [hk])

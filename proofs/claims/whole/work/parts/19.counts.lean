/-! COUNTS: the JDK's bitCount -/
def ob_bc (x : Int32) : Int32 :=
  let a := x - ((x.toUInt32 >>> ((1 : Int32).toUInt32 &&& Int32.toUInt32 31)).toInt32 &&& (1431655765 : Int32))
  let b := (a &&& (858993459 : Int32)) + ((a.toUInt32 >>> ((2 : Int32).toUInt32 &&& Int32.toUInt32 31)).toInt32 &&& (858993459 : Int32))
  let c := (b + (b.toUInt32 >>> ((4 : Int32).toUInt32 &&& Int32.toUInt32 31)).toInt32) &&& (252645135 : Int32)
  let e := c + (c.toUInt32 >>> ((8 : Int32).toUInt32 &&& Int32.toUInt32 31)).toInt32
  let f := e + (e.toUInt32 >>> ((16 : Int32).toUInt32 &&& Int32.toUInt32 31)).toInt32
  f &&& (63 : Int32)
def ob_bcL (x : Int64) : Int32 :=
  let a := x - ((x.toUInt64 >>> ((1 : Int32).toInt64.toUInt64 &&& Int64.toUInt64 63)).toInt64 &&& (6148914691236517205 : Int64))
  let b := (a &&& (3689348814741910323 : Int64)) + ((a.toUInt64 >>> ((2 : Int32).toInt64.toUInt64 &&& Int64.toUInt64 63)).toInt64 &&& (3689348814741910323 : Int64))
  let c := (b + (b.toUInt64 >>> ((4 : Int32).toInt64.toUInt64 &&& Int64.toUInt64 63)).toInt64) &&& (1085102592571150095 : Int64)
  let e := c + (c.toUInt64 >>> ((8 : Int32).toInt64.toUInt64 &&& Int64.toUInt64 63)).toInt64
  let f := e + (e.toUInt64 >>> ((16 : Int32).toInt64.toUInt64 &&& Int64.toUInt64 63)).toInt64
  let g := f + (f.toUInt64 >>> ((32 : Int32).toInt64.toUInt64 &&& Int64.toUInt64 63)).toInt64
  g.toInt32 &&& (127 : Int32)
/-- how many of the first n bits -/
def ob_ct (a n : Nat) : Nat := fb_ct (fun j => a.testBit j) n
theorem ob_bc_64 : ∀ a, a < 64 → ob_bc (nI a) = nI (ob_ct a 6) := by decide +kernel
theorem sJ6_bitCount {d : Nat} {K : Int32 → oh_St → Prop} {h : oh_St} {a : Nat} (ha : a < 64) (q : K (nI (ob_ct a 6)) h) : CM (d + 1) jJ6_bitCount_0f7a4 [.int (nI a)] h (oh_r1 K) := by
  refine mJ6_bitCount_0f7a4 ?_
  show K (ob_bc (nI a)) h
  rw [ob_bc_64 a ha]
  exact q
-- bytes
theorem ob_split (a c M : Nat) (hc : c < 256) : a &&& (c + 256 * M) = (a % 256 &&& c) + 256 * ((a / 256) &&& M) := by
  have h1 : (a % 256 &&& c) < 256 := Nat.lt_of_le_of_lt Nat.and_le_right hc
  have e1 : (a &&& (c + 256 * M)) % 2 ^ 8 = (a % 256 &&& c) := by
    rw [Nat.and_mod_two_pow]
    congr 1
    omega
  have e2 : (a &&& (c + 256 * M)) / 2 ^ 8 = (a / 256 &&& M) := by
    rw [← Nat.shiftRight_eq_div_pow, Nat.shiftRight_and_distrib, Nat.shiftRight_eq_div_pow, Nat.shiftRight_eq_div_pow]
    congr 1
    omega
  have := Nat.div_add_mod (a &&& (c + 256 * M)) (2 ^ 8)
  rw [e1, e2] at this
  omega
def ob_rep (c : Nat) : Nat → Nat
  | 0 => 0
  | k + 1 => c + 256 * ob_rep c k
def ob_p1 (k x : Nat) : Nat := x - ((x / 2) &&& ob_rep 85 k)
def ob_p2 (k x : Nat) : Nat := (x &&& ob_rep 51 k) + ((x / 4) &&& ob_rep 51 k)
def ob_p3 (k x : Nat) : Nat := (x + x / 16) &&& ob_rep 15 k
theorem ob_k1 : ∀ b, b < 256 → ∀ r, r < 2 → ((b / 2 + 128 * r) &&& 85) = (b / 2 &&& 85) := by decide +kernel
theorem ob_k2 : ∀ b, b < 256 → ∀ r, r < 4 → ((b / 4 + 64 * r) &&& 51) = (b / 4 &&& 51) := by decide +kernel
theorem ob_k3 : ∀ b, b < 69 → ∀ r, r < 5 → ((b + b / 16 + 16 * r) &&& 15) = ((b + b / 16) &&& 15) := by decide +kernel
def ob_b1f (b : Nat) : Nat := b - (b / 2 &&& 85)
def ob_b2f (b : Nat) : Nat := (b &&& 51) + (b / 4 &&& 51)
def ob_b3f (b : Nat) : Nat := (b + b / 16) &&& 15
theorem ob_s1 (k b y : Nat) (hb : b < 256) : ob_p1 (k + 1) (b + 256 * y) = ob_b1f b + 256 * ob_p1 k y := by
  unfold ob_p1 ob_b1f
  rw [show ob_rep 85 (k + 1) = 85 + 256 * ob_rep 85 k from rfl, ob_split _ _ _ (by omega)]
  have e1 : (b + 256 * y) / 2 % 256 = b / 2 + 128 * (y % 2) := by omega
  have e2 : (b + 256 * y) / 2 / 256 = y / 2 := by omega
  rw [e1, e2, ob_k1 b hb _ (by omega)]
  have l1 : (b / 2 &&& 85) ≤ b / 2 := Nat.and_le_left
  have l2 : (y / 2 &&& ob_rep 85 k) ≤ y / 2 := Nat.and_le_left
  omega
theorem ob_s2 (k b y : Nat) (hb : b < 256) : ob_p2 (k + 1) (b + 256 * y) = ob_b2f b + 256 * ob_p2 k y := by
  unfold ob_p2 ob_b2f
  rw [show ob_rep 51 (k + 1) = 51 + 256 * ob_rep 51 k from rfl, ob_split _ _ _ (by omega), ob_split _ _ _ (by omega)]
  have e1 : (b + 256 * y) / 4 % 256 = b / 4 + 64 * (y % 4) := by omega
  have e2 : (b + 256 * y) / 4 / 256 = y / 4 := by omega
  have e3 : (b + 256 * y) % 256 = b := by omega
  have e4 : (b + 256 * y) / 256 = y := by omega
  rw [e1, e2, e3, e4, ob_k2 b hb _ (by omega)]
  omega
theorem ob_s3 (k b y : Nat) (hb : b < 69) (hy : y % 16 < 5) : ob_p3 (k + 1) (b + 256 * y) = ob_b3f b + 256 * ob_p3 k y := by
  unfold ob_p3 ob_b3f
  rw [show ob_rep 15 (k + 1) = 15 + 256 * ob_rep 15 k from rfl, ob_split _ _ _ (by omega)]
  have e1 : (b + 256 * y + (b + 256 * y) / 16) % 256 = b + b / 16 + 16 * (y % 16) := by omega
  have e2 : (b + 256 * y + (b + 256 * y) / 16) / 256 = y + y / 16 := by omega
  rw [e1, e2, ob_k3 b hb _ hy]
theorem ob_byte : ∀ b, b < 256 → ob_b1f b < 256 ∧ ob_b2f (ob_b1f b) < 69 ∧ ob_b2f (ob_b1f b) % 16 < 5 ∧ ob_b3f (ob_b2f (ob_b1f b)) = ob_ct b 8 ∧ ob_ct b 8 ≤ 8 := by decide +kernel
theorem ob_s12 : ∀ (k x : Nat), x < 256 ^ k → ob_p2 k (ob_p1 k x) % 16 < 5
  | 0, x, h => by simp [ob_p2, ob_rep]
  | k + 1, x, h => by
    have hx : x = x % 256 + 256 * (x / 256) := by omega
    have hb : x % 256 < 256 := by omega
    obtain ⟨c1, c2, c3, -, -⟩ := ob_byte (x % 256) hb
    rw [hx, ob_s1 k _ _ hb, ob_s2 k _ _ c1]
    omega
/-- the bytes' counts in their places -/
def ob_cb : Nat → Nat → Nat
  | 0, _ => 0
  | k + 1, x => ob_ct (x % 256) 8 + 256 * ob_cb k (x / 256)
theorem ob_s123 : ∀ (k x : Nat), x < 256 ^ k → ob_p3 k (ob_p2 k (ob_p1 k x)) = ob_cb k x
  | 0, x, h => by simp [ob_p3, ob_rep, ob_cb]
  | k + 1, x, h => by
    have hb : x % 256 < 256 := by omega
    have hy : x / 256 < 256 ^ k := by rw [Nat.pow_succ] at h; exact Nat.div_lt_of_lt_mul (by omega)
    obtain ⟨c1, c2, c3, c4, -⟩ := ob_byte (x % 256) hb
    have e : ob_p3 (k + 1) (ob_p2 (k + 1) (ob_p1 (k + 1) (x % 256 + 256 * (x / 256)))) = ob_cb (k + 1) x := by
      rw [ob_s1 k _ _ hb, ob_s2 k _ _ c1, ob_s3 k _ _ c2 (ob_s12 k _ hy), ob_s123 k _ hy, c4]
      rfl
    rw [show x % 256 + 256 * (x / 256) = x by omega] at e
    exact e
theorem ob_ct_byte (x n : Nat) : ob_ct x (8 + n) = ob_ct (x % 256) 8 + ob_ct (x / 256) n := by
  unfold ob_ct
  rw [fb_ct_split]
  congr 1
  · apply fb_ct_cong
    intro k hk
    rw [show (256 : Nat) = 2 ^ 8 from rfl, Nat.testBit_mod_two_pow]
    simp [hk]
  · apply fb_ct_cong
    intro k hk
    rw [show (256 : Nat) = 2 ^ 8 from rfl, Nat.testBit_div_two_pow]
    congr 1
    omega
theorem ob_sum8 {x p0 p1 p2 p3 p4 p5 p6 p7 t1 t2 t3 t4 t5 t6 t7 : Nat} (h0 : p0 ≤ 8) (h1 : p1 ≤ 8) (h2 : p2 ≤ 8) (h3 : p3 ≤ 8) (h4 : p4 ≤ 8) (h5 : p5 ≤ 8) (h6 : p6 ≤ 8) (h7 : p7 ≤ 8) (e0 : x = p0 + 256 * t1) (e1 : t1 = p1 + 256 * t2) (e2 : t2 = p2 + 256 * t3) (e3 : t3 = p3 + 256 * t4) (e4 : t4 = p4 + 256 * t5) (e5 : t5 = p5 + 256 * t6) (e6 : t6 = p6 + 256 * t7) (e7 : t7 = p7) :
    (x + x / 256 + (x + x / 256) / 65536 + (x + x / 256 + (x + x / 256) / 65536) / 4294967296) % 128 = p0 + p1 + p2 + p3 + p4 + p5 + p6 + p7 := by
  have d1 : x / 256 = t1 := by clear e1 e2 e3 e4 e5 e6 e7; omega
  rw [d1]
  have f0 : x + t1 = (p0 + p1) + 256 * (t1 + t2) := by clear e2 e3 e4 e5 e6 e7 d1; omega
  have f1 : t1 + t2 = (p1 + p2) + 256 * (t2 + t3) := by clear e0 e3 e4 e5 e6 e7 d1 f0; omega
  have f2 : t2 + t3 = (p2 + p3) + 256 * (t3 + t4) := by clear e0 e1 e4 e5 e6 e7 d1 f0 f1; omega
  have f3 : t3 + t4 = (p3 + p4) + 256 * (t4 + t5) := by clear e0 e1 e2 e5 e6 e7 d1 f0 f1 f2; omega
  have f4 : t4 + t5 = (p4 + p5) + 256 * (t5 + t6) := by clear e0 e1 e2 e3 e6 e7 d1 f0 f1 f2 f3; omega
  have f5 : t5 + t6 = (p5 + p6) + 256 * (t6 + t7) := by clear e0 e1 e2 e3 e4 e7 d1 f0 f1 f2 f3 f4; omega
  have f6 : t6 + t7 = (p6 + p7) + 256 * p7 := by clear e0 e1 e2 e3 e4 e5 d1 f0 f1 f2 f3 f4 f5; omega
  clear e0 e1 e2 e3 e4 e5 e6 d1
  generalize x + t1 = u0 at *
  generalize t1 + t2 = u1 at *
  generalize t2 + t3 = u2 at *
  generalize t3 + t4 = u3 at *
  generalize t4 + t5 = u4 at *
  generalize t5 + t6 = u5 at *
  generalize t6 + t7 = u6 at *
  have d2 : u0 / 65536 = u2 := by clear f2 f3 f4 f5 f6 e7; omega
  rw [d2]
  have g0 : u0 + u2 = (p0 + p1 + p2 + p3) + 256 * (u1 + u3) := by clear f1 f3 f4 f5 f6 d2 e7; omega
  have g1 : u1 + u3 = (p1 + p2 + p3 + p4) + 256 * (u2 + u4) := by clear f0 f2 f4 f5 f6 d2 g0 e7; omega
  have g2 : u2 + u4 = (p2 + p3 + p4 + p5) + 256 * (u3 + u5) := by clear f0 f1 f3 f5 f6 d2 g0 g1 e7; omega
  have g3 : u3 + u5 = (p3 + p4 + p5 + p6) + 256 * (u4 + u6) := by clear f0 f1 f2 f4 f6 d2 g0 g1 g2 e7; omega
  have g4 : u4 + u6 = (p4 + p5 + p6 + p7) + 256 * (u5 + p7) := by clear f0 f1 f2 f3 f5 d2 g0 g1 g2 g3 e7; omega
  clear f0 f1 f2 f3 f4 f5 f6 d2 e7
  generalize u0 + u2 = z0 at *
  generalize u1 + u3 = z1 at *
  generalize u2 + u4 = z2 at *
  generalize u3 + u5 = z3 at *
  generalize u4 + u6 = z4 at *
  have d3 : z0 / 4294967296 = z4 := by clear g4; omega
  rw [d3]
  clear d3 g1 g2 g3
  omega
theorem ob_long {P : Nat} (hP : P < 2 ^ 64) : ob_bcL (lN P) = nI (ob_ct P 64) := by
  have r1 : ob_rep 85 8 = 6148914691236517205 := by decide +kernel
  have r2 : ob_rep 51 8 = 3689348814741910323 := by decide +kernel
  have r3 : ob_rep 15 8 = 1085102592571150095 := by decide +kernel
  have key := ob_s123 8 P (by rw [show (256 : Nat) ^ 8 = 2 ^ 64 from rfl]; exact hP)
  unfold ob_bcL
  have sh : ∀ {n k : Nat}, n < 2 ^ 64 → k < 64 → ((lN n).toUInt64 >>> ((nI k).toInt64.toUInt64 &&& Int64.toUInt64 63)).toInt64 = lN (n / 2 ^ k) := fun hn hk => wb_shr hn hk
  have q1 : (P / 2 &&& 6148914691236517205) ≤ P := Nat.le_trans Nat.and_le_left (by omega)
  have s1 : lN P - (((lN P).toUInt64 >>> ((1 : Int32).toInt64.toUInt64 &&& Int64.toUInt64 63)).toInt64 &&& (6148914691236517205 : Int64)) = lN (ob_p1 8 P) := by
    have e : ((lN P).toUInt64 >>> ((1 : Int32).toInt64.toUInt64 &&& Int64.toUInt64 63)).toInt64 = lN (P / 2) := sh (k := 1) hP (by omega)
    rw [e, show (6148914691236517205 : Int64) = lN 6148914691236517205 from rfl, ob_land, lN_sub q1]
    unfold ob_p1
    rw [r1]
  have l1 : ob_p1 8 P < 2 ^ 64 := Nat.lt_of_le_of_lt (Nat.sub_le _ _) hP
  generalize hA : ob_p1 8 P = A at s1 l1 key
  have s2 : (lN A &&& (3689348814741910323 : Int64)) + (((lN A).toUInt64 >>> ((2 : Int32).toInt64.toUInt64 &&& Int64.toUInt64 63)).toInt64 &&& (3689348814741910323 : Int64)) = lN (ob_p2 8 A) := by
    have e : ((lN A).toUInt64 >>> ((2 : Int32).toInt64.toUInt64 &&& Int64.toUInt64 63)).toInt64 = lN (A / 4) := sh (k := 2) l1 (by omega)
    rw [e, show (3689348814741910323 : Int64) = lN 3689348814741910323 from rfl, ob_land, ob_land, lN_add]
    unfold ob_p2
    rw [r2]
  have l2 : ob_p2 8 A < 2 ^ 63 := by
    unfold ob_p2
    rw [r2]
    have a1 : (A &&& 3689348814741910323) ≤ 3689348814741910323 := Nat.and_le_right
    have a2 : (A / 4 &&& 3689348814741910323) ≤ 3689348814741910323 := Nat.and_le_right
    omega
  generalize hB : ob_p2 8 A = B at s2 l2 key
  have s3 : (lN B + ((lN B).toUInt64 >>> ((4 : Int32).toInt64.toUInt64 &&& Int64.toUInt64 63)).toInt64) &&& (1085102592571150095 : Int64) = lN (ob_p3 8 B) := by
    have e : ((lN B).toUInt64 >>> ((4 : Int32).toInt64.toUInt64 &&& Int64.toUInt64 63)).toInt64 = lN (B / 16) := sh (k := 4) (by omega) (by omega)
    rw [e, show (1085102592571150095 : Int64) = lN 1085102592571150095 from rfl, lN_add, ob_land]
    unfold ob_p3
    rw [r3]
  rw [key] at s3
  have l3 : ob_cb 8 P < 2 ^ 60 := by
    have : ob_cb 8 P = ob_p3 8 B := key.symm
    rw [this]
    unfold ob_p3
    rw [r3]
    have : ((B + B / 16) &&& 1085102592571150095) ≤ 1085102592571150095 := Nat.and_le_right
    omega
  have fin : (let C := ob_cb 8 P; (C + C / 256 + (C + C / 256) / 65536 + (C + C / 256 + (C + C / 256) / 65536) / 4294967296) % 128) = ob_ct P 64 := by
    have b : ∀ y, ob_ct (y % 256) 8 ≤ 8 := fun y => (ob_byte (y % 256) (by omega)).2.2.2.2
    have := ob_sum8 (b P) (b (P / 256)) (b (P / 256 / 256)) (b (P / 256 / 256 / 256)) (b (P / 256 / 256 / 256 / 256)) (b (P / 256 / 256 / 256 / 256 / 256)) (b (P / 256 / 256 / 256 / 256 / 256 / 256)) (b (P / 256 / 256 / 256 / 256 / 256 / 256 / 256)) (show ob_cb 8 P = _ from rfl) rfl rfl rfl rfl rfl rfl (show ob_cb 1 _ = _ by simp [ob_cb])
    dsimp only
    rw [this, show (64 : Nat) = 8 + (8 + (8 + (8 + (8 + (8 + (8 + (8 + 0))))))) from rfl]
    simp only [ob_ct_byte]
    have z : ∀ y, ob_ct y 0 = 0 := fun y => rfl
    rw [z]
    omega
  generalize hC : ob_cb 8 P = C at s3 l3 fin
  dsimp only at fin ⊢
  rw [s1, s2, s3]
  have e8 : ((lN C).toUInt64 >>> ((8 : Int32).toInt64.toUInt64 &&& Int64.toUInt64 63)).toInt64 = lN (C / 256) := sh (k := 8) (by omega) (by omega)
  rw [e8, lN_add]
  have e16 : ((lN (C + C / 256)).toUInt64 >>> ((16 : Int32).toInt64.toUInt64 &&& Int64.toUInt64 63)).toInt64 = lN ((C + C / 256) / 65536) := sh (k := 16) (by omega) (by omega)
  rw [e16, lN_add]
  have e32 : ((lN (C + C / 256 + (C + C / 256) / 65536)).toUInt64 >>> ((32 : Int32).toInt64.toUInt64 &&& Int64.toUInt64 63)).toInt64 = lN ((C + C / 256 + (C + C / 256) / 65536) / 4294967296) := sh (k := 32) (by omega) (by omega)
  rw [e32, lN_add, lN_i]
  have m7 := fa_mask (C + C / 256 + (C + C / 256) / 65536 + (C + C / 256 + (C + C / 256) / 65536) / 4294967296) 7
  rw [show nI (2 ^ 7 - 1) = (127 : Int32) from rfl] at m7
  rw [m7, show (2 : Nat) ^ 7 = 128 from rfl, fin]
theorem sJ13_bitCount {d : Nat} {K : Int32 → oh_St → Prop} {h : oh_St} {P : Nat} (hP : P < 2 ^ 64) (q : K (nI (ob_ct P 64)) h) : CM (d + 1) jJ13_bitCount_95d88 [.long (lN P)] h (oh_r1 K) := by
  refine mJ13_bitCount_95d88 ?_
  show K (ob_bcL (lN P)) h
  rw [ob_long hP]
  exact q

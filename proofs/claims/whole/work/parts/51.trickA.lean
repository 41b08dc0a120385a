/-! BOTH SIDES: trick, longest -/
def tgF (o : Option (Nat × Nat)) : Nat := match o with
  | none => 7
  | some r => r.2
def tgW (o : Option (Nat × Nat)) : Nat := match o with
  | none => 0
  | some r => r.1
def tgB (o : Option (Nat × Nat)) : Int32 := match o with
  | none => -1
  | some r => nI r.1
def tgL (o : Option (Nat × Nat)) : Nat := match o with
  | none => 0
  | some r => r.2
theorem tf_step {P : Nat} {v : Nat → Nat} {w : Nat} (hv : ∀ w, v w ≤ 6) (hw : P.testBit w = true) : tf P v (w + 1) = if v w < tgF (tf P v w) then some (w, v w) else tf P v w := by
  have := hv w
  rw [tf, if_pos hw]
  cases tf P v w with
  | none =>
    exact (if_pos (show v w < 7 by omega)).symm
  | some r => rfl
theorem tf_some {P n : Nat} {v : Nat → Nat} (h0 : ¬ P = 0) (hP : P < 2 ^ n) : ∃ r, tf P v n = some r := by
  cases h : tf P v n with
  | some r => exact ⟨r, rfl⟩
  | none =>
    exfalso
    apply h0
    apply ob_ext
    intro j
    rw [Nat.zero_testBit]
    by_cases hj : j < n
    · exact (tf_min n).2 h j hj
    · exact ob_hi hP (by omega)
theorem saved_s {k k1 k2 : oh_St} (sv : saved k k1) (s : oSame k1 k2 [1]) : saved k k2 := ⟨fun b hb => (s.1 2 b (by simp)).trans (sv.1 b hb), by rw [s.2]; exact sv.2.1, kF_tr sv.2.2 ⟨fun a b x => s.1 a b (by simp; omega), by rw [s.2]⟩⟩
theorem sX7_ranAlike {d P : Nat} {K : Int64 → oh_St → Prop} {h : oh_St} (e : h.2 37 8 = lN P) (q : K (lN P) h) : CM (d + 1) jX7_ranAlike [.ref 0] h (oh_r2 K) := by
  refine mX7_ranAlike ?_
  rw [e]
  exact q
theorem vQ_6 (fi : Int32) (c : List Nat) (x : oI) (n w : Nat) : vQ fi c x n w ≤ 6 := ob_ct6 _

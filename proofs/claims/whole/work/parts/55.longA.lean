/-- the greatest -/
def mxF (P : Nat) (v : Nat → Nat) : Nat → Nat
  | 0 => 0
  | w + 1 => if P.testBit w then (if mxF P v w < v w then v w else mxF P v w) else mxF P v w
theorem mxF_ge {P : Nat} {v : Nat → Nat} : ∀ w x, x < w → P.testBit x = true → v x ≤ mxF P v w
  | 0, x, h, _ => absurd h (by omega)
  | w + 1, x, h, hP => by
    unfold mxF
    by_cases e : x = w
    · subst e
      rw [if_pos hP]
      split <;> omega
    · have := mxF_ge (P := P) (v := v) w x (by omega) hP
      split
      · split <;> omega
      · exact this
theorem mxF_le {P b : Nat} {v : Nat → Nat} (hv : ∀ w, v w ≤ b) : ∀ w, mxF P v w ≤ b
  | 0 => Nat.zero_le _
  | w + 1 => by
    have := mxF_le (P := P) hv w
    have := hv w
    unfold mxF
    split
    · split <;> omega
    · omega
theorem mxF_skip {P : Nat} {v : Nat → Nat} {L w : Nat} (h : lfI P v L w) (hL : L.testBit w = false) : mxF P v (w + 1) = mxF P v w := by
  rw [mxF]
  by_cases c : P.testBit w = true
  · rw [if_pos c]
    obtain ⟨x, a, b, e⟩ := h.2.2 w (Nat.le_refl w) c hL
    have := mxF_ge (v := v) w x a b
    rw [if_neg (by omega)]
  · rw [if_neg c]

/-! TEXTS: reading one, as a mathematical value: (it is there, where reading stopped, code) -/
def nb (t : List Nat) (a : Nat) : Nat := t.getD a 999
def pcI (t : List Nat) (a : Nat) : Int32 := if a < t.length then nI (nb t a) else -1
theorem nb_in {t : List Nat} (ht : ∀ x ∈ t, x < 256) {a : Nat} (h : a < t.length) : nb t a < 256 := by
  unfold nb
  rw [List.getD, List.getElem?_eq_getElem h]
  exact ht _ (List.getElem_mem h)
theorem nb_out {t : List Nat} {a : Nat} (h : t.length ≤ a) : nb t a = 999 := by
  unfold nb
  rw [List.getD, List.getElem?_eq_none h]
  rfl
theorem nb_lt {t : List Nat} {a : Nat} (h : nb t a < 256) : a < t.length := by
  rcases Nat.lt_or_ge a t.length with z | z
  · exact z
  · rw [nb_out z] at h
    omega
theorem pcI_eq {t : List Nat} (ht : ∀ x ∈ t, x < 256) {a c : Nat} (hc : c < 256) : pcI t a = nI c ↔ nb t a = c := by
  unfold pcI
  by_cases h : a < t.length
  · rw [if_pos h]
    have := nb_in ht h
    exact nI_eq (by omega) (by omega)
  · rw [if_neg h, nb_out (by omega)]
    constructor
    · intro z
      exact absurd (show (-1 : Int32) < 0 by decide) (by rw [z]; exact nI_pos (by omega))
    · intro z; omega
abbrev pR : Type := Bool × Nat × List Nat
def isS (lv c : Nat) : Bool := if lv = 0 then c == 124 else if lv = 1 then c == 38 else if lv = 2 then (c == 60 || c == 61 || c == 62) else if lv = 3 then (c == 43 || c == 45) else if lv = 4 then (c == 42 || c == 47 || c == 37) else false
def isD (c : Nat) : Bool := decide (48 ≤ c) && decide (c ≤ 57)
def nmOf (use c : Nat) : Option Nat := if use = 0 then (if c = 98 then some 0 else if c = 110 then some 1 else if c = 102 then some 2 else if c = 108 then some 3 else none) else (if c = 104 then some 0 else if c = 116 then some 1 else if c = 99 then some 2 else none)
def pDig (t : List Nat) : Nat → Nat → Nat → Nat × Nat
  | 0, a, v => (a, v)
  | f + 1, a, v => if isD (nb t a) then pDig t f (a + 1) (10 * v + nb t a - 48) else (a, v)
def pLoop (t : List Nat) (sub : Nat → pR) (lv : Nat) : Nat → Nat → pR
  | 0, a => (true, a, [])
  | f + 1, a => if isS lv (nb t a) then
      (if (sub (a + 1)).1 then ((pLoop t sub lv f (sub (a + 1)).2.1).1, (pLoop t sub lv f (sub (a + 1)).2.1).2.1, (sub (a + 1)).2.2 ++ ((10000 + nb t a) :: (pLoop t sub lv f (sub (a + 1)).2.1).2.2))
      else sub (a + 1))
    else (true, a, [])
def pMost (lv : Nat) : Nat := if lv = 2 then 1 else 50
def pLev (t : List Nat) (u : Nat → pR) : Nat → Nat → pR
  | 0, a => u a
  | j + 1, a => if (pLev t u j a).1 then ((pLoop t (pLev t u j) (4 - j) (pMost (4 - j)) (pLev t u j a).2.1).1, (pLoop t (pLev t u j) (4 - j) (pMost (4 - j)) (pLev t u j a).2.1).2.1, (pLev t u j a).2.2 ++ (pLoop t (pLev t u j) (4 - j) (pMost (4 - j)) (pLev t u j a).2.1).2.2) else pLev t u j a
/-- behind an opening bracket -/
def pIn (t : List Nat) (f : Nat → pR) (a : Nat) : pR := if (f a).1 then (if nb t (f a).2.1 = 41 then (true, (f a).2.1 + 1, (f a).2.2) else (false, (f a).2.1, (f a).2.2)) else f a
def pNo (f : Nat → pR) (a : Nat) : pR := ((f a).1, (f a).2.1, (f a).2.2 ++ [10033])
def pUn (t : List Nat) (use : Nat) : Nat → Nat → pR
  | 0, a => if isD (nb t a) then (true, (pDig t 4 a 0).1, [(pDig t 4 a 0).2]) else if nb t a = 33 then (false, a, []) else if nb t a = 40 then (false, a, []) else match nmOf use (nb t a) with
    | some k => (true, a + 1, [20000 + k])
    | none => (false, a, [])
  | r + 1, a => if isD (nb t a) then (true, (pDig t 4 a 0).1, [(pDig t 4 a 0).2]) else if nb t a = 33 then pNo (pUn t use r) (a + 1) else if nb t a = 40 then pIn t (pLev t (pUn t use r) 5) (a + 1) else match nmOf use (nb t a) with
    | some k => (true, a + 1, [20000 + k])
    | none => (false, a, [])
/-- how far it goes, how much code -/
def pGd (t : List Nat) (f : Nat → pR) : Prop := ∀ a, a ≤ t.length → a ≤ (f a).2.1 ∧ (f a).2.1 ≤ t.length ∧ (f a).2.2.length + a ≤ (f a).2.1 ∧ ((f a).1 = true → a < (f a).2.1) ∧ ∀ x ∈ (f a).2.2, x < 20004
theorem isD_in {t : List Nat} {a : Nat} (h : isD (nb t a) = true) : a < t.length := by
  unfold isD at h
  simp at h
  exact nb_lt (by omega)
theorem isS_in {lv c : Nat} (h : isS lv c = true) : c < 256 ∧ ¬ c = 33 := by
  unfold isS at h
  split at h
  · simp at h; omega
  · split at h
    · simp at h; omega
    · split at h
      · simp at h; omega
      · split at h
        · simp at h; omega
        · split at h
          · simp at h; omega
          · cases h
theorem nmOf_in {use c k : Nat} (h : nmOf use c = some k) : c < 256 ∧ k < 4 := by
  unfold nmOf at h
  split at h
  · split at h
    · cases h; omega
    · split at h
      · cases h; omega
      · split at h
        · cases h; omega
        · split at h
          · cases h; omega
          · cases h
  · split at h
    · cases h; omega
    · split at h
      · cases h; omega
      · split at h
        · cases h; omega
        · cases h
theorem pDig_at (t : List Nat) : ∀ f a v, a ≤ t.length → a ≤ (pDig t f a v).1 ∧ (pDig t f a v).1 ≤ t.length
  | 0, a, v, h => ⟨Nat.le_refl _, h⟩
  | f + 1, a, v, h => by
    unfold pDig
    by_cases c : isD (nb t a) = true
    · rw [if_pos c]
      have := pDig_at t f (a + 1) (10 * v + nb t a - 48) (isD_in c)
      omega
    · rw [if_neg c]
      exact ⟨Nat.le_refl _, h⟩
theorem pDig_v (t : List Nat) : ∀ f a v m, v < 10 ^ m → (pDig t f a v).2 < 10 ^ (m + f)
  | 0, a, v, m, h => h
  | f + 1, a, v, m, h => by
    unfold pDig
    by_cases c : isD (nb t a) = true
    · rw [if_pos c]
      have := pDig_v t f (a + 1) (10 * v + nb t a - 48) (m + 1) (by
        unfold isD at c
        simp at c
        rw [Nat.pow_succ]
        omega)
      rw [show m + (f + 1) = m + 1 + f by omega]
      exact this
    · rw [if_neg c]
      exact Nat.lt_of_lt_of_le h (Nat.pow_le_pow_right (by omega) (by omega))
theorem pDig_pos (t : List Nat) {a : Nat} (c : isD (nb t a) = true) : a < (pDig t 4 a 0).1 := by
  have := (pDig_at t 3 (a + 1) (10 * 0 + nb t a - 48) (isD_in c)).1
  have e : pDig t 4 a 0 = pDig t 3 (a + 1) (10 * 0 + nb t a - 48) := by
    conv => lhs; unfold pDig
    rw [if_pos c]
  rw [e]
  omega
theorem pLoop_gd {t : List Nat} {sub : Nat → pR} {lv : Nat} (hs : pGd t sub) : ∀ f a, a ≤ t.length → a ≤ (pLoop t sub lv f a).2.1 ∧ (pLoop t sub lv f a).2.1 ≤ t.length ∧ (pLoop t sub lv f a).2.2.length + a ≤ (pLoop t sub lv f a).2.1 ∧ ∀ x ∈ (pLoop t sub lv f a).2.2, x < 20004
  | 0, a, h => ⟨Nat.le_refl _, h, by simp [pLoop], by simp [pLoop]⟩
  | f + 1, a, h => by
    unfold pLoop
    by_cases c : isS lv (nb t a) = true
    · rw [if_pos c]
      have hc := (isS_in c).1
      have ha := nb_lt hc
      obtain ⟨g1, g2, g3, g4, g5⟩ := hs (a + 1) ha
      by_cases c2 : (sub (a + 1)).1 = true
      · rw [if_pos c2]
        obtain ⟨k1, k2, k3, k4⟩ := pLoop_gd (lv := lv) hs f _ g2
        have g4 := g4 c2
        try dsimp only
        refine ⟨by omega, k2, ?_, ?_⟩
        · simp only [List.length_append, List.length_cons]
          omega
        · intro x hx
          simp only [List.mem_append, List.mem_cons] at hx
          rcases hx with hx | hx | hx
          · exact g5 x hx
          · omega
          · exact k4 x hx
      · rw [if_neg c2]
        try dsimp only
        exact ⟨by omega, g2, by omega, g5⟩
    · rw [if_neg c]
      try dsimp only
      exact ⟨Nat.le_refl _, h, by simp, by simp⟩
theorem pLev_gd {t : List Nat} {u : Nat → pR} (hu : pGd t u) : ∀ j, pGd t (pLev t u j)
  | 0 => hu
  | j + 1 => by
    intro a h
    obtain ⟨g1, g2, g3, g4, g5⟩ := pLev_gd hu j a h
    unfold pLev
    by_cases c : (pLev t u j a).1 = true
    · rw [if_pos c]
      obtain ⟨k1, k2, k3, k4⟩ := pLoop_gd (lv := 4 - j) (pLev_gd hu j) (pMost (4 - j)) _ g2
      have g4 := g4 c
      try dsimp only
      refine ⟨by omega, k2, ?_, fun _ => by omega, ?_⟩
      · simp only [List.length_append]
        omega
      · intro x hx
        simp only [List.mem_append] at hx
        rcases hx with hx | hx
        · exact g5 x hx
        · exact k4 x hx
    · rw [if_neg c]
      exact ⟨g1, g2, g3, g4, g5⟩
theorem pUn_gd (t : List Nat) (use : Nat) : ∀ r, pGd t (pUn t use r)
  | 0 => by
    intro a h
    unfold pUn
    by_cases c : isD (nb t a) = true
    · rw [if_pos c]
      have h1 := pDig_at t 4 a 0 h
      have h2 := pDig_pos t c
      have h3 := pDig_v t 4 a 0 0 (by omega)
      try dsimp only
      refine ⟨h1.1, h1.2, by simp; omega, fun _ => h2, ?_⟩
      intro x hx
      simp at hx
      omega
    · rw [if_neg c]
      by_cases c1 : nb t a = 33
      · rw [if_pos c1]
        try dsimp only
        exact ⟨Nat.le_refl _, h, by simp, (fun z => absurd z (by simp)), by simp⟩
      · rw [if_neg c1]
        by_cases c2 : nb t a = 40
        · rw [if_pos c2]
          try dsimp only
          exact ⟨Nat.le_refl _, h, by simp, (fun z => absurd z (by simp)), by simp⟩
        · rw [if_neg c2]
          cases hn : nmOf use (nb t a) with
          | none => try dsimp only
                    exact ⟨Nat.le_refl _, h, by simp, (fun z => absurd z (by simp)), by simp⟩
          | some k =>
            have := nmOf_in hn
            have ha := nb_lt this.1
            try dsimp only
            exact ⟨by simp, ha, by simp; omega, fun _ => by simp, fun x hx => by simp at hx; omega⟩
  | r + 1 => by
    intro a h
    unfold pUn
    by_cases c : isD (nb t a) = true
    · rw [if_pos c]
      have h1 := pDig_at t 4 a 0 h
      have h2 := pDig_pos t c
      have h3 := pDig_v t 4 a 0 0 (by omega)
      try dsimp only
      refine ⟨h1.1, h1.2, by simp; omega, fun _ => h2, ?_⟩
      intro x hx
      simp at hx
      omega
    · rw [if_neg c]
      by_cases c1 : nb t a = 33
      · rw [if_pos c1]
        have ha := nb_lt (t := t) (a := a) (by omega)
        obtain ⟨g1, g2, g3, g4, g5⟩ := pUn_gd t use r (a + 1) ha
        unfold pNo
        try dsimp only
        refine ⟨by omega, g2, ?_, fun z => by omega, ?_⟩
        · simp only [List.length_append, List.length_singleton]
          omega
        · intro x hx
          simp only [List.mem_append, List.mem_singleton] at hx
          rcases hx with hx | hx
          · exact g5 x hx
          · omega
      · rw [if_neg c1]
        by_cases c2 : nb t a = 40
        · rw [if_pos c2]
          have ha := nb_lt (t := t) (a := a) (by omega)
          obtain ⟨g1, g2, g3, g4, g5⟩ := pLev_gd (pUn_gd t use r) 5 (a + 1) ha
          unfold pIn
          by_cases c3 : (pLev t (pUn t use r) 5 (a + 1)).1 = true
          · rw [if_pos c3]
            by_cases c4 : nb t (pLev t (pUn t use r) 5 (a + 1)).2.1 = 41
            · rw [if_pos c4]
              have hb := nb_lt (t := t) (a := (pLev t (pUn t use r) 5 (a + 1)).2.1) (by omega)
              try dsimp only
              exact ⟨by omega, hb, by omega, fun _ => by omega, g5⟩
            · rw [if_neg c4]
              try dsimp only
              exact ⟨by omega, g2, by omega, (fun z => absurd z (by simp)), g5⟩
          · rw [if_neg c3]
            try dsimp only
            exact ⟨by omega, g2, by omega, fun z => absurd z c3, g5⟩
        · rw [if_neg c2]
          cases hn : nmOf use (nb t a) with
          | none => try dsimp only
                    exact ⟨Nat.le_refl _, h, by simp, (fun z => absurd z (by simp)), by simp⟩
          | some k =>
            have := nmOf_in hn
            have ha := nb_lt this.1
            try dsimp only
            exact ⟨by simp, ha, by simp; omega, fun _ => by simp, fun x hx => by simp at hx; omega⟩
/-- a whole text: its fault, its code -/
def pTx (t : List Nat) (use : Nat) : pR := pLev t (pUn t use 5) 5 0
def pOk (t : List Nat) (use : Nat) : Bool := (pTx t use).1 && decide ((pTx t use).2.1 = t.length)

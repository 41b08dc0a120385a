/-! VOICES: the class's bodies -/
theorem cVS_fr {n m x : Int32} {K d k act dep b : Nat} {r : vR} (hk : k < 7) (ha : act < 4) (hd : dep ≤ 12) (e : bdB k act = b) (H : cVS jX6_workedOut [.int (nI b), .int x, .int (nI (dep + 1))] n m K (d + 1) r) : cVS jX6_from [.int (nI k), .int (nI act), .int x, .int (nI dep)] n m K (d + 2) (r.1, nI b :: r.2) := by
  subst e
  exact cVS_from hk ha hd H
theorem cV_nil {h : oh_St} {L : List Int32} {K : Nat} {n m : Int32} (c : cV h L K n m) : cV h (L ++ []) K n m := by rw [List.append_nil]; exact c
theorem cV_2 {h : oh_St} {L A B : List Int32} {K : Nat} {n m : Int32} (c : cV h ((L ++ A) ++ B) K n m) : cV h (L ++ (A ++ B)) K n m := by rw [← List.append_assoc]; exact c
theorem len_2 {L A B : List Int32} (h : L.length + (A ++ B).length ≤ 40) : L.length + A.length ≤ 40 ∧ (L ++ A).length + B.length ≤ 40 := by
  rw [List.length_append] at h
  rw [List.length_append]
  omega
section
variable {n m x dep : Int32} {K d : Nat} {r r2 : vR}
theorem w10 : cVS jX6_workedOut [.int (nI 10), .int x, .int dep] n m K (d + 1) (x + n, []) := by
  intro Q h L hl c q
  have t := q h (cV_nil c) (cVF_rf h)
  refine mX6_workedOut (br_t rfl ?_)
  rw [c.2.2.1]
  exact t
theorem w11 (H : cVS jX6_own [.int 0, .int x, .int dep] n m K d r) : cVS jX6_workedOut [.int (nI 11), .int x, .int dep] n m K (d + 1) (r.1 * 2, r.2) := by
  intro Q h L hl c q
  exact mX6_workedOut (br_f (by decide) (br_t rfl (H _ h L hl c (fun h' c' f' => q h' c' f'))))
theorem w12 : cVS jX6_workedOut [.int (nI 12), .int x, .int dep] n m K (d + 1) (x - m, []) := by
  intro Q h L hl c q
  have t := q h (cV_nil c) (cVF_rf h)
  refine mX6_workedOut (br_f (by decide) (br_f (by decide) (br_t rfl ?_)))
  rw [c.2.2.2]
  exact t
theorem w13 (H : cVS jX6_own [.int 1, .int x, .int dep] n m K d r) (H2 : cVS jX6_own [.int 2, .int x, .int dep] n m K d r2) : cVS jX6_workedOut [.int (nI 13), .int x, .int dep] n m K (d + 1) (r.1 ^^^ r2.1, r.2 ++ r2.2) := by
  intro Q h L hl c q
  have l := len_2 hl
  exact mX6_workedOut (br_f (by decide) (br_f (by decide) (br_f (by decide) (br_t rfl (H _ h L l.1 c (fun h1 c1 f1 => H2 _ h1 _ l.2 c1 (fun h2 c2 f2 => q h2 (cV_2 c2) (cVF_tr f1 f2))))))))
theorem ab_1 : oh_l1000.getD (1 : Int32).toNatClampNeg 0 = nI 0 := by decide +kernel
theorem ab_2 : oh_l1000.getD (2 : Int32).toNatClampNeg 0 = nI 0 := by decide +kernel
theorem ab_3 : oh_l1000.getD (3 : Int32).toNatClampNeg 0 = nI 0 := by decide +kernel
theorem ab_4 : oh_l1000.getD (4 : Int32).toNatClampNeg 0 = nI 1 := by decide +kernel
theorem ab_5 : oh_l1000.getD (5 : Int32).toNatClampNeg 0 = nI 2 := by decide +kernel
theorem ab_6 : oh_l1000.getD (6 : Int32).toNatClampNeg 0 = nI 3 := by decide +kernel
theorem w20 (H : cVS jX6_from [.int (nI 0), .int 1, .int x, .int dep] n m K d r) (H2 : cVS jX6_own [.int 2, .int 1, .int dep] n m K d r2) : cVS jX6_workedOut [.int (nI 20), .int x, .int dep] n m K (d + 1) (r.1 - r2.1, r.2 ++ r2.2) := by
  intro Q h L hl c q
  have l := len_2 hl
  refine mX6_workedOut (br_f (by decide) (br_f (by decide) (br_f (by decide) (br_f (by decide) (br_t rfl ⟨oh_in (i := 1) (by omega) (by omega), ?_⟩)))))
  rw [ab_1]
  exact H _ h L l.1 c (fun h1 c1 f1 => H2 _ h1 _ l.2 c1 (fun h2 c2 f2 => q h2 (cV_2 c2) (cVF_tr f1 f2)))
theorem w30 (H : cVS jX6_from [.int (nI 0), .int 0, .int x, .int dep] n m K d r) : cVS jX6_workedOut [.int (nI 30), .int x, .int dep] n m K (d + 1) (r.1 * 3, r.2) := by
  intro Q h L hl c q
  refine mX6_workedOut (br_f (by decide) (br_f (by decide) (br_f (by decide) (br_f (by decide) (br_f (by decide) (br_t rfl ⟨oh_in (i := 2) (by omega) (by omega), ?_⟩))))))
  rw [ab_2]
  exact H _ h L hl c (fun h' c' f' => q h' c' f')
theorem w40 (H : cVS jX6_from [.int (nI 0), .int 2, .int x, .int dep] n m K d r) : cVS jX6_workedOut [.int (nI 40), .int x, .int dep] n m K (d + 1) (-r.1, r.2) := by
  intro Q h L hl c q
  refine mX6_workedOut (br_f (by decide) (br_f (by decide) (br_f (by decide) (br_f (by decide) (br_f (by decide) (br_f (by decide) (br_t rfl ⟨oh_in (i := 3) (by omega) (by omega), ?_⟩)))))))
  rw [ab_3]
  exact H _ h L hl c (fun h' c' f' => q h' c' f')
theorem w50 (H : cVS jX6_from [.int (nI 1), .int 1, .int (x + 1), .int dep] n m K d r) : cVS jX6_workedOut [.int (nI 50), .int x, .int dep] n m K (d + 1) (r.1, r.2) := by
  intro Q h L hl c q
  refine mX6_workedOut (br_f (by decide) (br_f (by decide) (br_f (by decide) (br_f (by decide) (br_f (by decide) (br_f (by decide) (br_f (by decide) (br_t rfl ⟨oh_in (i := 4) (by omega) (by omega), ?_⟩))))))))
  rw [ab_4]
  exact H _ h L hl c (fun h' c' f' => q h' c' f')
theorem w60 (H : cVS jX6_from [.int (nI 2), .int 3, .int x, .int dep] n m K d r) (H2 : cVS jX6_own [.int 0, .int 2, .int dep] n m K d r2) : cVS jX6_workedOut [.int (nI 60), .int x, .int dep] n m K (d + 1) (r.1 - r2.1, r.2 ++ r2.2) := by
  intro Q h L hl c q
  have l := len_2 hl
  refine mX6_workedOut (br_f (by decide) (br_f (by decide) (br_f (by decide) (br_f (by decide) (br_f (by decide) (br_f (by decide) (br_f (by decide) (br_f (by decide) (br_t rfl ⟨oh_in (i := 5) (by omega) (by omega), ?_⟩)))))))))
  rw [ab_5]
  exact H _ h L l.1 c (fun h1 c1 f1 => H2 _ h1 _ l.2 c1 (fun h2 c2 f2 => q h2 (cV_2 c2) (cVF_tr f1 f2)))
theorem w70 (H : cVS jX6_from [.int (nI 3), .int 2, .int x, .int dep] n m K d r) : cVS jX6_workedOut [.int (nI 70), .int x, .int dep] n m K (d + 1) (r.1 ^^^ n, r.2) := by
  intro Q h L hl c q
  refine mX6_workedOut (br_f (by decide) (br_f (by decide) (br_f (by decide) (br_f (by decide) (br_f (by decide) (br_f (by decide) (br_f (by decide) (br_f (by decide) (br_f (by decide) (br_t rfl ⟨oh_in (i := 6) (by omega) (by omega), ?_⟩))))))))))
  rw [ab_6]
  refine H _ h L hl c (fun h' c' f' => ?_)
  have t := q h' c' f'
  rw [c'.2.2.1]
  exact t
theorem w71 (H : cVS jX6_own [.int 1, .int x, .int dep] n m K d r) (H2 : cVS jX6_from [.int (nI 3), .int 3, .int x, .int dep] n m K d r2) : cVS jX6_workedOut [.int (nI 71), .int x, .int dep] n m K (d + 1) (r.1 - r2.1, r.2 ++ r2.2) := by
  intro Q h L hl c q
  have l := len_2 hl
  refine mX6_workedOut (br_f (by decide) (br_f (by decide) (br_f (by decide) (br_f (by decide) (br_f (by decide) (br_f (by decide) (br_f (by decide) (br_f (by decide) (br_f (by decide) (br_f (by decide) (br_t rfl ?_)))))))))))
  refine H _ h L l.1 c (fun h1 c1 f1 => ⟨oh_in (i := 6) (by omega) (by omega), ?_⟩)
  rw [ab_6]
  exact H2 _ h1 _ l.2 c1 (fun h2 c2 f2 => q h2 (cV_2 c2) (cVF_tr f1 f2))
end
section
variable {n m : Int32} {K d : Nat}
theorem bd_lk : ∀ k, k < 7 → bdB k 0 = if k = 2 ∨ k = 5 then 30 else 10 := by decide +kernel
theorem bd_sa : ∀ k, k < 7 → bdB k 2 = if k = 3 then 40 else if k = 6 then 70 else 12 := by decide +kernel
theorem bd_th : ∀ k, k < 7 → bdB k 1 = if k = 1 then 20 else if k = 4 then 50 else 11 := by decide +kernel
theorem bd_te : ∀ k, k < 7 → bdB k 3 = if k = 5 then 60 else if k = 6 then 71 else 13 := by decide +kernel
theorem c_lk0 {x : Int32} {dep k : Nat} (hk : k < 7) (c : ¬ (k = 2 ∨ k = 5)) (hd : dep ≤ 12) : cVS jX6_from [.int (nI k), .int (nI 0), .int x, .int (nI dep)] n m K (d + 2) (x + n, [10]) := by
  have e := bd_lk k hk
  rw [if_neg c] at e
  exact cVS_fr hk (by omega) hd e w10
theorem c_lk {x : Int32} {dep k : Nat} (hk : k < 7) (hd : dep ≤ 11) : cVS jX6_from [.int (nI k), .int (nI 0), .int x, .int (nI dep)] n m K (d + 4) (vlk n k x) := by
  unfold vlk
  by_cases c : k = 2 ∨ k = 5
  · have e := bd_lk k hk
    rw [if_pos c] at e ⊢
    exact cVS_fr (r := ((x + n) * 3, [10])) hk (by omega) (by omega) e (w30 (r := (x + n, [10])) (c_lk0 (k := 0) (by omega) (by omega) (by omega)))
  · rw [if_neg c]
    exact c_lk0 hk c (by omega)
theorem c_sa0 {x : Int32} {dep k : Nat} (hk : k < 7) (c3 : ¬ k = 3) (c6 : ¬ k = 6) (hd : dep ≤ 12) : cVS jX6_from [.int (nI k), .int (nI 2), .int x, .int (nI dep)] n m K (d + 2) (x - m, [12]) := by
  have e := bd_sa k hk
  rw [if_neg c3, if_neg c6] at e
  exact cVS_fr hk (by omega) hd e w12
theorem c_sa3 {x : Int32} {dep : Nat} (hd : dep ≤ 11) : cVS jX6_from [.int (nI 3), .int (nI 2), .int x, .int (nI dep)] n m K (d + 4) (-(x - m), [40, 12]) := cVS_fr (r := (-(x - m), [12])) (by omega) (by omega) (by omega) (bd_sa 3 (by omega)) (w40 (r := (x - m, [12])) (c_sa0 (k := 0) (by omega) (by omega) (by omega) (by omega)))
theorem c_sa {x : Int32} {dep k : Nat} (hk : k < 7) (hd : dep ≤ 10) : cVS jX6_from [.int (nI k), .int (nI 2), .int x, .int (nI dep)] n m K (d + 6) (vsa n m k x) := by
  unfold vsa
  by_cases c3 : k = 3
  · rw [if_pos c3]
    subst c3
    exact c_sa3 (by omega)
  · rw [if_neg c3]
    by_cases c6 : k = 6
    · rw [if_pos c6]
      subst c6
      exact cVS_fr (r := ((-(x - m)) ^^^ n, [40, 12])) (by omega) (by omega) (by omega) (bd_sa 6 (by omega)) (w70 (r := (-(x - m), [40, 12])) (c_sa3 (by omega)))
    · rw [if_neg c6]
      exact c_sa0 hk c3 c6 (by omega)
theorem c_th0 {x : Int32} {dep k : Nat} (hK : K < 7) (hk : k < 7) (c1 : ¬ k = 1) (c4 : ¬ k = 4) (hd : dep ≤ 10) : cVS jX6_from [.int (nI k), .int (nI 1), .int x, .int (nI dep)] n m K (d + 7) (vth0 n K x) := by
  have e := bd_th k hk
  rw [if_neg c1, if_neg c4] at e
  exact cVS_fr (r := ((vlk n K x).1 * 2, (vlk n K x).2)) hk (by omega) (by omega) e (w11 (cVS_own (c_lk hK (by omega))))
theorem c_th1 {x : Int32} {dep : Nat} (hK : K < 7) (hd : dep ≤ 9) : cVS jX6_from [.int (nI 1), .int (nI 1), .int x, .int (nI dep)] n m K (d + 9) (vth1 n m K x) := cVS_fr (r := ((vth0 n K x).1 - (vsa n m K 1).1, (vth0 n K x).2 ++ (vsa n m K 1).2)) (by omega) (by omega) (by omega) (bd_th 1 (by omega)) (w20 (c_th0 (k := 0) hK (by omega) (by omega) (by omega) (by omega)) (cVS_own (c_sa hK (by omega))))
theorem c_th {x : Int32} {dep k : Nat} (hK : K < 7) (hk : k < 7) (hd : dep ≤ 8) : cVS jX6_from [.int (nI k), .int (nI 1), .int x, .int (nI dep)] n m K (d + 11) (vth n m K k x) := by
  unfold vth
  by_cases c1 : k = 1
  · rw [if_pos c1]
    subst c1
    exact c_th1 hK (by omega)
  · rw [if_neg c1]
    by_cases c4 : k = 4
    · rw [if_pos c4]
      subst c4
      exact cVS_fr (r := ((vth1 n m K (x + 1)).1, (vth1 n m K (x + 1)).2)) (by omega) (by omega) (by omega) (bd_th 4 (by omega)) (w50 (c_th1 hK (by omega)))
    · rw [if_neg c4]
      exact c_th0 hK hk c1 c4 (by omega)
theorem c_te0 {x : Int32} {dep k : Nat} (hK : K < 7) (hk : k < 7) (c5 : ¬ k = 5) (c6 : ¬ k = 6) (hd : dep ≤ 7) : cVS jX6_from [.int (nI k), .int (nI 3), .int x, .int (nI dep)] n m K (d + 14) (vte0 n m K x) := by
  have e := bd_te k hk
  rw [if_neg c5, if_neg c6] at e
  exact cVS_fr (r := ((vth n m K K x).1 ^^^ (vsa n m K x).1, (vth n m K K x).2 ++ (vsa n m K x).2)) hk (by omega) (by omega) e (w13 (cVS_own (c_th hK hK (by omega))) (cVS_own (c_sa hK (by omega))))
theorem c_te {x : Int32} {dep k : Nat} (hK : K < 7) (hk : k < 7) (hd : dep ≤ 6) : cVS jX6_from [.int (nI k), .int (nI 3), .int x, .int (nI dep)] n m K (d + 16) (vte n m K k x) := by
  unfold vte
  by_cases c5 : k = 5
  · rw [if_pos c5]
    subst c5
    exact cVS_fr (r := ((vte0 n m K x).1 - (vlk n K 2).1, (vte0 n m K x).2 ++ (vlk n K 2).2)) (by omega) (by omega) (by omega) (bd_te 5 (by omega)) (w60 (c_te0 (k := 2) hK (by omega) (by omega) (by omega) (by omega)) (cVS_own (c_lk hK (by omega))))
  · rw [if_neg c5]
    by_cases c6 : k = 6
    · rw [if_pos c6]
      subst c6
      exact cVS_fr (r := ((vth n m K K x).1 - (vte0 n m K x).1, (vth n m K K x).2 ++ (vte0 n m K x).2)) (by omega) (by omega) (by omega) (bd_te 6 (by omega)) (w71 (cVS_own (c_th hK hK (by omega))) (c_te0 (k := 3) hK (by omega) (by omega) (by omega) (by omega)))
    · rw [if_neg c6]
      exact c_te0 hK hk c5 c6 (by omega)
end
def vAll (n m : Int32) (K act : Nat) (x : Int32) : vR := if act = 0 then vlk n K x else if act = 1 then vth n m K K x else if act = 2 then vsa n m K x else vte n m K K x
theorem vAll_l (n m : Int32) (K act : Nat) (x : Int32) : (vAll n m K act x).2.length ≤ 21 := by
  have := vlk_l n K x
  have := vth_l n m K K x
  have := vsa_l n m K x
  have := vte_l n m K K x
  unfold vAll
  split
  · omega
  · split
    · omega
    · split <;> omega
theorem c_all {n m : Int32} {K d act : Nat} {x : Int32} (hK : K < 7) (ha : act < 4) : cVS jX6_own [.int (nI act), .int x, .int (nI 0)] n m K (d + 17) (vAll n m K act x) := by
  unfold vAll
  have : act = 0 ∨ act = 1 ∨ act = 2 ∨ act = 3 := by omega
  rcases this with rfl | rfl | rfl | rfl
  · exact cVS_own (c_lk hK (by omega))
  · exact cVS_own (c_th hK hK (by omega))
  · exact cVS_own (c_sa hK (by omega))
  · exact cVS_own (c_te hK hK (by omega))

/-! VOICES: the model; both sides -/
def mV (k : oh_St) (L : List Int32) (p K : Nat) (m : Int32) : Prop := (k.1 0 20 = nI L.length ∧ ∀ i, i < L.length → k.1 10 i = L.getD i 0) ∧ k.1 0 21 = nI p ∧ k.1 1 (8 + 5 * p + 0) = nI K ∧ k.1 1 (8 + 5 * p + 1) = m
def mVF (k k' : oh_St) : Prop := (∀ a b, a ≠ 10 → ¬ (a = 0 ∧ b = 20) → k'.1 a b = k.1 a b) ∧ k'.2 = k.2
theorem mVF_rf (k : oh_St) : mVF k k := ⟨fun _ _ _ _ => rfl, rfl⟩
theorem mVF_tr {k k' k2 : oh_St} (H : mVF k k') (H2 : mVF k' k2) : mVF k k2 := ⟨fun a b x y => (H2.1 a b x y).trans (H.1 a b x y), H2.2.trans H.2⟩
def mVS (j : Nat) (args : List Value) (p : Nat) (m : Int32) (K D : Nat) (r : vR) : Prop := ∀ (Q : Int32 → oh_St → Prop) (k : oh_St) (L : List Int32), L.length + r.2.length ≤ 40 → mV k L p K m → (∀ k', mV k' (L ++ r.2) p K m → mVF k k' → Q r.1 k') → MM D j (.ref 0 :: args) k (oh_r1 Q)
theorem mV_2 {k : oh_St} {L A B : List Int32} {p K : Nat} {m : Int32} (c : mV k ((L ++ A) ++ B) p K m) : mV k (L ++ (A ++ B)) p K m := by rw [← List.append_assoc]; exact c
theorem len_1 {L A : List Int32} {b : Int32} (h : L.length + (b :: A).length ≤ 40) : L.length < 40 ∧ (L ++ [b]).length + A.length ≤ 40 := by
  rw [List.length_cons] at h
  rw [List.length_append, List.length_singleton]
  omega
theorem mV_1 {k : oh_St} {L A : List Int32} {b : Int32} {p K : Nat} {m : Int32} (c : mV k ((L ++ [b]) ++ A) p K m) : mV k (L ++ b :: A) p K m := by rw [List.append_assoc] at c; exact c
theorem mRan {d p K : Nat} {m b : Int32} {Q : oh_St → Prop} {k : oh_St} {L : List Int32} (hl : L.length < 40) (c : mV k L p K m) (q : ∀ k', mV k' (L ++ [b]) p K m → mVF k k' → Q k') : MM (d + 1) jX8_ran [.ref 0, .int b] k (oh_r0 Q) := by
  refine mX8_ran ?_
  rw [c.1.1]
  refine br_f (nI_ge (b := 40) hl (by omega)) ⟨oh_in hl (by omega), ?_⟩
  rw [oh_cl (by omega), oh_g1, if_neg (by omega), c.1.1, nI_1]
  refine q _ ⟨⟨?_, fun i hi => ?_⟩, ?_, ?_, ?_⟩ ⟨fun a e x y => ?_, rfl⟩
  · rw [oh_g1, if_pos ⟨rfl, rfl⟩, List.length_append, List.length_singleton]
  · rw [oh_g1, if_neg (by omega), oh_g1]
    rw [List.length_append, List.length_singleton] at hi
    by_cases z : i = L.length
    · subst z
      rw [if_pos ⟨rfl, rfl⟩]
      simp
    · rw [if_neg (fun y => z y.2), c.1.2 i (by omega)]
      simp [List.getD, List.getElem?_append_left (show i < L.length by omega)]
  · rw [oh_g1, if_neg (by omega), oh_g1, if_neg (by omega)]; exact c.2.1
  · rw [oh_g1, if_neg (by omega), oh_g1, if_neg (by omega)]; exact c.2.2.1
  · rw [oh_g1, if_neg (by omega), oh_g1, if_neg (by omega)]; exact c.2.2.2
  · rw [oh_g1, if_neg y, oh_g1, if_neg (fun z => x z.1)]
theorem mOwn {d p K : Nat} {m : Int32} {Q : Int32 → oh_St → Prop} {k : oh_St} {L : List Int32} (hp : p < 6) (c : mV k L p K m) (q : Q (nI K) k) : MM (d + 2) jX8_own [.ref 0] k (oh_r1 Q) := by
  refine mX8_own ?_
  rw [c.2.1]
  refine sX8_of (w := 0) hp (by omega) ?_
  rw [c.2.2.1]
  exact q
section
variable {p K d k : Nat} {m x : Int32} {r : vR}
theorem mne {k c : Nat} (hk : k < 7) (hc : c < 7) (h : ¬ k = c) : ¬ nI k = nI c := fun z => h ((nI_eq (by omega) (by omega)).mp z)
theorem mlk_up (hk : k < 7) (h0 : ¬ k = 0) (h2 : ¬ k = 2) (H : mVS jX8_looks [.int (nI (abN k)), .int x] p m K (d + 1) r) : mVS jX8_looks [.int (nI k), .int x] p m K (d + 2) r := fun Q s L hl c q => mX8_looks (br_f (mne (c := 0) hk (by omega) h0) (br_f (mne (c := 2) hk (by omega) h2) (sX8_above (by omega) (H Q s L hl c q))))
theorem mlk_0 : mVS jX8_looks [.int (nI 0), .int x] p m K (d + 2) (x + nI p, [10]) := by
  intro Q s L hl c q
  have l := len_1 hl
  refine mX8_looks (br_t rfl (mRan l.1 c (fun k' c' f' => ?_)))
  have t := q k' c' f'
  rw [c'.2.1]
  exact t
theorem mlk_2 : mVS jX8_looks [.int (nI 2), .int x] p m K (d + 3) ((x + nI p) * 3, [30, 10]) := by
  intro Q s L hl c q
  have l := len_1 hl
  refine mX8_looks (br_f (by decide) (br_t rfl (mRan l.1 c (fun k' c' f' => sX8_above (a := 2) (by omega) (mlk_0 _ k' _ l.2 c' (fun k2 c2 f2 => q k2 (mV_1 c2) (mVF_tr f' f2)))))))
theorem m_lk (hk : k < 7) : mVS jX8_looks [.int (nI k), .int x] p m K (d + 4) (vlk (nI p) k x) := by
  unfold vlk
  have : k = 0 ∨ k = 1 ∨ k = 2 ∨ k = 3 ∨ k = 4 ∨ k = 5 ∨ k = 6 := by omega
  rcases this with rfl | rfl | rfl | rfl | rfl | rfl | rfl
  · rw [if_neg (by omega)]; exact mlk_0
  · rw [if_neg (by omega)]; exact mlk_up (by omega) (by omega) (by omega) mlk_0
  · rw [if_pos (by omega)]; exact mlk_2
  · rw [if_neg (by omega)]; exact mlk_up (by omega) (by omega) (by omega) mlk_0
  · rw [if_neg (by omega)]; exact mlk_up (by omega) (by omega) (by omega) (mlk_up (k := 1) (by omega) (by omega) (by omega) mlk_0)
  · rw [if_pos (by omega)]; exact mlk_up (by omega) (by omega) (by omega) mlk_2
  · rw [if_neg (by omega)]; exact mlk_up (by omega) (by omega) (by omega) (mlk_up (k := 3) (by omega) (by omega) (by omega) mlk_0)
theorem msa_up (hk : k < 7) (h0 : ¬ k = 0) (h3 : ¬ k = 3) (h6 : ¬ k = 6) (H : mVS jX8_says [.int (nI (abN k)), .int x] p m K (d + 1) r) : mVS jX8_says [.int (nI k), .int x] p m K (d + 2) r := fun Q s L hl c q => mX8_says (br_f (mne (c := 0) hk (by omega) h0) (br_f (mne (c := 3) hk (by omega) h3) (br_f (mne (c := 6) hk (by omega) h6) (sX8_above (by omega) (H Q s L hl c q)))))
theorem msa_0 (hp : p < 6) : mVS jX8_says [.int (nI 0), .int x] p m K (d + 2) (x - m, [12]) := by
  intro Q s L hl c q
  have l := len_1 hl
  refine mX8_says (br_t rfl (mRan l.1 c (fun k' c' f' => ?_)))
  have t := q k' c' f'
  rw [c'.2.1]
  refine sX8_of (w := 1) hp (by omega) ?_
  rw [c'.2.2.2]
  exact t
theorem msa_3 (hp : p < 6) : mVS jX8_says [.int (nI 3), .int x] p m K (d + 3) (-(x - m), [40, 12]) := by
  intro Q s L hl c q
  have l := len_1 hl
  exact mX8_says (br_f (by decide) (br_t rfl (mRan l.1 c (fun k' c' f' => sX8_above (a := 3) (by omega) (msa_0 hp _ k' _ l.2 c' (fun k2 c2 f2 => q k2 (mV_1 c2) (mVF_tr f' f2)))))))
theorem msa_6 (hp : p < 6) : mVS jX8_says [.int (nI 6), .int x] p m K (d + 4) ((-(x - m)) ^^^ nI p, [70, 40, 12]) := by
  intro Q s L hl c q
  have l := len_1 hl
  refine mX8_says (br_f (by decide) (br_f (by decide) (br_t rfl (mRan l.1 c (fun k' c' f' => sX8_above (a := 6) (by omega) (msa_3 hp _ k' _ l.2 c' (fun k2 c2 f2 => ?_)))))))
  have t := q k2 (mV_1 c2) (mVF_tr f' f2)
  rw [c2.2.1]
  exact t
theorem m_sa (hp : p < 6) (hk : k < 7) : mVS jX8_says [.int (nI k), .int x] p m K (d + 4) (vsa (nI p) m k x) := by
  unfold vsa
  have : k = 0 ∨ k = 1 ∨ k = 2 ∨ k = 3 ∨ k = 4 ∨ k = 5 ∨ k = 6 := by omega
  rcases this with rfl | rfl | rfl | rfl | rfl | rfl | rfl
  · rw [if_neg (by omega), if_neg (by omega)]; exact msa_0 hp
  · rw [if_neg (by omega), if_neg (by omega)]; exact msa_up (by omega) (by omega) (by omega) (by omega) (msa_0 hp)
  · rw [if_neg (by omega), if_neg (by omega)]; exact msa_up (by omega) (by omega) (by omega) (by omega) (msa_0 hp)
  · rw [if_pos rfl]; exact msa_3 hp
  · rw [if_neg (by omega), if_neg (by omega)]; exact msa_up (by omega) (by omega) (by omega) (by omega) (msa_up (k := 1) (by omega) (by omega) (by omega) (by omega) (msa_0 hp))
  · rw [if_neg (by omega), if_neg (by omega)]; exact msa_up (by omega) (by omega) (by omega) (by omega) (msa_up (k := 2) (by omega) (by omega) (by omega) (by omega) (msa_0 hp))
  · rw [if_neg (by omega), if_pos rfl]; exact msa_6 hp
theorem mth_0 (hp : p < 6) (hK : K < 7) : mVS jX8_thoughts [.int (nI 0), .int x] p m K (d + 5) (vth0 (nI p) K x) := by
  intro Q s L hl c q
  have l := len_1 hl
  exact mX8_thoughts (br_t rfl (mRan l.1 c (fun k' c' f' => mOwn hp c' (m_lk hK _ k' _ l.2 c' (fun k2 c2 f2 => q k2 (mV_1 c2) (mVF_tr f' f2))))))
theorem mth_1 (hp : p < 6) (hK : K < 7) : mVS jX8_thoughts [.int (nI 1), .int x] p m K (d + 6) (vth1 (nI p) m K x) := by
  intro Q s L hl c q
  have l := len_1 hl
  have l2 := len_2 l.2
  exact mX8_thoughts (br_f (by decide) (br_t rfl (mRan l.1 c (fun k' c' f' => sX8_above (a := 1) (by omega) (mth_0 hp hK _ k' _ l2.1 c' (fun k2 c2 f2 => mOwn hp c2 (m_sa hp hK _ k2 _ l2.2 c2 (fun k3 c3 f3 => q k3 (mV_1 (mV_2 c3)) (mVF_tr f' (mVF_tr f2 f3))))))))))
theorem mth_4 (hp : p < 6) (hK : K < 7) : mVS jX8_thoughts [.int (nI 4), .int x] p m K (d + 7) ((vth1 (nI p) m K (x + 1)).1, 50 :: (vth1 (nI p) m K (x + 1)).2) := by
  intro Q s L hl c q
  have l := len_1 hl
  exact mX8_thoughts (br_f (by decide) (br_f (by decide) (br_f (by decide) (br_f (by decide) (br_t rfl (mRan l.1 c (fun k' c' f' => sX8_above (a := 4) (by omega) (mth_1 hp hK _ k' _ l.2 c' (fun k2 c2 f2 => q k2 (mV_1 c2) (mVF_tr f' f2))))))))))
theorem mth_2 (hp : p < 6) (hK : K < 7) : mVS jX8_thoughts [.int (nI 2), .int x] p m K (d + 6) (vth0 (nI p) K x) := fun Q s L hl c q => mX8_thoughts (br_f (by decide) (br_f (by decide) (br_t rfl (sX8_above (a := 2) (by omega) (mth_0 hp hK Q s L hl c q)))))
theorem mth_3 (hp : p < 6) (hK : K < 7) : mVS jX8_thoughts [.int (nI 3), .int x] p m K (d + 6) (vth0 (nI p) K x) := fun Q s L hl c q => mX8_thoughts (br_f (by decide) (br_f (by decide) (br_f (by decide) (br_t rfl (sX8_above (a := 3) (by omega) (mth_0 hp hK Q s L hl c q))))))
theorem mth_5 (hp : p < 6) (hK : K < 7) : mVS jX8_thoughts [.int (nI 5), .int x] p m K (d + 7) (vth0 (nI p) K x) := fun Q s L hl c q => mX8_thoughts (br_f (by decide) (br_f (by decide) (br_f (by decide) (br_f (by decide) (br_f (by decide) (sX8_above (a := 5) (by omega) (mth_2 hp hK Q s L hl c q)))))))
theorem mth_6 (hp : p < 6) (hK : K < 7) : mVS jX8_thoughts [.int (nI 6), .int x] p m K (d + 7) (vth0 (nI p) K x) := fun Q s L hl c q => mX8_thoughts (br_f (by decide) (br_f (by decide) (br_f (by decide) (br_f (by decide) (br_f (by decide) (sX8_above (a := 6) (by omega) (mth_3 hp hK Q s L hl c q)))))))
theorem m_th (hp : p < 6) (hK : K < 7) (hk : k < 7) : mVS jX8_thoughts [.int (nI k), .int x] p m K (d + 7) (vth (nI p) m K k x) := by
  unfold vth
  have : k = 0 ∨ k = 1 ∨ k = 2 ∨ k = 3 ∨ k = 4 ∨ k = 5 ∨ k = 6 := by omega
  rcases this with rfl | rfl | rfl | rfl | rfl | rfl | rfl
  · rw [if_neg (by omega), if_neg (by omega)]; exact mth_0 hp hK
  · rw [if_pos rfl]; exact mth_1 hp hK
  · rw [if_neg (by omega), if_neg (by omega)]; exact mth_2 hp hK
  · rw [if_neg (by omega), if_neg (by omega)]; exact mth_3 hp hK
  · rw [if_neg (by omega), if_pos rfl]; exact mth_4 hp hK
  · rw [if_neg (by omega), if_neg (by omega)]; exact mth_5 hp hK
  · rw [if_neg (by omega), if_neg (by omega)]; exact mth_6 hp hK
theorem mte_up (hk : k < 7) (h0 : ¬ k = 0) (h5 : ¬ k = 5) (h6 : ¬ k = 6) (H : mVS jX8_tells [.int (nI (abN k)), .int x] p m K (d + 1) r) : mVS jX8_tells [.int (nI k), .int x] p m K (d + 2) r := fun Q s L hl c q => mX8_tells (br_f (mne (c := 0) hk (by omega) h0) (br_f (mne (c := 5) hk (by omega) h5) (br_f (mne (c := 6) hk (by omega) h6) (sX8_above (by omega) (H Q s L hl c q)))))
theorem mte_0 (hp : p < 6) (hK : K < 7) : mVS jX8_tells [.int (nI 0), .int x] p m K (d + 8) (vte0 (nI p) m K x) := by
  intro Q s L hl c q
  have l := len_1 hl
  have l2 := len_2 l.2
  exact mX8_tells (br_t rfl (mRan l.1 c (fun k' c' f' => mOwn hp c' (m_th hp hK hK _ k' _ l2.1 c' (fun k2 c2 f2 => mOwn hp c2 (m_sa hp hK _ k2 _ l2.2 c2 (fun k3 c3 f3 => q k3 (mV_1 (mV_2 c3)) (mVF_tr f' (mVF_tr f2 f3)))))))))
theorem mte_5 (hp : p < 6) (hK : K < 7) : mVS jX8_tells [.int (nI 5), .int x] p m K (d + 10) ((vte0 (nI p) m K x).1 - (vlk (nI p) K 2).1, 60 :: ((vte0 (nI p) m K x).2 ++ (vlk (nI p) K 2).2)) := by
  intro Q s L hl c q
  have l := len_1 hl
  have l2 := len_2 l.2
  exact mX8_tells (br_f (by decide) (br_t rfl (mRan l.1 c (fun k' c' f' => sX8_above (a := 5) (by omega) (mte_up (k := 2) (by omega) (by omega) (by omega) (by omega) (mte_0 hp hK) _ k' _ l2.1 c' (fun k2 c2 f2 => mOwn hp c2 (m_lk hK _ k2 _ l2.2 c2 (fun k3 c3 f3 => q k3 (mV_1 (mV_2 c3)) (mVF_tr f' (mVF_tr f2 f3))))))))))
theorem mte_6 (hp : p < 6) (hK : K < 7) : mVS jX8_tells [.int (nI 6), .int x] p m K (d + 10) ((vth (nI p) m K K x).1 - (vte0 (nI p) m K x).1, 71 :: ((vth (nI p) m K K x).2 ++ (vte0 (nI p) m K x).2)) := by
  intro Q s L hl c q
  have l := len_1 hl
  have l2 := len_2 l.2
  exact mX8_tells (br_f (by decide) (br_f (by decide) (br_t rfl (mRan l.1 c (fun k' c' f' => mOwn hp c' (m_th hp hK hK _ k' _ l2.1 c' (fun k2 c2 f2 => sX8_above (a := 6) (by omega) (mte_up (k := 3) (by omega) (by omega) (by omega) (by omega) (mte_0 hp hK) _ k2 _ l2.2 c2 (fun k3 c3 f3 => q k3 (mV_1 (mV_2 c3)) (mVF_tr f' (mVF_tr f2 f3)))))))))))
theorem m_te (hp : p < 6) (hK : K < 7) (hk : k < 7) : mVS jX8_tells [.int (nI k), .int x] p m K (d + 10) (vte (nI p) m K k x) := by
  unfold vte
  have : k = 0 ∨ k = 1 ∨ k = 2 ∨ k = 3 ∨ k = 4 ∨ k = 5 ∨ k = 6 := by omega
  rcases this with rfl | rfl | rfl | rfl | rfl | rfl | rfl
  · rw [if_neg (by omega), if_neg (by omega)]; exact mte_0 hp hK
  · rw [if_neg (by omega), if_neg (by omega)]; exact mte_up (by omega) (by omega) (by omega) (by omega) (mte_0 hp hK)
  · rw [if_neg (by omega), if_neg (by omega)]; exact mte_up (by omega) (by omega) (by omega) (by omega) (mte_0 hp hK)
  · rw [if_neg (by omega), if_neg (by omega)]; exact mte_up (by omega) (by omega) (by omega) (by omega) (mte_0 hp hK)
  · rw [if_neg (by omega), if_neg (by omega)]; exact mte_up (by omega) (by omega) (by omega) (by omega) (mte_up (k := 1) (by omega) (by omega) (by omega) (by omega) (mte_0 hp hK))
  · rw [if_pos rfl]; exact mte_5 hp hK
  · rw [if_neg (by omega), if_pos rfl]; exact mte_6 hp hK
end
/-- a new trace on both sides -/
theorem R_tr {h h' k k' : oh_St} (H : R h k) (e : ∀ a b, (a ≤ 46 ∨ 50 ≤ a) → h'.1 a b = h.1 a b) (e2 : h'.2 = h.2) (f : ∀ a b, a ≠ 10 → ¬ (a = 0 ∧ (b = 20 ∨ b = 21)) → k'.1 a b = k.1 a b) (f2 : k'.2 = k.2) (t : trIs h' k') : R h' k' := by
  obtain ⟨B, b1, b2, b3, h1, h2, h3, h4, h5, h6⟩ := H
  have hl := cB_len (Or.inl rfl) b1
  refine ⟨B, cB_c b1 (fun a b x => e a b (by omega)) (by rw [e2]), mB_c b2 (fun b _ => f 1 b (by omega) (by omega)) (by rw [f2]) hl.1 hl.2, b3, ⟨?_, ?_⟩, ?_, fun c => ?_, fun i hi => ?_, t, fun s hs => ?_⟩
  · rw [e _ _ (by omega)]; exact h1.1
  · rw [e _ _ (by omega)]; exact h1.2
  · rw [e _ _ (by omega), f _ _ (by omega) (by omega)]; exact h2
  · rw [e _ _ (by omega)] at c
    obtain ⟨B', b1', b2', b3'⟩ := h3 c
    have hl' := cB_len (Or.inr rfl) b1'
    refine ⟨B', cB_c b1' (fun a b x => e a b (by omega)) (by rw [e2]), mB_c b2' (fun b _ => ?_) ?_ hl'.1 hl'.2, b3'⟩
    · rw [kp_1, kp_1, f _ _ (by omega) (by omega)]
    · rw [kp_3, kp_3, f2]
  · rw [e _ _ (by omega), f _ _ (by omega) (by omega)]; exact h4 i hi
  · obtain ⟨⟨s1, s2⟩, ⟨n, s3, s4, s5⟩, s6⟩ := h6 s hs
    refine ⟨⟨?_, ?_⟩, ⟨n, s3, (e _ _ (by omega)).trans s4, (f _ _ (by omega) (by omega)).trans s5⟩, fun i hi => ?_⟩
    · rw [e _ _ (by omega), f _ _ (by omega) (by omega)]; exact s1
    · rw [f _ _ (by omega) (by omega)]; exact s2
    · rw [e _ _ (by omega), f _ _ (by omega) (by omega)]; exact s6 i hi
theorem p_voice {h k : oh_St} {v w x : Int32} (H : R h k) : Both jX7_voice jX8_voice [.int v, .int w, .int x] h k := by
  intro d
  obtain ⟨B, b1, b2, b3, r⟩ := id H
  have hok := b1.1.2.2.2.2.2.2
  have hn6 := hok.1
  by_cases c : oIn (sN (bS B)) v
  · obtain ⟨p, hp, rfl⟩ := c
    have hp6 : p < 6 := by omega
    have hK : sK (bS B) p < 7 := by have := (hok.2.1 p hp6).1; omega
    by_cases c2 : oIn 4 w
    · obtain ⟨a, ha, rfl⟩ := c2
      have e3 : h.1 3 p = nI (sK (bS B) p) := (b1.1.2.1 p hp6).1
      have e4 : h.1 4 p = nI (sM (bS B) p) := (b1.1.2.1 p hp6).2.1
      have k0 : k.1 1 (8 + 5 * p + 0) = nI (sK (bS B) p) := (b2.1.2.1 p hp6).1
      have k1 : k.1 1 (8 + 5 * p + 1) = nI (sM (bS B) p) := (b2.1.2.1 p hp6).2.1
      have lv := vAll_l (nI p) (nI (sM (bS B) p)) (sK (bS B) p) a x
      refine mX7_voice (sX7_isManT b1.1.1 hn6 hp (br_f (by decide) (br_f (nI_pos (by omega)) (br_t (nI_lt (b := 4) ha (by omega)) (mX6_heard (br_f (nI_pos (by omega)) (br_t (nI_lt (b := 6) hp6 (by omega)) ⟨oh_in hp6 (by omega), oh_in hp6 (by omega), sX3_clear (by unfold oRow; omega) ?_⟩)))))))
      rw [oh_cl (by omega), oh_g1, if_neg (by omega), oh_g1, if_neg (by omega), e3, e4]
      refine c_all (d := d + 81) (n := nI p) (m := nI (sM (bS B) p)) hK ha _ _ [] (by simp; omega) ⟨⟨?_, fun i hi => absurd hi (by simp), by simp⟩, ?_, ?_, ?_⟩ (fun h' c' f' => ?_)
      · rw [oh_g1, if_pos ⟨rfl, rfl⟩]; rfl
      · rw [oh_g1, if_neg (by omega), oh_g1, if_neg (by omega), oh_g1, if_neg (by omega), oh_g1, if_pos ⟨rfl, rfl⟩]
      · rw [oh_g1, if_neg (by omega), oh_g1, if_neg (by omega), oh_g1, if_pos ⟨rfl, rfl⟩]
      · rw [oh_g1, if_neg (by omega), oh_g1, if_pos ⟨rfl, rfl⟩]
      · have eh : ∀ a b, (a ≤ 46 ∨ 50 ≤ a) → h'.1 a b = h.1 a b := fun a b y => by
          rw [f'.1 a b (by omega) (by omega), oh_g1, if_neg (by omega), oh_g1, if_neg (by omega), oh_g1, if_neg (by omega), oh_g1, if_neg (by omega)]
        have ek : ∀ a b, ¬ (a = 0 ∧ (b = 20 ∨ b = 21)) → (oh_upi (oh_upi k 0 20 0) 0 21 (nI p)).1 a b = k.1 a b := fun a b y => by
          rw [oh_g1, if_neg (by omega), oh_g1, if_neg (by omega)]
        have c1 : mV (oh_upi (oh_upi k 0 20 0) 0 21 (nI p)) [] p (sK (bS B) p) (nI (sM (bS B) p)) := by
          refine ⟨⟨?_, fun i hi => absurd hi (by simp)⟩, ?_, ?_, ?_⟩
          · rw [oh_g1, if_neg (by omega), oh_g1, if_pos ⟨rfl, rfl⟩]; rfl
          · rw [oh_g1, if_pos ⟨rfl, rfl⟩]
          · rw [ek _ _ (by omega)]; exact k0
          · rw [ek _ _ (by omega)]; exact k1
        have fin : ∀ k', mV k' ([] ++ (vAll (nI p) (nI (sM (bS B) p)) (sK (bS B) p) a x).2) p (sK (bS B) p) (nI (sM (bS B) p)) → mVF (oh_upi (oh_upi k 0 20 0) 0 21 (nI p)) k' → R h' k' := fun k' m' g' => R_tr H eh (by rw [f'.2]; rfl) (fun a b y z => (g'.1 a b y (by omega)).trans (ek a b z)) (by rw [g'.2]; rfl) ⟨_, c'.1, m'.1.1, m'.1.2⟩
        refine mX8_voice (sX8_isManT b2.1.1 hn6 hp (br_f (by decide) (sX8_inT 0 3 (by decide) (by decide) (nI_pos (by omega)) (nI_nlt (a := 3) (by omega) (by omega)) (oh_nt (by decide) (mOwn hp6 c1 ?_)))))
        unfold vAll at lv fin ⊢
        have : a = 0 ∨ a = 1 ∨ a = 2 ∨ a = 3 := by omega
        rcases this with rfl | rfl | rfl | rfl
        · exact oh_nf rfl (m_lk (d := d + 95) hK _ _ _ (by simp at lv ⊢; omega) c1 (fun k' m' g' => ⟨rfl, fin k' m' g'⟩))
        · exact oh_nt (by decide) (oh_nf rfl (m_th (d := d + 92) hp6 hK hK _ _ _ (by simp at lv ⊢; omega) c1 (fun k' m' g' => ⟨rfl, fin k' m' g'⟩)))
        · exact oh_nt (by decide) (oh_nt (by decide) (oh_nf rfl (m_sa (d := d + 95) hp6 hK _ _ _ (by simp at lv ⊢; omega) c1 (fun k' m' g' => ⟨rfl, fin k' m' g'⟩))))
        · exact oh_nt (by decide) (oh_nt (by decide) (oh_nt (by decide) (m_te (d := d + 89) hp6 hK hK _ _ _ (by simp at lv ⊢; omega) c1 (fun k' m' g' => ⟨rfl, fin k' m' g'⟩))))
    · have c3 := oIn_out (n := 3) (by omega) c2
      have M : MM (d + 100) jX8_voice [.ref 0, .int (nI p), .int w, .int x] k (oh_r1 (fun y k' => (-1000000001 : Int32) = y ∧ R (oh_upi h 59 1 (h.1 59 1 + 1)) k')) := mX8_voice (sX8_isManT b2.1.1 hn6 hp (br_f (by decide) (sX8_inF 0 3 (by decide) (by decide) c3 (oh_nf rfl (sX8_finds 1 (by omega) ⟨by decide, R_fail H (by omega)⟩)))))
      refine mX7_voice (sX7_isManT b1.1.1 hn6 hp (br_f (by decide) ⟨fun _ => sX7_failed 1 (by decide) (by omega) (by omega) M, fun y => ⟨fun y2 => ?_, fun _ => sX7_failed 1 (by decide) (by omega) (by omega) M⟩⟩))
      exact absurd ((oh_rng (n := 4) (by omega)).mp ⟨y, y2⟩) c2
  · exact mX7_voice (sX7_isManF b1.1.1 hn6 c (br_t rfl (sX7_failed 1 (by decide) (by omega) (by omega) (mX8_voice (sX8_isManF b2.1.1 hn6 c (br_t rfl (sX8_finds 1 (by omega) ⟨by decide, R_fail H (by omega)⟩)))))))

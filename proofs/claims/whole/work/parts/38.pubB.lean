/-! BOTH SIDES: become, as, ofMan -/
def sSetK (S : oS) (p a b : Nat) : oS := (sN S, fun i => if i = p then a else sK S i, fun i => if i = p then b else sM S i, S.2.2.2)
theorem om_div : ∀ a, a < 70 → nI a / 10 = nI (a / 10) ∧ nI a - nI a / 10 * 10 = nI (a % 10) := by decide +kernel
theorem sSetK_ok {S : oS} (h : sOk S) {p a b : Nat} (ha : a ≤ 6) (hb : b ≤ 9) : sOk (sSetK S p a b) := by
  obtain ⟨h1, h2, h3⟩ := h
  refine ⟨h1, fun i hi => ?_, h3⟩
  obtain ⟨x, y, z⟩ := h2 i hi
  refine ⟨?_, ?_, z⟩
  · show (if i = p then a else sK S i) ≤ 6
    split <;> omega
  · show (if i = p then b else sM S i) ≤ 9
    split <;> omega
theorem p_become {h k : oh_St} {v w : Int32} (H : R h k) : Both jX7_become jX8_become [.int v, .int w] h k := by
  intro d
  obtain ⟨B, b1, b2, b3, r⟩ := id H
  obtain ⟨h1, h2, h3, h4, h5, h6, h7, h8, h9⟩ := id b1
  obtain ⟨k1, k2, k3, k4, k5, k6, k7, k8, k9, k10⟩ := id b2
  have hok := h1.2.2.2.2.2.2
  have hn := hok.1
  by_cases c : oIn (sN (bS B)) v
  · obtain ⟨p, hp, rfl⟩ := c
    by_cases c2 : oIn 70 w
    · obtain ⟨a, ha, rfl⟩ := c2
      obtain ⟨e1, e2⟩ := om_div a ha
      refine mX7_become (sX7_isManT h1.1 hn hp (br_f (by decide) (mX7_isKindWithNumber (br_f (nI_pos (by omega)) (br_f (nI_nlt (a := 69) (by omega) (by omega)) ⟨oh_i1, ?_⟩)))))
      have hp6 : p < 6 := by omega
      refine oh_nt (by decide) ⟨oh_in hp6 (by omega), by decide, oh_in hp6 (by omega), by decide, oh_in hp6 (by omega), ?_⟩
      rw [oh_cl (by omega), e2, e1]
      refine mX8_become (sX8_isManT k1.1 hn hp (br_f (by decide) (sX8_inT 0 69 (by decide) (by decide) (nI_pos (by omega)) (nI_nlt (a := 69) (by omega) (by omega)) (oh_nt (by decide) (sX8_of (w := 0) hp6 (by omega) ⟨by decide, sX8_becomes (w := 0) hp6 (by omega) ⟨by decide, ?_⟩⟩)))))
      rw [e2]
      refine sX8_becomes (w := 1) hp6 (by omega) ⟨?_, ?_⟩
      · rw [(h1.2.1 p hp6).1, (k1.2.1 p hp6).1]
      · refine R_sc b1 b2 b3 r (sSetK (bS B) p (a / 10) (a % 10)) (bO B) (bF B) (bD B) (bZ B) ⟨⟨?_, fun i hi => ⟨?_, ?_, ?_⟩, ?_, h1.2.2.2.1, ?_, ?_, sSetK_ok hok (by omega) (by omega)⟩, ?_, ?_, fun i hi => ?_, ?_⟩ (fun a b x => ?_) ⟨⟨?_, fun i hi => ⟨?_, ?_, ?_, ?_⟩, ?_, ?_⟩, k2, ?_, ?_, fun i hi => ?_, ?_⟩ (fun b x => ?_) ⟨b3.1, b3.2.2.1, b3.2.2.2⟩ (hF_tr (hF_up h 3 p _ (by omega)) (hF_up _ 4 p _ (by omega))) (kF_tr (kF_up k _ _) (kF_up _ _ _))
        · rw [oh_g1, if_neg (by omega), oh_g1, if_neg (by omega)]; exact h1.1
        · show _ = nI (if i = p then a / 10 else sK (bS B) i)
          rw [oh_g1, if_neg (by omega), oh_g1]
          by_cases z : i = p
          · rw [if_pos ⟨rfl, z⟩, if_pos z]
          · rw [if_neg (fun y => z y.2), if_neg z]; exact (h1.2.1 i hi).1
        · show _ = nI (if i = p then a % 10 else sM (bS B) i)
          rw [oh_g1]
          by_cases z : i = p
          · rw [if_pos ⟨rfl, z⟩, if_pos z]
          · rw [if_neg (fun y => z y.2), if_neg z, oh_g1, if_neg (by omega)]; exact (h1.2.1 i hi).2.1
        · rw [oh_g1, if_neg (by omega), oh_g1, if_neg (by omega)]; exact (h1.2.1 i hi).2.2
        · rw [oh_g1, if_neg (by omega), oh_g1, if_neg (by omega)]; exact h1.2.2.1
        · rw [oh_g1, if_neg (by omega), oh_g1, if_neg (by omega)]; exact h1.2.2.2.2.1
        · rw [oh_g1, if_neg (by omega), oh_g1, if_neg (by omega)]; exact h1.2.2.2.2.2.1
        · rw [oh_g1, if_neg (by omega), oh_g1, if_neg (by omega)]; exact h2
        · rw [oh_g1, if_neg (by omega), oh_g1, if_neg (by omega)]; exact h3
        · rw [oh_g1, if_neg (by omega), oh_g1, if_neg (by omega)]; exact h4 i hi
        · rw [oh_g1, if_neg (by omega), oh_g1, if_neg (by omega)]; exact h9
        · rw [oh_g1, if_neg (by omega), oh_g1, if_neg (by omega)]
        · rw [oh_g1, if_neg (by omega), oh_g1, if_neg (by omega)]; exact k1.1
        · show _ = nI (if i = p then a / 10 else sK (bS B) i)
          rw [oh_g1, if_neg (by omega), oh_g1]
          by_cases z : i = p
          · rw [if_pos ⟨rfl, by omega⟩, if_pos z]; exact e1
          · rw [if_neg (by omega), if_neg z]; exact (k1.2.1 i hi).1
        · show _ = nI (if i = p then a % 10 else sM (bS B) i)
          rw [oh_g1]
          by_cases z : i = p
          · rw [if_pos ⟨rfl, by omega⟩, if_pos z]
          · rw [if_neg (by omega), if_neg z, oh_g1, if_neg (by omega)]; exact (k1.2.1 i hi).2.1
        · rw [oh_g1, if_neg (by omega), oh_g1, if_neg (by omega)]; exact (k1.2.1 i hi).2.2.1
        · rw [oh_g1, if_neg (by omega), oh_g1, if_neg (by omega)]; exact (k1.2.1 i hi).2.2.2
        · rw [oh_g1, if_neg (by omega), oh_g1, if_neg (by omega)]; exact k1.2.2.1
        · rw [oh_g1, if_neg (by omega), oh_g1, if_neg (by omega)]; exact k1.2.2.2
        · rw [oh_g1, if_neg (by omega), oh_g1, if_neg (by omega)]; exact k3
        · rw [oh_g1, if_neg (by omega), oh_g1, if_neg (by omega)]; exact k4
        · rw [oh_g1, if_neg (by omega), oh_g1, if_neg (by omega)]; exact k5 i hi
        · rw [oh_g1, if_neg (by omega), oh_g1, if_neg (by omega)]; exact k10
        · rw [oh_g1, if_neg (by omega), oh_g1, if_neg (by omega)]
    · have c3 := oIn_out (n := 69) (by omega) c2
      have M : MM (d + 100) jX8_become [.ref 0, .int (nI p), .int w] k (oh_r1 (fun y k' => (-1000000001 : Int32) = y ∧ R (oh_upi h 59 1 (h.1 59 1 + 1)) k')) := mX8_become (sX8_isManT k1.1 hn hp (br_f (by decide) (sX8_inF 0 69 (by decide) (by decide) c3 (oh_nf rfl (sX8_finds 1 (by omega) ⟨by decide, R_fail H (by omega)⟩)))))
      refine mX7_become (sX7_isManT h1.1 hn hp (br_f (by decide) (mX7_isKindWithNumber ⟨fun _ => ⟨oh_i0, oh_nf rfl (sX7_failed 1 (by decide) (by omega) (by omega) M)⟩, fun y => ⟨fun _ => ⟨oh_i0, oh_nf rfl (sX7_failed 1 (by decide) (by omega) (by omega) M)⟩, fun y2 => ?_⟩⟩)))
      rcases c3 with z | z
      · exact absurd z y
      · exact absurd z y2
  · refine mX7_become (sX7_isManF h1.1 hn c (br_t rfl (sX7_failed 1 (by decide) (by omega) (by omega) (mX8_become (sX8_isManF k1.1 hn c (br_t rfl (sX8_finds 1 (by omega) ⟨by decide, R_fail H (by omega)⟩)))))))
/-- the kind above; a kind's own and those above -/
def abN (a : Nat) : Nat := if a = 4 then 1 else if a = 5 then 2 else if a = 6 then 3 else 0
def ofK (own kind : Nat) : Bool := decide (kind = 0) || decide (kind = own) || decide (kind = abN own)
theorem sX7_isOfKind {d : Nat} {K : Int32 → oh_St → Prop} {h : oh_St} {own kind : Nat} (ho : own ≤ 6) (hk : kind ≤ 6) (q : K (oh_b (ofK own kind)) h) : CM (d + 1) jX7_isOfKind [.int (nI own), .int (nI kind)] h (oh_r1 K) := by
  have st : ∀ (j i : Nat), j ≤ 6 → i ≤ 6 → (kind = j → K 1 h) → (¬ kind = j → wX7_isOfKind_4 d (oh_r1 K) (nI kind) (oh_l1000.getD j 0) (nI (i + 1)) h) → wX7_isOfKind_4 d (oh_r1 K) (nI kind) (nI j) (nI i) h := by
    intro j i hj hi q1 q0
    refine bX7_isOfKind_4 (br_f (nI_ge (b := 7) (by omega) (by omega)) (br_f (nI_pos (by omega)) (br_f (nI_ge (b := 7) (by omega) (by omega)) (oh_nc (fun z => ⟨oh_in (by omega) (by omega), ?_⟩) (fun z => ⟨oh_i1, q1 ?_⟩)))))
    · rw [oh_cl (by omega), nI_1]
      exact q0 (fun e => z (by rw [e]))
    · exact ((nI_eq (by omega) (by omega)).mp z).symm
  have en : ∀ (i : Nat), K 0 h → wX7_isOfKind_4 d (oh_r1 K) (nI kind) (-1) (nI i) h := fun i q0 => bX7_isOfKind_4 ⟨fun _ => ⟨oh_i0, q0⟩, fun _ => br_t (by decide) ⟨oh_i0, q0⟩⟩
  have e0 : ∀ (i : Nat), i ≤ 6 → (kind = 0 → K 1 h) → (¬ kind = 0 → K 0 h) → wX7_isOfKind_4 d (oh_r1 K) (nI kind) (nI 0) (nI i) h := fun i hi q1 q0 => st 0 i (by omega) hi q1 (fun z => en (i + 1) (q0 z))
  refine mX7_isOfKind ?_
  unfold ofK at q
  have K1 : (kind = 0 ∨ kind = own ∨ kind = abN own) → K 1 h := fun z => by
    have : (decide (kind = 0) || decide (kind = own) || decide (kind = abN own)) = true := by
      simp only [Bool.or_eq_true, decide_eq_true_eq]
      omega
    rw [this] at q
    exact q
  have K0 : ¬ (kind = 0 ∨ kind = own ∨ kind = abN own) → K 0 h := fun z => by
    have : (decide (kind = 0) || decide (kind = own) || decide (kind = abN own)) = false := by
      simp only [Bool.or_eq_false_iff, decide_eq_false_iff_not]
      omega
    rw [this] at q
    exact q
  have : own = 0 ∨ own = 1 ∨ own = 2 ∨ own = 3 ∨ own = 4 ∨ own = 5 ∨ own = 6 := by omega
  rcases this with rfl | rfl | rfl | rfl | rfl | rfl | rfl
  · exact e0 0 (by omega) (fun z => K1 (Or.inl z)) (fun z => K0 (fun y => by have : abN 0 = 0 := rfl; omega))
  · exact st 1 0 (by omega) (by omega) (fun z => K1 (Or.inr (Or.inl z))) (fun y => e0 1 (by omega) (fun z => K1 (Or.inl z)) (fun z => K0 (fun y => by have : abN 1 = 0 := rfl; omega)))
  · exact st 2 0 (by omega) (by omega) (fun z => K1 (Or.inr (Or.inl z))) (fun y => e0 1 (by omega) (fun z => K1 (Or.inl z)) (fun z => K0 (fun y => by have : abN 2 = 0 := rfl; omega)))
  · exact st 3 0 (by omega) (by omega) (fun z => K1 (Or.inr (Or.inl z))) (fun y => e0 1 (by omega) (fun z => K1 (Or.inl z)) (fun z => K0 (fun y => by have : abN 3 = 0 := rfl; omega)))
  · exact st 4 0 (by omega) (by omega) (fun z => K1 (Or.inr (Or.inl z))) (fun y => st 1 1 (by omega) (by omega) (fun z => K1 (Or.inr (Or.inr z))) (fun y => e0 2 (by omega) (fun z => K1 (Or.inl z)) (fun z => K0 (fun y => by have : abN 4 = 1 := rfl; omega))))
  · exact st 5 0 (by omega) (by omega) (fun z => K1 (Or.inr (Or.inl z))) (fun y => st 2 1 (by omega) (by omega) (fun z => K1 (Or.inr (Or.inr z))) (fun y => e0 2 (by omega) (fun z => K1 (Or.inl z)) (fun z => K0 (fun y => by have : abN 5 = 2 := rfl; omega))))
  · exact st 6 0 (by omega) (by omega) (fun z => K1 (Or.inr (Or.inl z))) (fun y => st 3 1 (by omega) (by omega) (fun z => K1 (Or.inr (Or.inr z))) (fun y => e0 2 (by omega) (fun z => K1 (Or.inl z)) (fun z => K0 (fun y => by have : abN 6 = 3 := rfl; omega))))
theorem sX8_above {d : Nat} {K : Int32 → oh_St → Prop} {k : oh_St} {a : Nat} (ha : a ≤ 6) (q : K (nI (abN a)) k) : MM (d + 1) jX8_above [.int (nI a)] k (oh_r1 K) := by
  have ne : ∀ {j : Nat}, j ≤ 6 → a ≠ j → ¬ nI a = nI j := fun x y z => y ((nI_eq (by omega) (by omega)).mp z)
  refine mX8_above ?_
  unfold abN at q
  by_cases c4 : a = 4
  · subst c4; exact oh_nf rfl q
  · refine oh_nt (ne (j := 4) (by omega) c4) ?_
    by_cases c5 : a = 5
    · subst c5; exact oh_nf rfl q
    · refine oh_nt (ne (j := 5) (by omega) c5) ?_
      by_cases c6 : a = 6
      · subst c6; exact oh_nf rfl q
      · rw [if_neg c4, if_neg c5, if_neg c6] at q
        exact oh_nt (ne (j := 6) (by omega) c6) q
theorem p_as {h k : oh_St} {v w : Int32} (H : R h k) : Both jX7_as jX8_as [.int v, .int w] h k := by
  intro d
  obtain ⟨B, b1, b2, b3, r⟩ := id H
  obtain ⟨h1, h2, h3, h4, h5, h6, h7, h8, h9⟩ := id b1
  obtain ⟨k1, k2, k3, k4, k5, k6, k7, k8, k9, k10⟩ := id b2
  have hok := h1.2.2.2.2.2.2
  have hn := hok.1
  by_cases c : oIn (sN (bS B)) v
  · obtain ⟨p, hp, rfl⟩ := c
    have hp6 : p < 6 := by omega
    by_cases c2 : oIn 7 w
    · obtain ⟨a, ha, rfl⟩ := c2
      have hK := (hok.2.1 p hp6).1
      refine mX7_as (sX7_isManT h1.1 hn hp (br_f (by decide) (br_f (nI_pos (by omega)) (br_t (nI_lt (b := 7) (by omega) (by omega)) ⟨oh_in hp6 (by omega), ?_⟩))))
      have e4 : h.1 4 p = nI (sM (bS B) p) := (h1.2.1 p hp6).2.1
      rw [oh_cl (by omega), (h1.2.1 p hp6).1]
      refine sX7_isOfKind hK (by omega) ?_
      have ok : MM (d + 99) jX8_of [.ref 0, .int (nI p), .int (1 : Int32)] k (oh_r1 (fun x10 h9 => oh_r1 (fun y k' => nI (sM (bS B) p) = y ∧ R h k') (some (.int x10)) h9)) := sX8_of (w := 1) hp6 (by omega) ⟨by rw [(k1.2.1 p hp6).2.1], H⟩
      refine oh_bn (fun z => ⟨oh_in hp6 (by omega), ?_⟩) (fun z => sX7_failed 5 (by decide) (by omega) (by omega) ?_)
      · rw [e4]
        refine mX8_as (sX8_isManT k1.1 hn hp (br_f (by decide) (sX8_inT 0 6 (by decide) (by decide) (nI_pos (by omega)) (nI_nlt (a := 6) (by omega) (by omega)) (oh_nt (by decide) (sX8_of (w := 0) hp6 (by omega) ?_)))))
        rw [(k1.2.1 p hp6).1]
        refine ⟨fun _ => ok, fun y => ⟨fun _ => ok, fun y2 => sX8_above hK (oh_nc (fun y3 => ?_) (fun _ => ok))⟩⟩
        unfold ofK at z
        simp only [Bool.or_eq_true, decide_eq_true_eq] at z
        rcases z with (z | z) | z
        · subst z; exact absurd rfl y
        · subst z; exact absurd rfl y2
        · exact absurd (by rw [z]) y3
      · unfold ofK at z
        simp only [Bool.or_eq_false_iff, decide_eq_false_iff_not] at z
        have hab : abN (sK (bS B) p) ≤ 6 := by unfold abN; split <;> (try split) <;> (try split) <;> omega
        refine mX8_as (sX8_isManT k1.1 hn hp (br_f (by decide) (sX8_inT 0 6 (by decide) (by decide) (nI_pos (by omega)) (nI_nlt (a := 6) (by omega) (by omega)) (oh_nt (by decide) (sX8_of (w := 0) hp6 (by omega) ?_)))))
        rw [(k1.2.1 p hp6).1]
        exact br_f (nI_ne0 (by omega) (by omega)) (br_f (fun e => z.1.2 ((nI_eq (by omega) (by omega)).mp e)) (sX8_above hK (oh_nt (fun e => z.2 ((nI_eq (by omega) (by omega)).mp e)) (sX8_finds 5 (by omega) ⟨by decide, R_fail H (by omega)⟩))))
    · have c3 := oIn_out (n := 6) (by omega) c2
      have M : MM (d + 100) jX8_as [.ref 0, .int (nI p), .int w] k (oh_r1 (fun y k' => (-1000000001 : Int32) = y ∧ R (oh_upi h 59 1 (h.1 59 1 + 1)) k')) := mX8_as (sX8_isManT k1.1 hn hp (br_f (by decide) (sX8_inF 0 6 (by decide) (by decide) c3 (oh_nf rfl (sX8_finds 1 (by omega) ⟨by decide, R_fail H (by omega)⟩)))))
      refine mX7_as (sX7_isManT h1.1 hn hp (br_f (by decide) ⟨fun _ => sX7_failed 1 (by decide) (by omega) (by omega) M, fun y => ⟨fun y2 => ?_, fun _ => sX7_failed 1 (by decide) (by omega) (by omega) M⟩⟩))
      exact absurd (oIn_of (n := 7) (by omega) y (Int32.not_le.mpr y2)) c2
  · refine mX7_as (sX7_isManF h1.1 hn c (br_t rfl (sX7_failed 1 (by decide) (by omega) (by omega) (mX8_as (sX8_isManF k1.1 hn c (br_t rfl (sX8_finds 1 (by omega) ⟨by decide, R_fail H (by omega)⟩)))))))
theorem p_ofMan {h k : oh_St} {v w : Int32} (H : R h k) : Both jX7_ofMan jX8_ofMan [.int v, .int w] h k := by
  intro d
  obtain ⟨B, b1, b2, b3, r⟩ := id H
  obtain ⟨h1, h2, h3, h4, h5, h6, h7, h8, h9⟩ := id b1
  obtain ⟨k1, k2, k3, k4, k5, k6, k7, k8, k9, k10⟩ := id b2
  have hok := h1.2.2.2.2.2.2
  have hn := hok.1
  have hw := sW_lt hok
  by_cases c : oIn (sN (bS B)) v
  · obtain ⟨p, hp, rfl⟩ := c
    have hp6 : p < 6 := by omega
    by_cases c2 : oIn 5 w
    · obtain ⟨a, ha, rfl⟩ := c2
      have M : ∀ (x : Int32), k.1 1 (8 + 5 * p + a) = x → MM (d + 100) jX8_ofMan [.ref 0, .int (nI p), .int (nI a)] k (oh_r1 (fun y k' => x = y ∧ R h k')) := fun x hx => mX8_ofMan (sX8_isManT k1.1 hn hp (br_f (by decide) (sX8_inT 0 4 (by decide) (by decide) (nI_pos (by omega)) (nI_nlt (a := 4) (by omega) (by omega)) (br_f (by decide) (sX8_of hp6 (by omega) ⟨hx.symm, H⟩)))))
      have ne : ∀ {j : Nat}, j ≤ 6 → a ≠ j → ¬ nI a = nI j := fun x y z => y ((nI_eq (by omega) (by omega)).mp z)
      refine mX7_ofMan (sX7_isManT h1.1 hn hp (oh_nt (by decide) ?_))
      rw [oh_cl (by omega)]
      have : a = 0 ∨ a = 1 ∨ a = 2 ∨ a = 3 ∨ a = 4 := by omega
      rcases this with rfl | rfl | rfl | rfl | rfl
      · exact br_t rfl ⟨oh_in hp6 (by omega), M _ (by rw [(h1.2.1 p hp6).1]; exact (k1.2.1 p hp6).1)⟩
      · exact br_f (by decide) (br_t rfl ⟨oh_in hp6 (by omega), M _ (by rw [(h1.2.1 p hp6).2.1]; exact (k1.2.1 p hp6).2.1)⟩)
      · refine br_f (by decide) (br_f (by decide) (br_t rfl ?_))
        rw [h1.2.2.1]
        exact sX7_bit (by omega) (by omega) (M _ (k1.2.1 p hp6).2.2.1)
      · exact br_f (by decide) (br_f (by decide) (br_f (by decide) (br_t rfl ⟨oh_in hp6 (by omega), M _ (by rw [(h1.2.1 p hp6).2.2]; exact (k1.2.1 p hp6).2.2.2)⟩)))
      · exact br_f (by decide) (br_f (by decide) (br_f (by decide) (br_f (by decide) (br_t rfl ⟨oh_in hp6 (by omega), M _ (by rw [h4 p hp6]; exact k5 p hp6)⟩))))
    · have c3 := oIn_out (n := 4) (by omega) c2
      have ne : ∀ {j : Nat}, j < 5 → ¬ w = nI j := fun x y => c2 ⟨_, x, y⟩
      refine mX7_ofMan (sX7_isManT h1.1 hn hp (oh_nt (by decide) (br_f (ne (j := 0) (by omega)) (br_f (ne (j := 1) (by omega)) (br_f (ne (j := 2) (by omega)) (br_f (ne (j := 3) (by omega)) (br_f (ne (j := 4) (by omega)) (sX7_failed 1 (by decide) (by omega) (by omega) ?_))))))))
      exact mX8_ofMan (sX8_isManT k1.1 hn hp (br_f (by decide) (sX8_inF 0 4 (by decide) (by decide) c3 (br_t rfl (sX8_finds 1 (by omega) ⟨by decide, R_fail H (by omega)⟩)))))
  · refine mX7_ofMan (sX7_isManF h1.1 hn c (oh_nf rfl (sX7_failed 1 (by decide) (by omega) (by omega) (mX8_ofMan (sX8_isManF k1.1 hn c (br_t rfl (sX8_finds 1 (by omega) ⟨by decide, R_fail H (by omega)⟩)))))))

/-! BOTH SIDES: look, odds -/
def sSeeE (S : oS) (p o : Nat) : oS := sSetE S p (sE S p ||| 2 ^ o)
theorem or_64 : ∀ e, e < 64 → ∀ o, o < 6 → e ||| 2 ^ o < 64 := by decide +kernel
theorem sSee_ok {S : oS} (h : sOk S) {p o : Nat} (hp : p < 6) (ho : o < 6) : sOk (sSeeE S p o) := by
  refine ⟨h.1, fun i hi => ⟨(h.2.1 i hi).1, (h.2.1 i hi).2.1, ?_⟩, h.2.2.1, h.2.2.2.1, h.2.2.2.2.1, h.2.2.2.2.2⟩
  show (if i = p then sE S p ||| 2 ^ o else sE S i) < 64
  split
  · exact or_64 _ (h.2.1 p hp).2.2 o ho
  · exact (h.2.1 i hi).2.2
theorem cSc_see {h : oh_St} {S : oS} {p o : Nat} (hp : p < 6) (ho : o < 6) (H : cSc h 37 S) : cSc (oh_upi h 40 p (nI (sE S p ||| 2 ^ o))) 37 (sSeeE S p o) := by
  obtain ⟨h1, h2, h3, h4, h5, h6, h7⟩ := H
  refine ⟨?_, fun i hi => ⟨?_, ?_, ?_⟩, ?_, h4, ?_, ?_, sSee_ok h7 hp ho⟩
  · rw [oh_g1, if_neg (by omega)]; exact h1
  · rw [oh_g1, if_neg (by omega)]; exact (h2 i hi).1
  · rw [oh_g1, if_neg (by omega)]; exact (h2 i hi).2.1
  · show _ = nI (if i = p then sE S p ||| 2 ^ o else sE S i)
    rw [oh_g1]
    by_cases z : i = p
    · rw [if_pos ⟨rfl, z⟩, if_pos z]
    · rw [if_neg (fun y => z y.2), if_neg z]; exact (h2 i hi).2.2
  · rw [oh_g1, if_neg (by omega)]; exact h3
  · rw [oh_g1, if_neg (by omega)]; exact h5
  · rw [oh_g1, if_neg (by omega)]; exact h6
theorem mSc_see {k : oh_St} {S : oS} {p o : Nat} (hp : p < 6) (ho : o < 6) (H : mSc k S) : mSc (oh_upi k 1 (8 + 5 * p + 3) (nI (sE S p ||| 2 ^ o))) (sSeeE S p o) := by
  obtain ⟨h1, h2, h3, h4, h5, h6⟩ := H
  refine ⟨?_, fun i hi => ⟨?_, ?_, ?_, ?_⟩, h3, ?_, ?_, sSee_ok h6 hp ho⟩
  · rw [oh_g1, if_neg (by omega)]; exact h1
  · rw [oh_g1, if_neg (by omega)]; exact (h2 i hi).1
  · rw [oh_g1, if_neg (by omega)]; exact (h2 i hi).2.1
  · rw [oh_g1, if_neg (by omega)]; exact (h2 i hi).2.2.1
  · show _ = nI (if i = p then sE S p ||| 2 ^ o else sE S i)
    rw [oh_g1]
    by_cases z : i = p
    · rw [if_pos ⟨rfl, by omega⟩, if_pos z]
    · rw [if_neg (by omega), if_neg z]; exact (h2 i hi).2.2.2
  · rw [oh_g1, if_neg (by omega)]; exact h4
  · rw [oh_g1, if_neg (by omega)]; exact h5
/-- the soonest by one more that is seen: whom, when -/
def lkF (g : Nat → Bool) (v : Nat → Nat) : Nat → Option (Nat × Nat)
  | 0 => none
  | o + 1 => if g o then (if v o = 31 then lkF g v o else (match lkF g v o with
      | none => some (o, v o)
      | some r => if v o < r.2 then some (o, v o) else some r)) else lkF g v o
def lkS (o : Option (Nat × Nat)) : Nat := match o with
  | none => 31
  | some r => r.2
theorem lkF_bd {g : Nat → Bool} {v : Nat → Nat} (hv : ∀ o, v o ≤ 31) : ∀ n r, lkF g v n = some r → r.1 < n ∧ r.2 < 31
  | 0, r, h => by cases h
  | n + 1, r, h => by
    unfold lkF at h
    have := hv n
    split at h
    · split at h
      · have ih := lkF_bd hv n r h
        exact ⟨by omega, ih.2⟩
      · cases h2 : lkF g v n with
        | none =>
          rw [h2] at h
          cases h
          exact ⟨by show n < n + 1; omega, by show v n < 31; omega⟩
        | some r2 =>
          rw [h2] at h
          have ih := lkF_bd hv n r2 h2
          dsimp only at h
          split at h
          · cases h
            exact ⟨by show n < n + 1; omega, by show v n < 31; omega⟩
          · cases h
            exact ⟨by omega, ih.2⟩
    · have ih := lkF_bd hv n r h
      exact ⟨by omega, ih.2⟩
theorem lkF_step {g : Nat → Bool} {v : Nat → Nat} {o : Nat} (hv : ∀ o, v o ≤ 31) (hg : g o = true) : lkF g v (o + 1) = if v o < lkS (lkF g v o) then some (o, v o) else lkF g v o := by
  have := hv o
  rw [lkF, if_pos hg]
  by_cases c : v o = 31
  · rw [if_pos c]
    cases h : lkF g v o with
    | none =>
      exact (if_neg (show ¬ v o < 31 by omega)).symm
    | some r =>
      have := (lkF_bd hv o r h).2
      exact (if_neg (show ¬ v o < r.2 by omega)).symm
  · rw [if_neg c]
    cases h : lkF g v o with
    | none =>
      exact (if_pos (show v o < 31 by omega)).symm
    | some r => rfl
def lkV (B : oBk) (p o : Nat) : Nat := sn (bF B) (cOf 1 (bX B 1)) (sSeeE (bS B) p o, bD B, bZ B) p
def lkG (B : oBk) (p o : Nat) : Bool := !decide (o = p) && !(sE (bS B) p).testBit o
theorem lkV_le (B : oBk) (p o : Nat) : lkV B p o ≤ 31 := sn_le _ _ _ _
theorem cLook {d p : Nat} {K : Int32 → oh_St → Prop} {h : oh_St} {B : oBk} (b1 : cB h 1 B) (r : h.1 7 0 = 0 ∧ h.1 11 0 = 1) (b3 : bOk B) (hp : p < sN (bS B))
    (q1 : ∀ h' t, ahF h h' → lkF (lkG B p) (lkV B p) (sN (bS B)) = some t → K (nI t.1) h') (q0 : ∀ h', ahF h h' → lkF (lkG B p) (lkV B p) (sN (bS B)) = none → K (-1000000002) (oh_upi h' 59 2 (h'.1 59 2 + 1))) : wX7_look_43 (d + 9) (oh_r1 K) (nI p) 31 (-1) 0 h := by
  have hl := cB_law (u := 1) b1 r (by omega)
  have b39 := b3.1
  have hok := b1.1.2.2.2.2.2.2
  have hn6 := hok.1
  have hp6 : p < 6 := by omega
  have hv := lkV_le B p
  have hE := (hok.2.1 p hp6).2.2
  have key : ∀ o, o ≤ sN (bS B) → ∀ h', ahF h h' → wX7_look_43 (d + 9) (oh_r1 K) (nI p) (nI (lkS (lkF (lkG B p) (lkV B p) o))) (tgB (lkF (lkG B p) (lkV B p) o)) (nI o) h' := by
    refine oh_up (fun o ho ih => ?_) ?_
    · intro h' f
      have b1' := cB_ah b1 f
      have e20 : h'.1 2 0 = nI (sN (bS B)) := b1'.1.1
      have e5 : h'.1 5 p = nI (sE (bS B) p) := (b1'.1.2.1 p hp6).2.2
      refine bX7_look_43 ?_
      rw [e20, oh_cl (by omega), e5, nI_1]
      refine br_f (nI_ge ho (by omega)) ⟨fun y => ?_, fun y => ⟨oh_in hp6 (by omega), sX7_bit (by omega) (by omega) (oh_bn (fun z => ?_) (fun z => sX7_startAhead b1' (fun h1 f1 f2 c1 hf => ⟨oh_in hp6 (by omega), oh_in hp6 (by omega), ?_⟩)))⟩⟩
      · have y := (nI_eq (by omega) (by omega)).mp y
        have g : lkG B p o = false := by unfold lkG; rw [y]; simp
        rw [lkF, if_neg (by rw [g]; decide)] at ih
        exact ih h' f
      · have g : lkG B p o = false := by unfold lkG; rw [z]; simp
        rw [lkF, if_neg (by rw [g]; decide)] at ih
        exact ih h' f
      · have y : ¬ o = p := fun e => y (by rw [e])
        have g : lkG B p o = true := by unfold lkG; rw [z]; simp [y]
        have e40 : h1.1 40 p = nI (sE (bS B) p) := (c1.1.2.1 p hp6).2.2
        have o6 : o < 6 := by omega
        rw [e40, ob_pow (by omega), ob_or]
        have a1 := ahF_tr f (ahF_s f1 f2)
        have a2 := ahF_tr a1 (ahF_u h1 p (nI (sE (bS B) p ||| 2 ^ o)) (a := 40) (by omega))
        have cs : cI (oh_upi h1 40 p (nI (sE (bS B) p ||| 2 ^ o))) 37 (sSeeE (bS B) p o, bD B, bZ B) := ⟨cSc_see hp6 o6 c1.1, fun i hi => by rw [oh_g1, if_neg (by omega)]; exact c1.2.1 i hi, by rw [oh_g1, if_neg (by omega)]; exact c1.2.2⟩
        refine sX7_bellsTillSpoken (fi := bF B) cs (by rw [oh_g1, if_neg (by omega)]; exact hf) (lawIs_ah hl a2) (by show sB (bS B) < 400; omega) hp6 (fun h2 fr => ?_)
        have a3 := ahF_tr a2 (ahF_o fr)
        have I := ih h2 a3
        rw [lkF_step hv g] at I
        have hv1 := hv o
        have s31 : lkS (lkF (lkG B p) (lkV B p) o) ≤ 31 := by
          cases hh : lkF (lkG B p) (lkV B p) o with
          | none => exact Nat.le_refl _
          | some r => have := (lkF_bd hv o r hh).2; show r.2 ≤ 31; omega
        by_cases c : lkV B p o < lkS (lkF (lkG B p) (lkV B p) o)
        · rw [if_pos c] at I
          exact br_f (nI_ge c (by omega)) I
        · rw [if_neg c] at I
          exact br_t (nI_le (b := lkV B p o) (by omega) (by omega)) I
    · intro h' f
      have b1' := cB_ah b1 f
      have e20 : h'.1 2 0 = nI (sN (bS B)) := b1'.1.1
      refine bX7_look_43 ?_
      rw [e20]
      refine br_t (nI_le (Nat.le_refl _) (by omega)) ?_
      cases hh : lkF (lkG B p) (lkV B p) (sN (bS B)) with
      | none => exact br_f (by decide) (sX7_failed 2 (by decide) (by omega) (by omega) (q0 h' f hh))
      | some t =>
        have := (lkF_bd hv _ t hh).1
        exact br_t (nI_pos' (by omega)) (q1 h' t f hh)
  exact key 0 (Nat.zero_le _) h (ahF_rf h)
theorem mLook {d p : Nat} {K : Int32 → oh_St → Prop} {h k : oh_St} {B : oBk} (b1 : cB h 1 B) (b2 : mB k B) (b3 : bOk B) (op : bO B = true) (hp : p < sN (bS B))
    (q : ∀ k', back k k' → ((∀ t, lkF (lkG B p) (lkV B p) (sN (bS B)) = some t → K (nI t.1) k') ∧ (lkF (lkG B p) (lkV B p) (sN (bS B)) = none → K (-1000000002) (oh_upi k' 4 2 (k'.1 4 2 + 1))))) : wX8_look_28 (d + 50) (oh_r1 K) (nI p) (-1) 0 0 k := by
  have b39 := b3.1
  have hok := b1.1.2.2.2.2.2.2
  have hn6 := hok.1
  have hp6 : p < 6 := by omega
  have hv := lkV_le B p
  have hE := (hok.2.1 p hp6).2.2
  have key : ∀ o, o ≤ sN (bS B) → ∀ k', back k k' → wX8_look_28 (d + 50) (oh_r1 K) (nI p) (tgB (lkF (lkG B p) (lkV B p) o)) (nI (tgL (lkF (lkG B p) (lkV B p) o))) (nI o) k' := by
    refine oh_up (fun o ho ih => ?_) ?_
    · intro k' bk
      have m1 := mB_bk b1 b2 bk
      have ek : k'.1 1 (8 + 5 * p + 3) = nI (sE (bS B) p) := (m1.1.2.1 p hp6).2.2.2
      refine bX8_look_28 ⟨om_in (n := 0) (by omega), ?_⟩
      rw [om_0, m1.1.1, nI_1]
      refine br_f (nI_ge ho (by omega)) ⟨fun y => ?_, fun y => sX8_of (w := 3) hp6 (by omega) ?_⟩
      · have y := (nI_eq (by omega) (by omega)).mp y
        have g : lkG B p o = false := by unfold lkG; rw [y]; simp
        rw [lkF, if_neg (by rw [g]; decide)] at ih
        exact ih k' bk
      · have y : ¬ o = p := fun e => y (by rw [e])
        rw [ek, ob_bit (by omega) (by omega)]
        refine oh_bn (fun z => ?_) (fun z => sX8_begins (fun k1 sv bk1 => sX8_of (w := 3) hp6 (by omega) ?_))
        · have g : lkG B p o = false := by unfold lkG; rw [z]; simp
          rw [lkF, if_neg (by rw [g]; decide)] at ih
          exact ih k' bk
        · have g : lkG B p o = true := by unfold lkG; rw [z]; simp [y]
          have o6 : o < 6 := by omega
          have m2 := mB_bk b1 b2 (back_tr bk bk1)
          have ek1 : k1.1 1 (8 + 5 * p + 3) = nI (sE (bS B) p) := (m2.1.2.1 p hp6).2.2.2
          rw [ek1, ob_pow (by omega), ob_or]
          refine sX8_becomes (w := 3) hp6 (by omega) ?_
          have mI4 := mI_B b1 m2 op
          have tx4 : txIs (oh_upi k1 1 (8 + 5 * p + 3) (nI (sE (bS B) p ||| 2 ^ o))) 1 1 (bX B 1) := txIs_1 (by omega) m2.2.2.2.2.2.2.1 (fun b x y => by rw [oh_g1, if_neg (by omega)])
          refine sX8_soonest (fi := bF B) (x := (sSeeE (bS B) p o, bD B, bZ B)) ⟨mSc_see hp6 o6 mI4.1, fun i hi => by rw [oh_g1, if_neg (by omega)]; exact mI4.2.1 i hi, by rw [oh_g1, if_neg (by omega)]; exact mI4.2.2⟩ tx4 (by rw [oh_g1, if_neg (by omega)]; exact m2.2.2.2.1) (by show sB (bS B) < 400; omega) hp6 (fun k6 r6 => sX8_ends (saved_r (saved_p sv) r6) (fun k7 bk7 => ?_))
          have I := ih k7 (back_tr bk bk7)
          have hv1 : sn (bF B) (cOf 1 (bX B 1)) (sSeeE (bS B) p o, bD B, bZ B) p ≤ 31 := hv o
          rw [lkF, if_pos g] at I
          unfold snM
          by_cases c : sn (bF B) (cOf 1 (bX B 1)) (sSeeE (bS B) p o, bD B, bZ B) p = 31
          · rw [if_pos c]
            rw [if_pos (show lkV B p o = 31 from c)] at I
            exact br_t (by decide) I
          · rw [if_neg c]
            rw [if_neg (show ¬ lkV B p o = 31 from c)] at I
            refine br_f (nI_pos (by omega)) ?_
            cases hh : lkF (lkG B p) (lkV B p) o with
            | none =>
              rw [hh] at I
              exact br_t (by decide) I
            | some t =>
              rw [hh] at I
              dsimp only at I
              have hb := lkF_bd hv o t hh
              refine br_f (nI_pos (by omega)) ?_
              by_cases c2 : lkV B p o < t.2
              · rw [if_pos c2] at I
                exact br_f (nI_ge (b := t.2) (show sn (bF B) (cOf 1 (bX B 1)) (sSeeE (bS B) p o, bD B, bZ B) p < t.2 from c2) (by omega)) I
              · rw [if_neg c2] at I
                have c2 : ¬ sn (bF B) (cOf 1 (bX B 1)) (sSeeE (bS B) p o, bD B, bZ B) p < t.2 := c2
                exact br_t (nI_le (a := t.2) (by omega) (by omega)) I
    · intro k' bk
      have m1 := mB_bk b1 b2 bk
      have Q := q k' bk
      refine bX8_look_28 ⟨om_in (n := 0) (by omega), ?_⟩
      rw [om_0, m1.1.1]
      refine br_t (nI_le (Nat.le_refl _) (by omega)) ?_
      cases hh : lkF (lkG B p) (lkV B p) (sN (bS B)) with
      | none => exact br_f (by decide) (sX8_finds 2 (by omega) (Q.2 hh))
      | some t =>
        have := (lkF_bd hv _ t hh).1
        exact br_t (nI_pos' (by omega)) (Q.1 t hh)
  exact key 0 (Nat.zero_le _) k (back_rf k)
theorem p_look {h k : oh_St} {v : Int32} (H : R h k) : Both jX7_look jX8_look [.int v] h k := by
  intro d
  obtain ⟨B, b1, b2, b3, r⟩ := id H
  have h27 : h.1 2 7 = oh_b (bO B) := b1.2.1
  have k3 := b2.2.2.1
  have hn6 := b1.1.2.2.2.2.2.2.1
  by_cases c2 : oIn (sN (bS B)) v
  · obtain ⟨p, hp, rfl⟩ := c2
    refine mX7_look (sX7_isManT b1.1.1 hn6 hp (oh_nt (by decide) ?_))
    rw [h27]
    have pre : ∀ (K : Int32 → oh_St → Prop), _ → MM (d + 100) jX8_look [.ref 0, .int (nI p)] k (oh_r1 K) := fun K q => mX8_look (sX8_isManT b2.1.1 hn6 hp q)
    refine oh_bn (fun op => cLook (d := d + 90) b1 r.1 b3 hp (fun h' t f e => ?_) (fun h' f e => ?_)) (fun z => sX7_failed 3 (by decide) (by omega) (by omega) (pre _ (sX8_whyY k3 (fun y => by rw [z] at y; cases y) (fun _ => br_f (by decide) (sX8_finds 3 (by omega) ⟨by decide, R_fail H (by omega)⟩)))))
    · exact pre _ (sX8_whyY k3 (fun _ => br_t rfl (mLook (d := d + 49) b1 b2 b3 op hp (fun k' bk => ⟨fun t2 e2 => ⟨by rw [e] at e2; cases e2; rfl, R_ah H f bk⟩, fun e2 => by rw [e] at e2; cases e2⟩))) (fun y => by rw [op] at y; cases y))
    · exact pre _ (sX8_whyY k3 (fun _ => br_t rfl (mLook (d := d + 49) b1 b2 b3 op hp (fun k' bk => ⟨fun t2 e2 => (by rw [e] at e2; cases e2), fun e2 => ⟨rfl, R_fail (R_ah H f bk) (by omega)⟩⟩))) (fun y => by rw [op] at y; cases y))
  · exact mX7_look (sX7_isManF b1.1.1 hn6 c2 (oh_nf rfl (sX7_failed 1 (by decide) (by omega) (by omega) (mX8_look (sX8_isManF b2.1.1 hn6 c2 (sX8_whyN (br_f (by decide) (sX8_finds 1 (by omega) ⟨by decide, R_fail H (by omega)⟩))))))))
/-! odds -/
def BothL (jc jm : Nat) (args : List Value) (h k : oh_St) : Prop := ∀ d, CM (d + 100) jc (.ref 0 :: args) h (oh_r2 (fun x h' => MM (d + 100) jm (.ref 0 :: args) k (oh_r2 (fun y k' => x = y ∧ R h' k'))))
theorem om_rem : ∀ x, x < 65 → ∀ y, y < 65 → y ≠ 0 → nI x - nI x / nI y * nI y = nI (x % y) := by decide +kernel
theorem cGcd {d : Nat} {K : Int32 → oh_St → Prop} {h : oh_St} : ∀ (f i x y : Nat), f + i = 64 → y ≤ f → x < 65 → K (nI (Nat.gcd x y)) h → wX7_commonDivisor_7 d (oh_r1 K) (nI x) (nI y) (nI i) h
  | 0, i, x, y, hi, hy, hx, q => by
    have : y = 0 := by omega
    subst this
    rw [Nat.gcd_zero_right] at q
    exact bX7_commonDivisor_7 (br_t (nI_le (a := 64) (by omega) (by omega)) q)
  | f + 1, i, x, y, hi, hy, hx, q => by
    refine bX7_commonDivisor_7 (br_f (nI_ge (b := 64) (by omega) (by omega)) ?_)
    by_cases c : y = 0
    · subst c
      rw [Nat.gcd_zero_right] at q
      exact br_t rfl q
    · refine br_f (nI_ne0 (by omega) (by omega)) ⟨nI_ne0 (by omega) (by omega), ?_⟩
      rw [om_rem x hx y (by omega) c, nI_1]
      have lt := Nat.mod_lt x (show y > 0 by omega)
      refine cGcd f (i + 1) y (x % y) (by omega) (by omega) (by omega) ?_
      rw [Nat.gcd_comm, Nat.gcd_rec, Nat.gcd_comm] at q
      exact q
theorem mGcd {d : Nat} {K : Int32 → oh_St → Prop} {k : oh_St} : ∀ (f x y : Nat), y ≤ f → f < 65 → x < 65 → K (nI (Nat.gcd x y)) k → wX8_common_4 d (oh_r1 K) (nI x) (nI y) k
  | 0, x, y, hy, hf, hx, q => by
    have : y = 0 := by omega
    subst this
    rw [Nat.gcd_zero_right] at q
    exact bX8_common_4 (br_t rfl q)
  | f + 1, x, y, hy, hf, hx, q => by
    by_cases c : y = 0
    · subst c
      rw [Nat.gcd_zero_right] at q
      exact bX8_common_4 (br_t rfl q)
    · refine bX8_common_4 (br_f (nI_ne0 (by omega) (by omega)) ⟨nI_ne0 (by omega) (by omega), ?_⟩)
      rw [om_rem x hx y (by omega) c]
      have lt := Nat.mod_lt x (show y > 0 by omega)
      refine mGcd f y (x % y) (by omega) (by omega) (by omega) ?_
      rw [Nat.gcd_comm, Nat.gcd_rec, Nat.gcd_comm] at q
      exact q
theorem p_odds {h k : oh_St} {v w : Int32} (H : R h k) : BothL jX7_odds jX8_odds [.int v, .int w] h k := by
  intro d
  obtain ⟨B, b1, b2, b3, r⟩ := id H
  have h27 : h.1 2 7 = oh_b (bO B) := b1.2.1
  have h25 : h.1 2 5 = nI (sW (bS B)) := b1.1.2.2.1
  have k3 := b2.2.2.1
  have hok := b1.1.2.2.2.2.2.2
  have hn6 := hok.1
  have hW := sW_lt hok
  by_cases c : oIn (sN (bS B)) v
  · obtain ⟨p, hp, rfl⟩ := c
    have hp6 : p < 6 := by omega
    by_cases c2 : oIn 2 w
    · obtain ⟨a, ha, rfl⟩ := c2
      have pre : ∀ (K : Int64 → oh_St → Prop), _ → MM (d + 100) jX8_odds [.ref 0, .int (nI p), .int (nI a)] k (oh_r2 K) := fun K q => mX8_odds (sX8_isManT b2.1.1 hn6 hp (br_f (by decide) (sX8_inT 0 1 (by decide) (by decide) (nI_pos (by omega)) (nI_nlt (a := 1) (by omega) (by omega)) (br_f (by decide) q))))
      refine mX7_odds (sX7_isManT b1.1.1 hn6 hp (br_f (by decide) (br_f (nI_pos (by omega)) (br_t (nI_le (b := 1) (by omega) (by omega)) ?_))))
      rw [h27, h25]
      refine oh_bn (fun op => sX4_thought (Or.inl rfl) b1.1 hp6 hW (sX7_blacks (sCell_lt _ _ _) hp6 ?_)) (fun z => sX7_failed 3 (by decide) (by omega) (by omega) (pre _ (sX8_whyY k3 (fun y => by rw [z] at y; cases y) (fun _ => br_f (by decide) (sX8_finds 3 (by omega) ⟨by decide, R_fail H (by omega)⟩)))))
      have hk := mSc_0 b2.1 (b2.2.1 op) hok
      have lb := oBl_le p (sCell (bS B) p (sW (bS B)))
      have sum : oBl p (sCell (bS B) p (sW (bS B))) + oWh p (sCell (bS B) p (sW (bS B))) = ob_ct (sCell (bS B) p (sW (bS B))) 64 := bl_wh p _ 64
      have la : ob_ct (sCell (bS B) p (sW (bS B))) 64 ≤ 64 := fb_ct_le _ _
      -- the model up to its branch
      have mdl : ∀ (K : Int64 → oh_St → Prop), (∀ k', oSame k k' [6, 7, 8, 9] → ((¬ nI (oBl p (sCell (bS B) p (sW (bS B)))) = 0 → ((¬ nI a = 0 → MM (d + 99) jX8_common [.int (nI (oBl p (sCell (bS B) p (sW (bS B))))), .int (nI (ob_ct (sCell (bS B) p (sW (bS B))) 64))] k' (oh_r1 (fun x15 h14 => (¬ x15 = 0 ∧ K ((nI (ob_ct (sCell (bS B) p (sW (bS B))) 64) / x15).toInt64) h14)))) ∧ (nI a = 0 → MM (d + 99) jX8_common [.int (nI (oBl p (sCell (bS B) p (sW (bS B))))), .int (nI (ob_ct (sCell (bS B) p (sW (bS B))) 64))] k' (oh_r1 (fun x17 h16 => (¬ x17 = 0 ∧ K ((nI (oBl p (sCell (bS B) p (sW (bS B)))) / x17).toInt64) h16)))))) ∧ (nI (oBl p (sCell (bS B) p (sW (bS B)))) = 0 → K ((nI a).toInt64) k'))) → MM (d + 100) jX8_odds [.ref 0, .int (nI p), .int (nI a)] k (oh_r2 K) := by
        intro K q
        refine pre _ (sX8_whyY k3 (fun _ => br_t rfl (sX8_think hk (fun k1 s1 t1 => ?_))) (fun y => by rw [op] at y; cases y))
        have hk1 := mSc_same hk s1 (by simp)
        refine sX8_hats hk1 (sX8_blackOf hk1 t1 hp hW (sX8_hats hk1 (sX8_whiteOf hk1 t1 hp hW ?_)))
        rw [nI_add, sum]
        exact q k1 s1
      by_cases c0 : oBl p (sCell (bS B) p (sW (bS B))) = 0
      · rw [c0] at mdl ⊢
        exact oh_nf rfl (mdl _ (fun k' s => oh_nf rfl ⟨rfl, R_th H s⟩))
      · have n0 : ¬ nI (oBl p (sCell (bS B) p (sW (bS B)))) = 0 := nI_ne0 (by omega) (by omega)
        have g0 : 0 < Nat.gcd (oBl p (sCell (bS B) p (sW (bS B)))) (ob_ct (sCell (bS B) p (sW (bS B))) 64) := Nat.gcd_pos_of_pos_left _ (by omega)
        have gl : Nat.gcd (oBl p (sCell (bS B) p (sW (bS B)))) (ob_ct (sCell (bS B) p (sW (bS B))) 64) ≤ 64 := Nat.le_trans (Nat.le_of_dvd (by omega) (Nat.gcd_dvd_left _ _)) lb
        have gn : ¬ nI (Nat.gcd (oBl p (sCell (bS B) p (sW (bS B)))) (ob_ct (sCell (bS B) p (sW (bS B))) 64)) = 0 := nI_ne0 g0 (by omega)
        refine oh_nt n0 (sJ13_bitCount (sCell_lt _ _ _) (mX7_commonDivisor (cGcd 64 0 _ _ rfl la (by omega) ?_)))
        have : a = 0 ∨ a = 1 := by omega
        rcases this with rfl | rfl
        · refine oh_nf rfl (oh_nt gn ⟨gn, mdl _ (fun k' s => oh_nt n0 (oh_nf rfl (mX8_common (mGcd 64 _ _ la (by omega) (by omega) ⟨gn, rfl, R_th H s⟩))))⟩)
        · refine oh_nt (by decide) (oh_nt gn ⟨gn, mdl _ (fun k' s => oh_nt n0 (oh_nt (by decide) (mX8_common (mGcd 64 _ _ la (by omega) (by omega) ⟨gn, rfl, R_th H s⟩))))⟩)
    · have c3 := oIn_out (n := 1) (by omega) c2
      have M : MM (d + 100) jX8_odds [.ref 0, .int (nI p), .int w] k (oh_r2 (fun y k' => (-1000000001 : Int32).toInt64 = y ∧ R (oh_upi h 59 1 (h.1 59 1 + 1)) k')) := mX8_odds (sX8_isManT b2.1.1 hn6 hp (br_f (by decide) (sX8_inF 0 1 (by decide) (by decide) c3 (br_t rfl (sX8_whyN (br_f (by decide) (sX8_finds 1 (by omega) ⟨by decide, R_fail H (by omega)⟩)))))))
      refine mX7_odds (sX7_isManT b1.1.1 hn6 hp (br_f (by decide) ⟨fun _ => sX7_failed 1 (by decide) (by omega) (by omega) M, fun y => ⟨fun y2 => ?_, fun _ => sX7_failed 1 (by decide) (by omega) (by omega) M⟩⟩))
      exact absurd ((oIn_le (n := 1) (by omega)).mp ⟨y, Int32.not_lt.mpr y2⟩) c2
  · exact mX7_odds (sX7_isManF b1.1.1 hn6 c (br_t rfl (sX7_failed 1 (by decide) (by omega) (by omega) (mX8_odds (sX8_isManF b2.1.1 hn6 c (br_t rfl (sX8_whyN (br_f (by decide) (sX8_finds 1 (by omega) ⟨by decide, R_fail H (by omega)⟩)))))))))

/-! THE CLASS: rows, and a law worked out from its code -/
/-- all but some cells is as it was -/
def oSame (h h' : oh_St) (X : List Nat) : Prop := (∀ a b, a ∉ X → h'.1 a b = h.1 a b) ∧ h'.2 = h.2
theorem oSame_rf (h : oh_St) (X : List Nat) : oSame h h X := ⟨fun _ _ _ => rfl, rfl⟩
theorem oSame_up {h h' : oh_St} {X : List Nat} (H : oSame h h' X) {o k : Nat} {v : Int32} (ho : o ∈ X) : oSame h (oh_upi h' o k v) X := ⟨fun a b ha => by
  rw [oh_g1, if_neg (fun z : a = o ∧ b = k => ha (by rw [z.1]; exact ho))]
  exact H.1 a b ha, H.2⟩
theorem oSame_tr {h h' h2 : oh_St} {X : List Nat} (H : oSame h h' X) (H2 : oSame h' h2 X) : oSame h h2 X := ⟨fun a b ha => (H2.1 a b ha).trans (H.1 a b ha), H2.2.trans H.2⟩
theorem oSame_mono {h h' : oh_St} {X Y : List Nat} (H : oSame h h' X) (hs : ∀ a ∈ X, a ∈ Y) : oSame h h' Y := ⟨fun a b ha => H.1 a b (fun z => ha (hs a z)), H.2⟩
def oRow (o : Nat) : Prop := o = 8 ∨ o = 12 ∨ o = 15 ∨ o = 17 ∨ o = 26 ∨ o = 30 ∨ o = 33 ∨ o = 35 ∨ o = 43 ∨ o = 45 ∨ o = 48
theorem oRow_cap {o : Nat} (h : oRow o) : oh_ln1 o ≤ 50 := by rcases h with rfl | rfl | rfl | rfl | rfl | rfl | rfl | rfl | rfl | rfl | rfl <;> decide
/-- a row holds a list -/
def rowIs (h : oh_St) (o : Nat) (l : List Int32) : Prop := h.1 o 1 = nI l.length ∧ (∀ i, i < l.length → h.1 (o + 1) i = l.getD i 0) ∧ l.length ≤ oh_ln1 o
theorem rowIs_same {h h' : oh_St} {o : Nat} {l : List Int32} {X : List Nat} (H : rowIs h o l) (hs : oSame h h' X) (h1 : o ∉ X) (h2 : o + 1 ∉ X) : rowIs h' o l := ⟨(hs.1 o 1 h1).trans H.1, fun i hi => (hs.1 (o + 1) i h2).trans (H.2.1 i hi), H.2.2⟩
theorem sX3_get {d : Nat} {K : Int32 → oh_St → Prop} {h : oh_St} {o i : Nat} {l : List Int32} (ho : oRow o) (hr : rowIs h o l) (hi : i < l.length) (q : K (l.getD i 0) h) : CM (d + 1) jX3_get [.ref o, .int (nI i)] h (oh_r1 K) := by
  have hc := oRow_cap ho
  obtain ⟨h1, h2, h3⟩ := hr
  refine mX3_get ho (br_f (nI_pos (by omega)) ?_)
  rw [h1]
  refine br_f (nI_ge hi (by omega)) (br_f (nI_ge (Nat.lt_of_lt_of_le hi h3) (by omega)) ⟨oh_in (Nat.lt_of_lt_of_le hi h3) (by omega), ?_⟩)
  show K _ h
  rw [oh_cl (by omega), h2 i hi]
  exact q
theorem sX3_clear {d : Nat} {K : oh_St → Prop} {h : oh_St} {o : Nat} (ho : oRow o) (q : K (oh_upi h o 1 0)) : CM (d + 1) jX3_clear [.ref o] h (oh_r0 K) := mX3_clear ho q
/-- a row with one more -/
def rowAdd (h : oh_St) (o n : Nat) (v : Int32) : oh_St := oh_upi (oh_upi h (o + 1) n v) o 1 (nI (n + 1))
theorem rowAdd_is {h : oh_St} {o : Nat} {l : List Int32} {v : Int32} (hr : rowIs h o l) (hl : l.length < oh_ln1 o) : rowIs (rowAdd h o l.length v) o (l ++ [v]) := by
  obtain ⟨h1, h2, h3⟩ := hr
  refine ⟨?_, fun i hi => ?_, ?_⟩
  · rw [rowAdd, oh_g1, if_pos ⟨rfl, rfl⟩]
    simp
  · rw [rowAdd, oh_g1, if_neg (by omega), oh_g1]
    simp only [List.length_append, List.length_singleton] at hi
    by_cases hil : i = l.length
    · subst hil
      rw [if_pos ⟨rfl, rfl⟩]
      simp
    · rw [if_neg (fun z => hil z.2), h2 i (by omega)]
      simp [List.getD, List.getElem?_append_left (show i < l.length by omega)]
  · simp; omega
theorem rowAdd_same (h : oh_St) (o n : Nat) (v : Int32) : oSame h (rowAdd h o n v) [o, o + 1] := oSame_up (oSame_up (oSame_rf h _) (by simp)) (by simp)
theorem sX3_add {d : Nat} {K : oh_St → Prop} {h : oh_St} {o : Nat} {l : List Int32} {v : Int32} (ho : oRow o) (hr : rowIs h o l) (hl : l.length < oh_ln1 o) (q : K (rowAdd h o l.length v)) : CM (d + 1) jX3_add [.ref o, .int v] h (oh_r0 K) := by
  have hc := oRow_cap ho
  refine mX3_add ho ?_
  obtain ⟨h1, h2, h3⟩ := hr
  rw [h1]
  refine br_f (nI_ge hl (by omega)) ⟨oh_in hl (by omega), ?_⟩
  show K _
  rw [oh_g1, if_neg (by omega), h1, oh_cl (by omega), show (1 : Int32) = nI 1 from rfl, nI_add]
  exact q
def oTake (o o2 : Nat) : Prop := (o = 8 ∧ o2 = 26) ∨ (o = 8 ∧ o2 = 43) ∨ (o = 12 ∧ o2 = 30) ∨ (o = 12 ∧ o2 = 43) ∨ (o = 15 ∧ o2 = 33) ∨ (o = 17 ∧ o2 = 35) ∨ (o = 26 ∧ o2 = 8) ∨ (o = 30 ∧ o2 = 12) ∨ (o = 33 ∧ o2 = 15) ∨ (o = 35 ∧ o2 = 17) ∨ (o = 45 ∧ o2 = 15)
theorem oTake_r {o o2 : Nat} (h : oTake o o2) : oRow o ∧ oRow o2 ∧ oh_ln1 o = oh_ln1 o2 ∧ o2 ∉ [o, o + 1] ∧ o2 + 1 ∉ [o, o + 1] := by
  unfold oRow
  rcases h with ⟨rfl, rfl⟩ | ⟨rfl, rfl⟩ | ⟨rfl, rfl⟩ | ⟨rfl, rfl⟩ | ⟨rfl, rfl⟩ | ⟨rfl, rfl⟩ | ⟨rfl, rfl⟩ | ⟨rfl, rfl⟩ | ⟨rfl, rfl⟩ | ⟨rfl, rfl⟩ | ⟨rfl, rfl⟩ <;> exact ⟨by omega, by omega, by decide, by decide, by decide⟩
theorem sX3_take {d : Nat} {K : oh_St → Prop} {h : oh_St} {o o2 : Nat} {l : List Int32} (ho : oTake o o2) (hr : rowIs h o2 l) (q : ∀ h', rowIs h' o l → oSame h h' [o, o + 1] → K h') : CM (d + 2) jX3_take [.ref o, .ref o2] h (oh_r0 K) := by
  obtain ⟨r1, r2, hcap, n1, n2⟩ := oTake_r ho
  have hc := oRow_cap r2
  have hl := hr.2.2
  refine mX3_take ho (sX3_clear r1 ?_)
  have key : ∀ i, i ≤ l.length → ∀ h', rowIs h' o (l.take i) → oSame h h' [o, o + 1] → wX3_take_6 (d + 1) (oh_r0 K) o o2 (nI i) h' := by
    refine oh_up (fun i hi ih => ?_) ?_
    · intro h' hr' hs
      have hr2 := rowIs_same hr hs n1 n2
      refine bX3_take_6 ho ?_
      rw [hr2.1]
      refine br_f (nI_ge hi (by omega)) (sX3_get r2 hr2 hi (sX3_add r1 hr' (by simp; omega) ?_))
      rw [show (1 : Int32) = nI 1 from rfl, nI_add]
      have hlen : (l.take i).length < oh_ln1 o := by simp; omega
      have := rowAdd_is (v := l.getD i 0) hr' hlen
      rw [show l.take i ++ [l.getD i 0] = l.take (i + 1) by
        rw [List.take_add_one]
        simp [List.getD, List.getElem?_eq_getElem hi]] at this
      exact ih _ this (oSame_tr hs (rowAdd_same _ _ _ _))
    · intro h' hr' hs
      have hr2 := rowIs_same hr hs n1 n2
      refine bX3_take_6 ho ?_
      rw [hr2.1]
      rw [List.take_length] at hr'
      exact br_t (nI_le (Nat.le_refl _) (by omega)) (q h' hr' hs)
  refine key 0 (Nat.zero_le _) _ ⟨?_, fun i hi => by simp at hi, by simp⟩ (oSame_up (oSame_rf h _) (by simp))
  rw [oh_g1, if_pos ⟨rfl, rfl⟩]
  rfl
-- signs
def oJ (c : Nat) (l r : Int32) : Int32 :=
  if c = 124 then (if l = 0 ∧ r = 0 then 0 else 1)
  else if c = 38 then (if l = 0 ∨ r = 0 then 0 else 1)
  else if c = 60 then (if l < r then 1 else 0)
  else if c = 61 then (if l = r then 1 else 0)
  else if c = 62 then (if r < l then 1 else 0)
  else if c = 43 then l + r
  else if c = 45 then l - r
  else if c = 42 then l * r
  else if c = 47 then (if r = 0 then 0 else l / r)
  else if c = 37 then (if r = 0 then 0 else l - l / r * r)
  else 0
theorem sX1_joined {d : Nat} {K : Int32 → oh_St → Prop} {h : oh_St} {c : Nat} {l r : Int32} (hc : c < 10000) (q : K (oJ c l r) h) : CM (d + 1) jX1_joined [.int (nI c), .int l, .int r] h (oh_r1 K) := by
  refine mX1_joined ?_
  unfold oJ at q
  have ne : ∀ {j : Nat}, j < 10000 → c ≠ j → ¬ nI c = nI j := fun a b z => b ((nI_eq (by omega) (by omega)).mp z)
  by_cases c1 : c = 37
  · subst c1
    refine br_t rfl ⟨fun z => ⟨z, ?_⟩, fun z => ?_⟩
    · (show K _ h; simpa [z] using q)
    · (show K _ h; simpa [z] using q)
  refine br_f (ne (j := 37) (by omega) c1) ?_
  by_cases c2 : c = 38
  · subst c2
    refine br_t rfl ⟨fun z => ?_, fun z => ⟨fun z2 => ?_, fun z2 => ?_⟩⟩
    · (show K _ h; simpa [z] using q)
    · (show K _ h; simpa [z, z2] using q)
    · (show K _ h; simpa [z, z2] using q)
  refine br_f (ne (j := 38) (by omega) c2) ?_
  by_cases c3 : c = 42
  · subst c3
    exact br_t rfl (by show K _ h; simpa using q)
  refine br_f (ne (j := 42) (by omega) c3) ?_
  by_cases c4 : c = 43
  · subst c4
    exact br_t rfl (by show K _ h; simpa using q)
  refine br_f (ne (j := 43) (by omega) c4) ?_
  by_cases c5 : c = 45
  · subst c5
    exact br_t rfl (by show K _ h; simpa using q)
  refine br_f (ne (j := 45) (by omega) c5) ?_
  by_cases c6 : c = 47
  · subst c6
    refine br_t rfl ⟨fun z => ⟨z, ?_⟩, fun z => ?_⟩
    · (show K _ h; simpa [z] using q)
    · (show K _ h; simpa [z] using q)
  refine br_f (ne (j := 47) (by omega) c6) ?_
  by_cases c7 : c = 60
  · subst c7
    refine br_t rfl ⟨fun z => ?_, fun z => ?_⟩
    · rw [if_neg (by decide), if_neg (by decide), if_pos rfl, if_neg (Int32.not_lt.mpr z)] at q
      exact q
    · rw [if_neg (by decide), if_neg (by decide), if_pos rfl, if_pos (Int32.not_le.mp z)] at q
      exact q
  refine br_f (ne (j := 60) (by omega) c7) ?_
  by_cases c8 : c = 61
  · subst c8
    refine br_t rfl ⟨fun z => ?_, fun z => ?_⟩
    · (show K _ h; simpa [z] using q)
    · (show K _ h; simpa [z] using q)
  refine br_f (ne (j := 61) (by omega) c8) ?_
  by_cases c9 : c = 62
  · subst c9
    refine br_t rfl ⟨fun z => ?_, fun z => ?_⟩
    · rw [if_neg (by decide), if_neg (by decide), if_neg (by decide), if_neg (by decide), if_pos rfl, if_neg (Int32.not_lt.mpr z)] at q
      exact q
    · rw [if_neg (by decide), if_neg (by decide), if_neg (by decide), if_neg (by decide), if_pos rfl, if_pos (Int32.not_le.mp z)] at q
      exact q
  refine br_f (ne (j := 62) (by omega) c9) ?_
  by_cases c10 : c = 124
  · subst c10
    refine br_t rfl ⟨fun z => ?_, fun z => ⟨fun z2 => ?_, fun z2 => ?_⟩⟩
    · (show K _ h; simpa [z] using q)
    · (show K _ h; simpa [z, z2] using q)
    · (show K _ h; simpa [z, z2] using q)
  refine br_f (ne (j := 124) (by omega) c10) ?_
  (show K _ h; simpa [c1, c2, c3, c4, c5, c6, c7, c8, c9, c10] using q)
def oNm (a b c e : Int32) (k : Nat) : Int32 := if k = 0 then a else if k = 1 then b else if k = 2 then c else e
theorem sX1_named {d : Nat} {K : Int32 → oh_St → Prop} {h : oh_St} {k : Nat} {a b c e : Int32} (hk : k < 10000) (q : K (oNm a b c e k) h) : CM (d + 1) jX1_named [.int (nI k), .int a, .int b, .int c, .int e] h (oh_r1 K) := by
  refine mX1_named ?_
  unfold oNm at q
  have ne : ∀ {j : Nat}, j < 10000 → k ≠ j → ¬ nI k = nI j := fun a b z => b ((nI_eq (by omega) (by omega)).mp z)
  by_cases c1 : k = 0
  · subst c1
    exact br_t rfl (by show K _ h; simpa using q)
  refine br_f (ne (j := 0) (by omega) c1) ?_
  by_cases c2 : k = 1
  · subst c2
    exact br_t rfl (by show K _ h; simpa using q)
  refine br_f (ne (j := 1) (by omega) c2) ?_
  by_cases c3 : k = 2
  · subst c3
    exact br_t rfl (by show K _ h; simpa using q)
  exact br_f (ne (j := 2) (by omega) c3) (by show K _ h; simpa [c1, c2, c3] using q)
/-- code worked out on a stack (its top first); none: broken off -/
def eC (nm : Nat → Int32) : List Nat → List Int32 → Option (List Int32)
  | [], st => some st
  | t :: r, st =>
    if t < 10000 then (if st.length < 50 then eC nm r (nI t :: st) else none)
    else if t < 20000 then
      (if t = 10033 then (match st with
        | x :: s => eC nm r ((if x = 0 then 1 else 0) :: s)
        | [] => none)
      else match st with
        | y :: x :: s => eC nm r (oJ (t - 10000) x y :: s)
        | _ => none)
    else (if st.length < 50 then eC nm r (nm (t - 20000) :: st) else none)
def eR (nm : Nat → Int32) (c : List Nat) : Int32 := match eC nm c [] with
  | none => 0
  | some st => st.getLastD 0
def stIs (h : oh_St) (o : Nat) (st : List Int32) : Prop := ∀ i, i < st.length → h.1 (o + 3) i = st.getD (st.length - 1 - i) 0
theorem stIs_push {h : oh_St} {o : Nat} {st : List Int32} {x : Int32} (H : stIs h o st) : stIs (oh_upi h (o + 3) st.length x) o (x :: st) := by
  intro i hi
  simp only [List.length_cons] at hi
  rw [oh_g1]
  by_cases hil : i = st.length
  · subst hil
    rw [if_pos ⟨rfl, rfl⟩]
    simp
  · rw [if_neg (fun z => hil z.2), H i (by omega)]
    simp only [List.length_cons]
    rw [show st.length + 1 - 1 - i = (st.length - 1 - i) + 1 by omega]
    rfl
theorem stIs_pop {h : oh_St} {o : Nat} {st : List Int32} {x : Int32} (H : stIs h o (x :: st)) : stIs h o st := by
  intro i hi
  rw [H i (by simp; omega)]
  simp only [List.length_cons]
  rw [show st.length + 1 - 1 - i = (st.length - 1 - i) + 1 by omega]
  rfl
theorem stIs_top {h : oh_St} {o : Nat} {st : List Int32} {x : Int32} (H : stIs h o (x :: st)) : h.1 (o + 3) st.length = x := by
  rw [H st.length (by simp)]
  simp
theorem oNot7 {o : Nat} (ho : o = 7 ∨ o = 11) : oRow (o + 1) := by
  unfold oRow
  rcases ho with rfl | rfl <;> omega
theorem sX1_workedOut {d : Nat} {K : Int32 → oh_St → Prop} {h : oh_St} {o : Nat} {c : List Nat} {v1 v2 v3 v4 : Int32} (ho : o = 7 ∨ o = 11) (hr : rowIs h (o + 1) (c.map nI)) (ht : ∀ t ∈ c, t < 20004) (q : ∀ h', oSame h h' [o + 3] → K (eR (oNm v1 v2 v3 v4) c) h') : CM (d + 2) jX1_workedOut [.ref o, .int v1, .int v2, .int v3, .int v4] h (oh_r1 K) := by
  have hcap := oRow_cap (oNot7 ho)
  have hlen := hr.2.2
  simp only [List.length_map] at hlen
  refine mX1_workedOut ho ?_
  have key : ∀ i, i ≤ c.length → ∀ h' st, oSame h h' [o + 3] → stIs h' o st → st.length ≤ 50 → (match eC (oNm v1 v2 v3 v4) (c.drop i) st with
      | none => 0
      | some st => st.getLastD 0) = eR (oNm v1 v2 v3 v4) c → wX1_workedOut_6 (d + 1) (oh_r1 K) o v1 v2 v3 v4 (nI st.length) (nI i) h' := by
    refine oh_up (fun i hi ih => ?_) ?_
    · intro h' st hs hst hl he
      have hr' := rowIs_same hr hs (by simp) (by simp)
      refine bX1_workedOut_6 ho ?_
      rw [hr'.1]
      simp only [List.length_map]
      refine br_f (nI_ge hi (by omega)) (sX3_get (oNot7 ho) hr' (by simpa using hi) ?_)
      have hci : (c.map nI).getD i 0 = nI (c[i]) := by simp [List.getD, hi]
      have htc : c[i] < 20004 := ht _ (List.getElem_mem hi)
      rw [hci]
      rw [List.drop_eq_getElem_cons hi] at he
      generalize c[i] = t at htc he
      unfold eC at he
      have push : ∀ x, (st.length < 50 → (match eC (oNm v1 v2 v3 v4) (c.drop (i + 1)) (x :: st) with
          | none => 0
          | some st => st.getLastD 0) = eR (oNm v1 v2 v3 v4) c) → st.length < 50 → vp_in (nI st.length) 50 ∧ wX1_workedOut_6 (d + 1) (oh_r1 K) o v1 v2 v3 v4 (nI st.length + 1) (nI i + 1) (oh_upi h' (o + 3) (nI st.length).toNatClampNeg x) := by
        intro x he hl2
        refine ⟨oh_in hl2 (by omega), ?_⟩
        rw [oh_cl (by omega), nI_1, nI_1]
        exact ih _ (x :: st) (oSame_up hs (by simp)) (stIs_push hst) (by simp; omega) (he hl2)
      have over : ¬ st.length < 50 → ∀ {A B : Prop}, B → (nI st.length < 50 → A) ∧ (¬ nI st.length < 50 → B) := fun z _ _ b => br_f (nI_nlt (b := 50) (by omega) (by omega)) b
      have done : ∀ {A : Prop}, (A → (0 : Int32) = eR (oNm v1 v2 v3 v4) c) → A → K 0 h' := fun e a => by rw [e a]; exact q h' hs
      by_cases c1 : t < 10000
      · rw [if_pos c1] at he
        refine br_t (nI_lt (b := 10000) c1 (by omega)) ?_
        by_cases c2 : st.length < 50
        · rw [if_pos c2] at he
          exact br_t (nI_lt (b := 50) c2 (by omega)) (br_f (nI_ge (b := 10000) c1 (by omega)) (push _ (fun _ => he) c2))
        · rw [if_neg c2] at he
          exact over c2 (done (fun _ => he) trivial)
      · rw [if_neg c1] at he
        refine br_f (nI_nlt (b := 10000) (by omega) (by omega)) ?_
        by_cases c2 : t < 20000
        · rw [if_pos c2] at he
          refine br_t (nI_lt (b := 20000) c2 (by omega)) ?_
          by_cases c3 : t = 10033
          · rw [if_pos c3] at he
            subst c3
            refine oh_nf rfl ?_
            match st, hst, hl, he with
            | [], hst, hl, he => exact br_f (nI_ge (a := 0) (b := 1) (by omega) (by omega)) (done (fun _ => he) trivial)
            | x :: s, hst, hl, he =>
              simp only [List.length_cons] at hl ⊢
              refine br_t (nI_le (a := 1) (by omega) (by omega)) ?_
              rw [show nI (s.length + 1) - 1 = nI s.length from nI_pred _, oh_cl (by omega), stIs_top hst]
              refine ⟨oh_in (by omega) (by omega), oh_nc (fun z => ⟨oh_in (by omega) (by omega), ?_⟩) (fun z => ⟨oh_in (by omega) (by omega), ?_⟩)⟩
              · rw [nI_1]
                dsimp only at he
                rw [if_neg z] at he
                exact ih _ (0 :: s) (oSame_up hs (by simp)) (stIs_push (stIs_pop hst)) (by simpa using hl) he
              · rw [nI_1]
                dsimp only at he
                rw [if_pos z] at he
                exact ih _ (1 :: s) (oSame_up hs (by simp)) (stIs_push (stIs_pop hst)) (by simpa using hl) he
          · rw [if_neg c3] at he
            refine oh_nt (fun z => c3 ((nI_eq (by omega) (by omega)).mp z)) ?_
            match st, hst, hl, he with
            | [], hst, hl, he => exact br_f (nI_ge (a := 0) (b := 2) (by omega) (by omega)) (done (fun _ => he) trivial)
            | [x], hst, hl, he => exact br_f (nI_ge (a := 1) (b := 2) (by omega) (by omega)) (done (fun _ => he) trivial)
            | y :: x :: s, hst, hl, he =>
              simp only [List.length_cons] at hl ⊢
              refine br_t (nI_le (a := 2) (by omega) (by omega)) ?_
              have e1 : nI (s.length + 1 + 1) + (-1) = nI (s.length + 1) := pk_m1 _
              rw [e1, show nI (s.length + 1) - 1 = nI s.length from nI_pred _, oh_cl (by omega), oh_cl (by omega)]
              have t1 := stIs_top hst
              simp only [List.length_cons] at t1
              rw [t1, stIs_top (stIs_pop hst)]
              refine ⟨oh_in (by omega) (by omega), oh_in (by omega) (by omega), ?_⟩
              rw [show (10000 : Int32) = nI 10000 from rfl, pk_sub (by omega)]
              refine sX1_joined (by omega) ⟨oh_in (by omega) (by omega), ?_⟩
              rw [nI_1]
              exact ih _ (oJ (t - 10000) x y :: s) (oSame_up hs (by simp)) (stIs_push (stIs_pop (stIs_pop hst))) (by simp; omega) he
        · rw [if_neg c2] at he
          refine br_f (nI_nlt (b := 20000) (by omega) (by omega)) ?_
          by_cases c3 : st.length < 50
          · rw [if_pos c3] at he
            refine br_t (nI_lt (b := 50) c3 (by omega)) (br_t (nI_le (a := 10000) (by omega) (by omega)) ?_)
            rw [show (20000 : Int32) = nI 20000 from rfl, pk_sub (by omega)]
            exact sX1_named (by omega) (push _ (fun _ => he) c3)
          · rw [if_neg c3] at he
            exact over c3 (done (fun _ => he) trivial)
    · intro h' st hs hst hl he
      have hr' := rowIs_same hr hs (by simp) (by simp)
      refine bX1_workedOut_6 ho ?_
      rw [hr'.1]
      simp only [List.length_map]
      refine br_t (nI_le (Nat.le_refl _) (by omega)) ?_
      rw [List.drop_length] at he
      match st, hst, hl, he with
      | [], hst, hl, he => exact br_f (nI_ge (a := 0) (b := 1) (by omega) (by omega)) (by show K 0 h'; rw [show (0 : Int32) = _ from he]; exact q h' hs)
      | x :: s, hst, hl, he =>
        simp only [List.length_cons] at hl ⊢
        refine br_t (nI_le (a := 1) (by omega) (by omega)) ⟨oh_in (i := 0) (by omega) (by omega), ?_⟩
        show K (h'.1 (o + 3) 0) h'
        have e0 := hst 0 (by simp)
        have e1 : (x :: s).getD ((x :: s).length - 1 - 0) 0 = (x :: s).getLastD 0 := by
          simp [List.getLastD, List.getD, List.getLast_eq_getElem]
        rw [e0, e1, show (x :: s).getLastD 0 = _ from he]
        exact q h' hs
  exact key 0 (Nat.zero_le _) h [] (oSame_rf _ _) (fun i hi => by simp at hi) (by simp) rfl
/-- what a law gives -/
def lwF (u : Nat) (c : List Nat) (v1 v2 v3 v4 : Int32) : Int32 := if u = 0 then (if c = [] then 1 else eR (oNm v1 v2 v3 v4) c) else oHeld (if c = [] then v1 * 10 + 5 - v2 else eR (oNm v1 v2 v3 v4) c) 0 999
def lawIs (h : oh_St) (o u : Nat) (c : List Nat) : Prop := h.1 o 0 = nI u ∧ u ≤ 1 ∧ rowIs h (o + 1) (c.map nI) ∧ ∀ t ∈ c, t < 20004
theorem lawIs_same {h h' : oh_St} {o u : Nat} {c : List Nat} {X : List Nat} (H : lawIs h o u c) (hs : oSame h h' X) (h0 : o ∉ X) (h1 : o + 1 ∉ X) (h2 : o + 1 + 1 ∉ X) : lawIs h' o u c := ⟨(hs.1 o 0 h0).trans H.1, H.2.1, rowIs_same H.2.2.1 hs h1 h2, H.2.2.2⟩
theorem sX1_gives {d : Nat} {K : Int32 → oh_St → Prop} {h : oh_St} {o u : Nat} {c : List Nat} {v1 v2 v3 v4 : Int32} (ho : o = 7 ∨ o = 11) (hl : lawIs h o u c) (q : ∀ h', oSame h h' [o + 3] → K (lwF u c v1 v2 v3 v4) h') : CM (d + 3) jX1_gives [.ref o, .int v1, .int v2, .int v3, .int v4] h (oh_r1 K) := by
  obtain ⟨h0, h1, hr, ht⟩ := hl
  have hcap := oRow_cap (oNot7 ho)
  have hlen := hr.2.2
  simp only [List.length_map] at hlen
  refine mX1_gives ho ?_
  rw [h0, hr.1]
  simp only [List.length_map]
  have e0 : nI c.length = 0 ↔ c = [] := by
    rw [show (0 : Int32) = nI 0 from rfl, nI_eq (by omega) (by omega)]
    exact List.length_eq_zero_iff
  unfold lwF at q
  by_cases hu : u = 0
  · subst hu
    refine oh_nf rfl (oh_nc (fun z => ?_) (fun z => ?_))
    · have z := mt e0.mpr z
      refine sX1_workedOut ho hr ht (fun h' hs => ?_)
      have := q h' hs
      rw [if_pos rfl, if_neg z] at this
      exact this
    · have z := e0.mp z
      have := q h (oSame_rf _ _)
      rw [if_pos rfl, if_pos z] at this
      exact this
  · refine oh_nt (nI_ne0 (by omega) (by omega)) (oh_nc (fun z => ?_) (fun z => ?_))
    · have z := mt e0.mpr z
      refine sX1_workedOut ho hr ht (fun h' hs => sX7_held (by decide) ?_)
      have := q h' hs
      rw [if_neg hu, if_neg z] at this
      exact this
    · have z := e0.mp z
      refine sX7_held (by decide) ?_
      have := q h (oSame_rf _ _)
      rw [if_neg hu, if_pos z] at this
      exact this

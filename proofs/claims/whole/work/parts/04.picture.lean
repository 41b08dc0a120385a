/-! PICTURES: ids and addresses; what a method of the class finds around it -/
def oh_V (ad : Nat → Nat) : Value → Value
  | .ref i => .ref (ad i)
  | v => v
theorem oh_V_cat (ad : Nat → Nat) (v : Value) : (oh_V ad v).category = v.category := by cases v <;> rfl
def oh_slv (ad : Nat → Nat) (h : oh_St) (o k : Nat) (q : Nat × Nat) : Value := match q.1 with
  | 0 => .int (h.1 o k)
  | 1 => .long (h.2 o k)
  | 2 => .ref (ad q.2)
  | 3 => .ref (ad (2000 + (h.1 o k).toNatClampNeg))
  | _ => .int (h.1 o k)
def oh_cell (cI cR : ClassId) (ad : Nat → Nat) (h : oh_St) (o : Nat) (s : oh_Sh) : va_E := match s with
  | .inl q => .inr (q.1, q.2.mapIdx (fun k z => oh_slv ad h o k z))
  | .inr (.inl n) => .inl (cI, n, .inl (h.1 o))
  | .inr (.inr js) => .inl (cR, js.length, .inr (.inr (.inr (.inr (fun k => (js[k]?).map ad)))))
def oh_W (cI cR : ClassId) (ad : Nat → Nat) (G : List oh_Sh) (h : oh_St) : va_W := G.mapIdx (fun o s => (ad o, oh_cell cI cR ad h o s))
theorem oh_W_at {cI cR : ClassId} {ad : Nat → Nat} {G : List oh_Sh} {h : oh_St} {o : Nat} {s : oh_Sh} (hs : oh_nth G o = some s) : (oh_W cI cR ad G h)[o]? = some (ad o, oh_cell cI cR ad h o s) := by
  rw [oh_nth_eq] at hs
  simp [oh_W, hs]
theorem oh_W_inv {cI cR : ClassId} {ad : Nat → Nat} {G : List oh_Sh} {h : oh_St} {o : Nat} {q : Nat × va_E} (hq : (oh_W cI cR ad G h)[o]? = some q) : o < G.length ∧ q.1 = ad o := by
  simp only [oh_W, List.getElem?_mapIdx, Option.map_eq_some_iff] at hq
  obtain ⟨s, h1, h2⟩ := hq
  exact ⟨(List.getElem?_eq_some_iff.mp h1).1, by rw [← h2]⟩
theorem oh_W_D {cI cR : ClassId} {ad : Nat → Nat} {G : List oh_Sh} {h : oh_St} {A : Nat → Prop} (hinj : ∀ i j, i < G.length → j < G.length → ad i = ad j → i = j) (hA : ∀ i, i < G.length → A (ad i)) : va_D A (oh_W cI cR ad G h) := by
  refine ⟨fun i j p q hi hj hpq => ?_, fun k q hk => ?_⟩
  · obtain ⟨a1, a2⟩ := oh_W_inv hi
    obtain ⟨b1, b2⟩ := oh_W_inv hj
    exact hinj i j a1 b1 (by rw [← a2, ← b2, hpq])
  · obtain ⟨a1, a2⟩ := oh_W_inv hk
    rw [a2]; exact hA k a1
theorem oh_cell_ne {cI cR : ClassId} {ad : Nat → Nat} {h h' : oh_St} {o : Nat} {s : oh_Sh} (h1 : h'.1 o = h.1 o) (h2 : h'.2 o = h.2 o) : oh_cell cI cR ad h' o s = oh_cell cI cR ad h o s := by
  rcases s with ⟨ci, sl⟩ | n | js
  · simp only [oh_cell]
    congr 3
    funext k z
    simp only [oh_slv, h1, h2]
  · simp only [oh_cell, h1]
  · rfl
/-- one cell changes -/
theorem oh_W_set {cI cR : ClassId} {ad : Nat → Nat} {G : List oh_Sh} {h h' : oh_St} {o : Nat} {s : oh_Sh} {e : va_E} (hs : oh_nth G o = some s) (hne : ∀ a, a ≠ o → h'.1 a = h.1 a ∧ h'.2 a = h.2 a) (he : oh_cell cI cR ad h' o s = e) : (oh_W cI cR ad G h).set o (ad o, e) = oh_W cI cR ad G h' := by
  rw [oh_nth_eq] at hs
  have hl := (List.getElem?_eq_some_iff.mp hs).1
  apply List.ext_getElem?
  intro i
  by_cases hi : i = o
  · subst hi
    rw [List.getElem?_set_self (by simpa [oh_W] using hl)]
    simp [oh_W, hs, he]
  · rw [List.getElem?_set_ne (Ne.symm hi)]
    simp only [oh_W, List.getElem?_mapIdx]
    cases hg : G[i]? with
    | none => rfl
    | some s' => simp only [Option.map_some]; rw [oh_cell_ne (hne i hi).1 (hne i hi).2]
theorem oh_upi_1 (h : oh_St) (o k : Nat) (x : Int32) : (oh_upi h o k x).1 o = upd (h.1 o) k x := by simp [oh_upi]
theorem oh_upi_n (h : oh_St) (o k : Nat) (x : Int32) : ∀ a, a ≠ o → (oh_upi h o k x).1 a = h.1 a ∧ (oh_upi h o k x).2 a = h.2 a := by
  intro a ha
  simp [oh_upi, ha]
theorem oh_upl_1 (h : oh_St) (o k : Nat) (x : Int64) : (oh_upl h o k x).2 o = vp_updL (h.2 o) k x := by simp [oh_upl]
theorem oh_upl_n (h : oh_St) (o k : Nat) (x : Int64) : ∀ a, a ≠ o → (oh_upl h o k x).1 a = h.1 a ∧ (oh_upl h o k x).2 a = h.2 a := by
  intro a ha
  simp [oh_upl, ha]
theorem oh_upa_n (h : oh_St) (o : Nat) (f : Nat → Int32) : ∀ a, a ≠ o → (oh_upa h o f).1 a = h.1 a ∧ (oh_upa h o f).2 a = h.2 a := by
  intro a ha
  simp [oh_upa, ha]
/-- an object's slot is written -/
theorem oh_slots_set {ad : Nat → Nat} {h h' : oh_St} {o k : Nat} {sl : List (Nat × Nat)} {z : Nat × Nat} {v : Value} (hz : oh_nth sl k = some z) (hk : oh_slv ad h' o k z = v) (hne : ∀ j, j ≠ k → h'.1 o j = h.1 o j ∧ h'.2 o j = h.2 o j) : sl.mapIdx (fun k z => oh_slv ad h' o k z) = (sl.mapIdx (fun k z => oh_slv ad h o k z)).set k v := by
  rw [oh_nth_eq] at hz
  have hl := (List.getElem?_eq_some_iff.mp hz).1
  apply List.ext_getElem?
  intro i
  by_cases hi : i = k
  · subst hi
    rw [List.getElem?_set_self (by simpa using hl)]
    simp [hz, hk]
  · rw [List.getElem?_set_ne (Ne.symm hi)]
    simp only [List.getElem?_mapIdx]
    cases sl[i]? with
    | none => rfl
    | some q => simp only [Option.map_some]; congr 1; simp only [oh_slv, (hne i hi).1, (hne i hi).2]
-- locals
theorem oh_get_put : ∀ (l : oh_L) (i : Nat) (o : Option Value) (j : Nat), oh_get (oh_put l i o) j = if j = i ∧ i < l.length then o else oh_get l j
  | [], i, o, j => by simp [oh_put, oh_get]
  | x :: l, 0, o, 0 => by simp [oh_put, oh_get]
  | x :: l, 0, o, j + 1 => by simp [oh_put, oh_get]
  | x :: l, i + 1, o, 0 => by simp [oh_put, oh_get]
  | x :: l, i + 1, o, j + 1 => by
    simp only [oh_put, oh_get, oh_get_put l i o j, List.length_cons]
    congr 1
    simp
theorem oh_put_len : ∀ (l : oh_L) (i : Nat) (o : Option Value), (oh_put l i o).length = l.length
  | [], _, _ => rfl
  | _ :: l, 0, _ => rfl
  | _ :: l, i + 1, o => by simp [oh_put, oh_put_len l i o]
theorem oh_clr_len (l : oh_L) (i : Nat) : (oh_clr l i).length = l.length := by
  unfold oh_clr
  split
  · rfl
  · split <;> simp [oh_put_len]
theorem oh_clr_get {l : oh_L} {i j : Nat} {v : Value} (h : oh_get (oh_clr l i) j = some v) : oh_get l j = some v ∧ ¬ (j + 1 = i ∧ v.category = 2) := by
  unfold oh_clr at h
  split at h
  · exact ⟨h, fun q => by omega⟩
  · rename_i n
    split at h
    · rename_i x hx
      rw [oh_get_put] at h
      split at h
      · cases h
      · rename_i hc
        refine ⟨h, fun q => ?_⟩
        have hj : j = n := by omega
        subst hj
        by_cases hl : j < l.length
        · exact hc ⟨rfl, hl⟩
        · have : oh_get l j = none := by
            clear h hx hc
            induction l generalizing j with
            | nil => rfl
            | cons a l ih =>
              cases j with
              | zero => simp at hl
              | succ j => exact ih (by omega) (by simpa using hl)
          rw [this] at h; cases h
    · rename_i x hx
      rw [oh_get_put] at h
      split at h
      · cases h
      · rename_i hc
        refine ⟨h, fun q => ?_⟩
        have hj : j = n := by omega
        subst hj
        by_cases hl : j < l.length
        · exact hc ⟨rfl, hl⟩
        · have : oh_get l j = none := by
            clear h hx hc
            induction l generalizing j with
            | nil => rfl
            | cons a l ih =>
              cases j with
              | zero => simp at hl
              | succ j => exact ih (by omega) (by simpa using hl)
          rw [this] at h; cases h
    · rename_i h1 h2
      refine ⟨h, fun q => ?_⟩
      have hj : j = n := by omega
      subst hj
      cases v with
      | long x => exact h1 x h
      | double x => exact h2 x h
      | _ => exact absurd q.2 (by simp [Value.category])
/-- the machine's locals hold what is known of them -/
def oh_loc (ad : Nat → Nat) (lsc : Array Slot) (nL : Nat) (l : oh_L) : Prop := l.length = nL ∧ lsc.size = nL ∧ lv_wf lsc ∧ ∀ (i : Nat) (v : Value), oh_get l i = some v → lsc[i]? = some (.val (oh_V ad v))
def oh_asF (ad : Nat → Nat) : Nat → oh_L → List (Nat × Value)
  | _, [] => []
  | k, none :: l => oh_asF ad (k + 1) l
  | k, some v :: l => (k, oh_V ad v) :: oh_asF ad (k + 1) l
theorem oh_asF_get {ad : Nat → Nat} : ∀ (l : oh_L) (k i : Nat) (v : Value), oh_get l i = some v → (k + i, oh_V ad v) ∈ oh_asF ad k l
  | [], _, _, _, h => by cases h
  | none :: l, k, 0, v, h => by cases h
  | none :: l, k, i + 1, v, h => by
    have := oh_asF_get (ad := ad) l (k + 1) i v h
    rw [show k + (i + 1) = k + 1 + i by omega]
    exact this
  | some w :: l, k, 0, v, h => by
    cases h
    exact List.mem_cons_self
  | some w :: l, k, i + 1, v, h => by
    have := oh_asF_get (ad := ad) l (k + 1) i v h
    rw [show k + (i + 1) = k + 1 + i by omega]
    exact List.mem_cons_of_mem _ this
theorem oh_asF_mem {ad : Nat → Nat} : ∀ (l : oh_L) (k : Nat) (q : Nat × Value), q ∈ oh_asF ad k l → ∃ i v, q.1 = k + i ∧ oh_get l i = some v ∧ q.2 = oh_V ad v
  | [], _, _, h => by cases h
  | none :: l, k, q, h => by
    obtain ⟨i, v, h1, h2, h3⟩ := oh_asF_mem l (k + 1) q h
    exact ⟨i + 1, v, by omega, h2, h3⟩
  | some w :: l, k, q, h => by
    rcases List.mem_cons.mp h with rfl | h
    · exact ⟨0, w, rfl, rfl, rfl⟩
    · obtain ⟨i, v, h1, h2, h3⟩ := oh_asF_mem l (k + 1) q h
      exact ⟨i + 1, v, by omega, h2, h3⟩
theorem oh_loc_has {ad : Nat → Nat} {lsc : Array Slot} {nL : Nat} {l : oh_L} (h : oh_loc ad lsc nL l) : lv_has lsc nL (oh_asF ad 0 l) := by
  refine ⟨h.2.1, h.2.2.1, fun q hq => ?_⟩
  obtain ⟨i, v, h1, h2, h3⟩ := oh_asF_mem l 0 q hq
  rw [h1, h3, Nat.zero_add]
  exact h.2.2.2 i v h2
theorem oh_loc_1 {ad : Nat → Nat} {lsc ls' : Array Slot} {nL i : Nat} {l : oh_L} {v : Value} (h : oh_loc ad lsc nL l) (hs : lv_has ls' nL ((i, oh_V ad v) :: (oh_asF ad 0 l).filter (fun q => !(q.1 == i) && !(q.1 + 1 == i && q.2.category == 2)))) : oh_loc ad ls' nL (oh_st1 l i v) := by
  refine ⟨by rw [oh_st1, oh_put_len, oh_clr_len]; exact h.1, hs.1, hs.2.1, fun j w hj => ?_⟩
  rw [oh_st1, oh_get_put] at hj
  split at hj
  · rename_i hc
    obtain ⟨rfl, -⟩ := hc
    cases hj
    exact hs.2.2 _ List.mem_cons_self
  · rename_i hc
    obtain ⟨h1, h2⟩ := oh_clr_get hj
    by_cases hji : j = i
    · subst hji
      exfalso
      refine hc ⟨rfl, ?_⟩
      rw [oh_clr_len]
      have : lsc[j]? = some (.val (oh_V ad w)) := h.2.2.2 j w h1
      have := lv_lt this
      rw [h.1, ← h.2.1]; exact this
    · refine hs.2.2 (j, oh_V ad w) (List.mem_cons_of_mem _ (List.mem_filter.mpr ⟨by simpa using oh_asF_get (ad := ad) l 0 j w h1, ?_⟩))
      simp only [Bool.and_eq_true, Bool.not_eq_true', beq_eq_false_iff_ne, ne_eq, Bool.and_eq_false_iff, oh_V_cat]
      refine ⟨hji, ?_⟩
      by_cases hj1 : j + 1 = i
      · right
        exact fun z => h2 ⟨hj1, z⟩
      · left
        exact hj1
theorem oh_loc_2 {ad : Nat → Nat} {lsc ls' : Array Slot} {nL i : Nat} {l : oh_L} {v : Value} (h : oh_loc ad lsc nL l) (hi : i + 1 < nL) (hs : lv_has ls' nL ((i, oh_V ad v) :: (oh_asF ad 0 l).filter (fun q => !(q.1 == i) && (!(q.1 == i + 1) && !(q.1 + 1 == i && q.2.category == 2))))) : oh_loc ad ls' nL (oh_st2 l i v) := by
  refine ⟨by rw [oh_st2, oh_put_len, oh_put_len, oh_clr_len]; exact h.1, hs.1, hs.2.1, fun j w hj => ?_⟩
  rw [oh_st2, oh_get_put] at hj
  split at hj
  · cases hj
  · rename_i hc0
    rw [oh_get_put] at hj
    split at hj
    · rename_i hc
      obtain ⟨rfl, -⟩ := hc
      cases hj
      exact hs.2.2 _ List.mem_cons_self
    · rename_i hc
      obtain ⟨h1, h2⟩ := oh_clr_get hj
      have hjl : j < l.length := by
        have : lsc[j]? = some (.val (oh_V ad w)) := h.2.2.2 j w h1
        have := lv_lt this
        rw [h.1, ← h.2.1]; exact this
      have hji : ¬ j = i := fun z => hc ⟨z, by rw [oh_clr_len]; omega⟩
      have hji1 : ¬ j = i + 1 := fun z => hc0 ⟨z, by rw [oh_put_len, oh_clr_len]; omega⟩
      refine hs.2.2 (j, oh_V ad w) (List.mem_cons_of_mem _ (List.mem_filter.mpr ⟨by simpa using oh_asF_get (ad := ad) l 0 j w h1, ?_⟩))
      simp only [Bool.and_eq_true, Bool.not_eq_true', beq_eq_false_iff_ne, ne_eq, Bool.and_eq_false_iff, oh_V_cat]
      refine ⟨hji, hji1, ?_⟩
      by_cases hj1 : j + 1 = i
      · right
        exact fun z => h2 ⟨hj1, z⟩
      · left
        exact hj1
theorem oh_more_get : ∀ {l l' : oh_L}, oh_more l l' → ∀ (i : Nat) (v : Value), oh_get l i = some v → oh_get l' i = some v
  | [], [], _, _, _, h => h
  | o :: l, o' :: l', hm, 0, v, h => by
    rcases hm.1 with z | z
    · change o = some v at h
      rw [z] at h; cases h
    · change o' = some v
      rw [← z]; exact h
  | o :: l, o' :: l', hm, i + 1, v, h => oh_more_get hm.2 i v h
  | [], _ :: _, hm, _, _, _ => hm.elim
  | _ :: _, [], hm, _, _, _ => hm.elim
theorem oh_more_len : ∀ {l l' : oh_L}, oh_more l l' → l.length = l'.length
  | [], [], _ => rfl
  | o :: l, o' :: l', hm => by simp [oh_more_len hm.2]
  | [], _ :: _, hm => hm.elim
  | _ :: _, [], hm => hm.elim
theorem oh_more_refl : ∀ l : oh_L, oh_more l l
  | [] => trivial
  | o :: l => ⟨Or.inr rfl, oh_more_refl l⟩
theorem oh_more_mask : ∀ (m : List Bool) (l : oh_L), oh_more (oh_mask m l) l
  | [], [] => trivial
  | [], o :: l => oh_more_refl (o :: l)
  | true :: m, [] => trivial
  | false :: m, [] => trivial
  | true :: m, o :: l => ⟨Or.inr rfl, oh_more_mask m l⟩
  | false :: m, o :: l => ⟨Or.inl rfl, oh_more_mask m l⟩
theorem oh_loc_less {ad : Nat → Nat} {lsc : Array Slot} {nL : Nat} {l l' : oh_L} (hm : oh_more l l') (h : oh_loc ad lsc nL l') : oh_loc ad lsc nL l := ⟨(oh_more_len hm).trans h.1, h.2.1, h.2.2.1, fun i v hv => h.2.2.2 i v (oh_more_get hm i v hv)⟩
theorem oh_pad_len : ∀ (n : Nat) (l : oh_L), l.length ≤ n → (oh_pad n l).length = n
  | 0, [], _ => rfl
  | 0, _ :: _, h => by simp at h
  | n + 1, [], _ => by simp [oh_pad, oh_pad_len n [] (by simp)]
  | n + 1, o :: l, h => by simp [oh_pad, oh_pad_len n l (by simpa using h)]
theorem oh_pad_get : ∀ (n : Nat) (l : oh_L) (i : Nat) (v : Value), oh_get (oh_pad n l) i = some v → oh_get l i = some v
  | 0, l, i, v, h => h
  | n + 1, [], 0, v, h => by cases h
  | n + 1, [], i + 1, v, h => by
    have := oh_pad_get n [] i v h
    cases this
  | n + 1, o :: l, 0, v, h => h
  | n + 1, o :: l, i + 1, v, h => oh_pad_get n l i v h
theorem oh_arg_len (ad : Nat → Nat) : ∀ vs : List Value, (oh_arg vs).length = (lg_sl (vs.map (oh_V ad))).length
  | [] => rfl
  | v :: r => by
    have ih := oh_arg_len ad r
    simp only [lg_sl, List.map_cons, List.flatMap_cons, List.length_append, oh_V_cat] at ih ⊢
    cases v <;> simp [oh_arg, Value.category, ih] <;> omega
theorem oh_arg_get (ad : Nat → Nat) : ∀ (vs : List Value) (k i : Nat) (v : Value), oh_get (oh_arg vs) i = some v → (k + i, oh_V ad v) ∈ lv_args k (vs.map (oh_V ad))
  | [], _, _, _, h => by cases h
  | w :: r, k, i, v, h => by
    have key1 : ∀ (w' : Value), w'.category = 1 → oh_arg (w' :: r) = some w' :: oh_arg r := by
      intro w' hw
      cases w' <;> first | rfl | cases hw
    have key2 : ∀ (w' : Value), w'.category = 2 → oh_arg (w' :: r) = some w' :: none :: oh_arg r := by
      intro w' hw
      cases w' <;> first | rfl | cases hw
    simp only [List.map_cons, lv_args, oh_V_cat]
    rcases lv_cat w with hw | hw
    · rw [key1 w hw] at h
      rw [if_neg (by omega)]
      cases i with
      | zero => cases h; exact List.mem_cons_self
      | succ i =>
        refine List.mem_cons_of_mem _ ?_
        rw [show k + (i + 1) = k + 1 + i by omega]
        exact oh_arg_get ad r (k + 1) i v h
    · rw [key2 w hw] at h
      rw [if_pos hw]
      cases i with
      | zero => cases h; exact List.mem_cons_self
      | succ i =>
        cases i with
        | zero => cases h
        | succ i =>
          refine List.mem_cons_of_mem _ ?_
          rw [show k + (i + 1 + 1) = k + 2 + i by omega]
          exact oh_arg_get ad r (k + 2) i v h

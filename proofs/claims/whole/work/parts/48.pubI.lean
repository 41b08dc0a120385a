/-! BOTH SIDES: then, thenPaid, when, silence -/
theorem sX8_copies {d : Nat} {K : oh_St → Prop} {k : oh_St} {o o2 : Nat} (ho : (o = 1 ∧ o2 = 2) ∨ (o = 1 ∧ o2 = 3) ∨ (o = 2 ∧ o2 = 1) ∨ (o = 3 ∧ o2 = 1)) (q : ∀ k', (∀ b, b < 210 → k'.1 o2 b = k.1 o b) → oSame k k' [o2] → K k') : MM (d + 1) jX8_copies [.ref o, .ref o2] k (oh_r0 K) := by
  have no : o ≠ o2 := by omega
  refine mX8_copies ho ?_
  have key : ∀ i, i ≤ 210 → ∀ k', (∀ b, b < i → k'.1 o2 b = k.1 o b) → oSame k k' [o2] → wX8_copies_2 d (oh_r0 K) o o2 (nI i) k' := by
    refine oh_up (fun i hi ih => ?_) ?_
    · intro k' e s
      refine bX8_copies_2 ho (br_f (nI_ge (b := 210) hi (by omega)) ⟨om_in hi, om_in hi, ?_⟩)
      rw [oh_cl (by omega), nI_1]
      refine ih _ (fun b hb => ?_) (oSame_up s (by simp))
      rw [oh_g1]
      by_cases z : b = i
      · rw [if_pos ⟨rfl, z⟩, s.1 o i (by simp [no]), z]
      · rw [if_neg (fun y => z y.2)]; exact e b (by omega)
    · intro k' e s
      exact bX8_copies_2 ho (br_t (nI_le (Nat.le_refl 210) (by omega)) (q k' e s))
  exact key 0 (by omega) k (fun b hb => absurd hb (by omega)) (oSame_rf _ _)
/-- what is put back stands beside -/
def saved (k k' : oh_St) : Prop := (∀ b, b < 210 → k'.1 2 b = k.1 1 b) ∧ k'.2 0 4 = k.2 0 3 ∧ kF k k'
def back (k k' : oh_St) : Prop := (∀ b, b < 210 → k'.1 1 b = k.1 1 b) ∧ k'.2 0 3 = k.2 0 3 ∧ kF k k'
theorem back_rf (k : oh_St) : back k k := ⟨fun _ _ => rfl, rfl, kF_rf k⟩
theorem back_tr {k k' k2 : oh_St} (H : back k k') (H2 : back k' k2) : back k k2 := ⟨fun b x => (H2.1 b x).trans (H.1 b x), H2.2.1.trans H.2.1, kF_tr H.2.2 H2.2.2⟩
theorem sX8_begins {d : Nat} {K : oh_St → Prop} {k : oh_St} (q : ∀ k', saved k k' → back k k' → K k') : MM (d + 2) jX8_begins [.ref 0] k (oh_r0 K) := by
  refine mX8_begins (sX8_copies (by omega) (fun k' e s => q _ ⟨e, ?_, ?_⟩ ⟨fun b _ => s.1 1 b (by simp), ?_, ?_⟩))
  · rw [oh_g4, if_pos ⟨rfl, rfl⟩, s.2]
  · exact ⟨fun a b x => s.1 a b (by simp; omega), by rw [oh_g4, if_neg (by omega), s.2]⟩
  · rw [oh_g4, if_neg (by omega), s.2]
  · exact ⟨fun a b x => s.1 a b (by simp; omega), by rw [oh_g4, if_neg (by omega), s.2]⟩
theorem sX8_ends {d : Nat} {K : oh_St → Prop} {k k1 : oh_St} (sv : saved k k1) (q : ∀ k', back k k' → K k') : MM (d + 2) jX8_ends [.ref 0] k1 (oh_r0 K) := by
  refine mX8_ends (sX8_copies (by omega) (fun k' e s => q _ ⟨fun b hb => (e b hb).trans (sv.1 b hb), ?_, kF_tr sv.2.2 ⟨fun a b x => s.1 a b (by simp; omega), ?_⟩⟩))
  · rw [oh_g4, if_pos ⟨rfl, rfl⟩, s.2]; exact sv.2.1
  · rw [oh_g4, if_neg (by omega), s.2]
theorem saved_r {k k1 k2 : oh_St} (sv : saved k k1) (r : rF k1 k2) : saved k k2 := ⟨fun b hb => (r.1 2 b (by omega) (by omega) (by omega) (by omega) (by omega) (by omega) (by omega)).trans (sv.1 b hb), (r.2.2 0 4 (by omega)).trans sv.2.1, kF_tr sv.2.2 (kF_r r)⟩
theorem saved_p {k k1 : oh_St} (sv : saved k k1) {b : Nat} {v : Int32} : saved k (oh_upi k1 1 b v) := ⟨fun c hc => by rw [oh_g1, if_neg (by omega)]; exact sv.1 c hc, sv.2.1, kF_tr sv.2.2 (kF_up k1 b v)⟩
/-- what runs ahead change in the class -/
def ahF (h h' : oh_St) : Prop := (∀ a b, ¬ (37 ≤ a ∧ a ≤ 41) → a ≠ 14 → h'.1 a b = h.1 a b) ∧ ∀ a b, a ≠ 37 → h'.2 a b = h.2 a b
theorem ahF_rf (h : oh_St) : ahF h h := ⟨fun _ _ _ _ => rfl, fun _ _ _ => rfl⟩
theorem ahF_tr {h h' h2 : oh_St} (H : ahF h h') (H2 : ahF h' h2) : ahF h h2 := ⟨fun a b x y => (H2.1 a b x y).trans (H.1 a b x y), fun a b x => (H2.2 a b x).trans (H.2 a b x)⟩
theorem ahF_o {h h' : oh_St} (H : oFr h h' 37) : ahF h h' := ⟨fun a b x y => H.1 a b (by omega) (by omega) y, fun a b x => H.2.2 a b (by omega)⟩
theorem ahF_s {h h' : oh_St} (H : ∀ a b, ¬ (37 ≤ a ∧ a ≤ 41) → h'.1 a b = h.1 a b) (H2 : ∀ a b, ¬ (a = 37 ∧ b = 8) → h'.2 a b = h.2 a b) : ahF h h' := ⟨fun a b x _ => H a b x, fun a b x => H2 a b (by omega)⟩
theorem ahF_u (h : oh_St) {a : Nat} (b : Nat) (v : Int32) (ha : 37 ≤ a ∧ a ≤ 41) : ahF h (oh_upi h a b v) := ⟨fun c e x _ => by rw [oh_g1, if_neg (by omega)], fun _ _ _ => rfl⟩
theorem R_ah {h h' k k' : oh_St} (H : R h k) (f : ahF h h') (b : back k k') : R h' k' := by
  obtain ⟨B, b1, b2, b3, r⟩ := H
  have hl := cB_len (Or.inl rfl) b1
  obtain ⟨h1, h2, h3, h4, h5, h6, h7, h8, h9⟩ := b1
  have e : ∀ a b, a ≤ 36 → a ≠ 14 → h'.1 a b = h.1 a b := fun a b x y => f.1 a b (by omega) y
  exact ⟨B, ⟨cSc_c h1 (fun a b x => e a b (by omega) (by omega)) (f.2 _ _ (by omega)), (e _ _ (by omega) (by omega)).trans h2, (e _ _ (by omega) (by omega)).trans h3, fun i hi => (e _ _ (by omega) (by omega)).trans (h4 i hi), rowIs_c h5 (fun a b x => e a b (by omega) (by omega)), rowIs_c h6 (fun a b x => e a b (by omega) (by omega)), rowIs_c h7 (fun a b x => e a b (by omega) (by omega)), rowIs_c h8 (fun a b x => e a b (by omega) (by omega)), (e _ _ (by omega) (by omega)).trans h9⟩, mB_c b2 b.1 b.2.1 hl.1 hl.2, b3, rest_c r ⟨fun a b x => f.1 a b (by omega) (by omega), f.1 7 0 (by omega) (by omega), f.1 11 0 (by omega) (by omega), f.2 20 8 (by omega)⟩ b.2.2⟩
/-- the class's book and the law behind a run ahead -/
theorem cB_ah {h h' : oh_St} {B : oBk} (b1 : cB h 1 B) (f : ahF h h') : cB h' 1 B := by
  obtain ⟨h1, h2, h3, h4, h5, h6, h7, h8, h9⟩ := b1
  have e : ∀ a b, a ≤ 36 → a ≠ 14 → h'.1 a b = h.1 a b := fun a b x y => f.1 a b (by omega) y
  exact ⟨cSc_c h1 (fun a b x => e a b (by omega) (by omega)) (f.2 _ _ (by omega)), (e _ _ (by omega) (by omega)).trans h2, (e _ _ (by omega) (by omega)).trans h3, fun i hi => (e _ _ (by omega) (by omega)).trans (h4 i hi), rowIs_c h5 (fun a b x => e a b (by omega) (by omega)), rowIs_c h6 (fun a b x => e a b (by omega) (by omega)), rowIs_c h7 (fun a b x => e a b (by omega) (by omega)), rowIs_c h8 (fun a b x => e a b (by omega) (by omega)), (e _ _ (by omega) (by omega)).trans h9⟩
theorem lawIs_ah {h h' : oh_St} {u : Nat} {c : List Nat} (H : lawIs h 11 u c) (f : ahF h h') : lawIs h' 11 u c := ⟨(f.1 11 0 (by omega) (by omega)).trans H.1, H.2.1, rowIs_c H.2.2.1 (fun a b x => f.1 a b (by omega) (by omega)), H.2.2.2⟩
theorem mB_bk {h k k' : oh_St} {B : oBk} (b1 : cB h 1 B) (b2 : mB k B) (b : back k k') : mB k' B := by
  have hl := cB_len (Or.inl rfl) b1
  exact mB_c b2 b.1 b.2.1 hl.1 hl.2
theorem aheadT {d : Nat} {K : Int32 → oh_St → Prop} {h : oh_St} {n : Nat} (hn : n ≤ 30) (q : K 1 h) : CM (d + 1) jX7_isAhead [.int (nI n)] h (oh_r1 K) := mX7_isAhead (br_f (nI_pos (by omega)) (br_f (nI_nlt (a := 30) (by omega) (by omega)) ⟨oh_i1, q⟩))
theorem aheadF {d : Nat} {K : Int32 → oh_St → Prop} {h : oh_St} {v : Int32} (hv : ¬ oIn 31 v) (q : K 0 h) : CM (d + 1) jX7_isAhead [.int v] h (oh_r1 K) := mX7_isAhead ⟨fun _ => ⟨oh_i0, q⟩, fun c => ⟨fun _ => ⟨oh_i0, q⟩, fun c2 => absurd ((oIn_le (n := 30) (by omega)).mp ⟨c, c2⟩) hv⟩⟩
/-- the class goes n bells ahead -/
theorem cAhead {d n : Nat} {K : Int32 → oh_St → Prop} {h : oh_St} {B : oBk} (b1 : cB h 1 B) (r : h.1 7 0 = 0 ∧ h.1 11 0 = 1) (b3 : bOk B) (hn : n ≤ 30) (q : ∀ h' b, cI h' 37 (sAtB (iT false (bF B) (cOf 1 (bX B 1)) (bS B, bD B, bZ B) n).1 b, (iT false (bF B) (cOf 1 (bX B 1)) (bS B, bD B, bZ B) n).2.1, (iT false (bF B) (cOf 1 (bX B 1)) (bS B, bD B, bZ B) n).2.2) → ahF h h' → K (nI (lastSp (bF B) (cOf 1 (bX B 1)) (bS B, bD B, bZ B) n)) h') : CM (d + 9) jX7_startAhead [.ref 0] h (oh_r0 (fun h7 => CM (d + 9) jX7_ringAhead [.ref 0, .int (nI n)] h7 (oh_r1 K))) := by
  have hl := cB_law (u := 1) b1 r (by omega)
  have b39 := b3.1
  refine sX7_startAhead b1 (fun h1 f1 f2 c hf => ?_)
  have a1 := ahF_s f1 f2
  exact sX7_ringAhead c hf (lawIs_ah hl a1) (by show sB (bS B) + n < 500; omega) (fun h' b cc fr => q h' b cc (ahF_tr a1 (ahF_o fr)))
/-- the model goes n bells on, to be put back -/
theorem mAhead {d n : Nat} {K : oh_St → Prop} {h k : oh_St} {B : oBk} (b1 : cB h 1 B) (b2 : mB k B) (b3 : bOk B) (op : bO B = true) (hn : n ≤ 30) (q : ∀ k', saved k k' → mI k' (iT false (bF B) (cOf 1 (bX B 1)) (bS B, bD B, bZ B) n) → K k') : MM (d + 49) jX8_begins [.ref 0] k (oh_r0 (fun h5 => MM (d + 49) jX8_goesOn [.ref 0, .int (nI n), .int (0 : Int32)] h5 (oh_r0 K))) := by
  have b39 := b3.1
  refine sX8_begins (fun k1 sv bk => ?_)
  have m1 := mB_bk b1 b2 bk
  exact sX8_goesOn (l := false) (mI_B b1 m1 op) m1.2.2.2.2.2.2.1 m1.2.2.2.1 (by show sB (bS B) + n < 1000; omega) (fun k' rk m => q k' (saved_r sv rk) m)
theorem p_then {h k : oh_St} {v w : Int32} (H : R h k) : Both jX7_then jX8_then [.int v, .int w] h k := by
  intro d
  obtain ⟨B, b1, b2, b3, r⟩ := id H
  have h27 : h.1 2 7 = oh_b (bO B) := b1.2.1
  have k3 := b2.2.2.1
  by_cases c : oIn 31 v
  · obtain ⟨n, hn, rfl⟩ := c
    have n30 : n ≤ 30 := by omega
    by_cases c2 : oIn 2 w
    · obtain ⟨a, ha, rfl⟩ := c2
      have pre : ∀ (K : Int32 → oh_St → Prop), _ → MM (d + 100) jX8_then [.ref 0, .int (nI n), .int (nI a)] k (oh_r1 K) := fun K q => mX8_then (sX8_inT 0 30 (by decide) (by decide) (nI_pos (by omega)) (nI_nlt (a := 30) (by omega) (by omega)) (br_f (by decide) (sX8_inT 0 1 (by decide) (by decide) (nI_pos (by omega)) (nI_nlt (a := 1) (by omega) (by omega)) (br_f (by decide) q))))
      refine mX7_then (aheadT n30 (br_f (by decide) (br_f (nI_pos (by omega)) (br_t (nI_le (b := 1) (by omega) (by omega)) ?_))))
      rw [h27]
      refine oh_bn (fun op => cAhead b1 r.1 b3 n30 (fun h' b cc fr => ?_)) (fun z => sX7_failed 3 (by decide) (by omega) (by omega) (pre _ (sX8_whyY k3 (fun y => by rw [z] at y; cases y) (fun _ => br_f (by decide) (sX8_finds 3 (by omega) ⟨by decide, R_fail H (by omega)⟩)))))
      have ok : sOk (sAtB (iT false (bF B) (cOf 1 (bX B 1)) (bS B, bD B, bZ B) n).1 b) := cc.1.2.2.2.2.2.2
      have e8 : h'.2 37 8 = lN (sP (iT false (bF B) (cOf 1 (bX B 1)) (bS B, bD B, bZ B) n).1) := cc.1.2.2.2.1
      have e9 : h'.1 37 9 = nI (sQ (iT false (bF B) (cOf 1 (bX B 1)) (bS B, bD B, bZ B) n).1) := cc.1.2.2.2.2.1
      have Pl : sP (iT false (bF B) (cOf 1 (bX B 1)) (bS B, bD B, bZ B) n).1 < 2 ^ 64 := by
        have := sP_lt ok
        exact this
      rw [e8, e9]
      have : a = 0 ∨ a = 1 := by omega
      rcases this with rfl | rfl
      · refine oh_nf rfl (pre _ (sX8_whyY k3 (fun _ => br_t rfl (mAhead b1 b2 b3 op n30 (fun k' sv m => oh_nf rfl ⟨om_in (n := 3) (by omega), sX8_ends sv (fun k2 bk => ⟨?_, R_ah H fr bk⟩)⟩))) (fun y => by rw [op] at y; cases y)))
        rw [om_3]
        exact m.1.2.2.2.1.symm
      · refine oh_nt (by decide) (sJ13_bitCount Pl (pre _ (sX8_whyY k3 (fun _ => br_t rfl (mAhead b1 b2 b3 op n30 (fun k' sv m => oh_nt (by decide) ?_))) (fun y => by rw [op] at y; cases y))))
        rw [m.1.2.2.1]
        exact sX8_manyOf Pl (sX8_ends sv (fun k2 bk => ⟨rfl, R_ah H fr bk⟩))
    · have c3 := oIn_out (n := 1) (by omega) c2
      have M : MM (d + 100) jX8_then [.ref 0, .int (nI n), .int w] k (oh_r1 (fun y k' => (-1000000001 : Int32) = y ∧ R (oh_upi h 59 1 (h.1 59 1 + 1)) k')) := mX8_then (sX8_inT 0 30 (by decide) (by decide) (nI_pos (by omega)) (nI_nlt (a := 30) (by omega) (by omega)) (br_f (by decide) (sX8_inF 0 1 (by decide) (by decide) c3 (br_t rfl (sX8_whyN (br_f (by decide) (sX8_finds 1 (by omega) ⟨by decide, R_fail H (by omega)⟩)))))))
      refine mX7_then (aheadT n30 (br_f (by decide) ⟨fun _ => sX7_failed 1 (by decide) (by omega) (by omega) M, fun y => ⟨fun y2 => ?_, fun _ => sX7_failed 1 (by decide) (by omega) (by omega) M⟩⟩))
      exact absurd ((oIn_le (n := 1) (by omega)).mp ⟨y, Int32.not_lt.mpr y2⟩) c2
  · have c3 := oIn_out (n := 30) (by omega) c
    exact mX7_then (aheadF c (br_t rfl (sX7_failed 1 (by decide) (by omega) (by omega) (mX8_then (sX8_inF 0 30 (by decide) (by decide) c3 (br_t rfl (sX8_whyN (br_f (by decide) (sX8_finds 1 (by omega) ⟨by decide, R_fail H (by omega)⟩)))))))))
theorem p_thenPaid {h k : oh_St} {v w : Int32} (H : R h k) : Both jX7_thenPaid jX8_thenPaid [.int v, .int w] h k := by
  intro d
  obtain ⟨B, b1, b2, b3, r⟩ := id H
  have h27 : h.1 2 7 = oh_b (bO B) := b1.2.1
  have k3 := b2.2.2.1
  have hn6 := b1.1.2.2.2.2.2.2.1
  by_cases c : oIn 31 v
  · obtain ⟨n, hn, rfl⟩ := c
    have n30 : n ≤ 30 := by omega
    by_cases c2 : oIn (sN (bS B)) w
    · obtain ⟨p, hp, rfl⟩ := c2
      have hp6 : p < 6 := by omega
      have pre : ∀ (K : Int32 → oh_St → Prop), _ → MM (d + 100) jX8_thenPaid [.ref 0, .int (nI n), .int (nI p)] k (oh_r1 K) := fun K q => mX8_thenPaid (sX8_inT 0 30 (by decide) (by decide) (nI_pos (by omega)) (nI_nlt (a := 30) (by omega) (by omega)) (br_f (by decide) (sX8_isManT b2.1.1 hn6 hp (br_f (by decide) q))))
      refine mX7_thenPaid (aheadT n30 (br_f (by decide) (sX7_isManT b1.1.1 hn6 hp (oh_nt (by decide) ?_))))
      rw [h27]
      refine oh_bn (fun op => cAhead b1 r.1 b3 n30 (fun h' b cc fr => ⟨oh_in hp6 (by omega), ?_⟩)) (fun z => sX7_failed 3 (by decide) (by omega) (by omega) (pre _ (sX8_whyY k3 (fun y => by rw [z] at y; cases y) (fun _ => br_f (by decide) (sX8_finds 3 (by omega) ⟨by decide, R_fail H (by omega)⟩)))))
      rw [oh_cl (by omega), cc.2.1 p hp6]
      refine pre _ (sX8_whyY k3 (fun _ => br_t rfl (mAhead b1 b2 b3 op n30 (fun k' sv m => sX8_of (w := 4) hp6 (by omega) (sX8_ends sv (fun k2 bk => ⟨(m.2.1 p hp6).symm, R_ah H fr bk⟩))))) (fun y => by rw [op] at y; cases y))
    · exact mX7_thenPaid (aheadT n30 (br_f (by decide) (sX7_isManF b1.1.1 hn6 c2 (oh_nf rfl (sX7_failed 1 (by decide) (by omega) (by omega) (mX8_thenPaid (sX8_inT 0 30 (by decide) (by decide) (nI_pos (by omega)) (nI_nlt (a := 30) (by omega) (by omega)) (br_f (by decide) (sX8_isManF b2.1.1 hn6 c2 (br_t rfl (sX8_whyN (br_f (by decide) (sX8_finds 1 (by omega) ⟨by decide, R_fail H (by omega)⟩)))))))))))))
  · have c3 := oIn_out (n := 30) (by omega) c
    exact mX7_thenPaid (aheadF c (br_t rfl (sX7_failed 1 (by decide) (by omega) (by omega) (mX8_thenPaid (sX8_inF 0 30 (by decide) (by decide) c3 (br_t rfl (sX8_whyN (br_f (by decide) (sX8_finds 1 (by omega) ⟨by decide, R_fail H (by omega)⟩)))))))))
/-- the model: behind how many bells a man has spoken -/
def snM (n : Nat) : Int32 := if n = 31 then -1 else nI n
theorem sX8_soonest {d p : Nat} {K : Int32 → oh_St → Prop} {k : oh_St} {x : oI} {fi : Int32} {t : List Nat} (hk : mI k x) (ht : txIs k 1 1 t) (hf : k.1 1 4 = fi) (hbe : sB x.1 < 400) (hp : p < 6) (q : ∀ k', rF k k' → K (snM (sn fi (cOf 1 t) x p)) k') : MM (d + 49) jX8_soonest [.ref 0, .int (nI p)] k (oh_r1 K) := by
  have hok := hk.1.2.2.2.2.2
  refine mX8_soonest ?_
  have key : ∀ f i, f + i = 31 → ∀ k', snF fi (cOf 1 t) x p f i = sn fi (cOf 1 t) x p → mI k' (iT false fi (cOf 1 t) x i) → rF k k' → wX8_soonest_2 (d + 48) (oh_r1 K) (nI p) (nI i) k' := by
    intro f
    induction f with
    | zero =>
      intro i hi k' e m r
      have : i = 31 := by omega
      subst this
      unfold snF at e
      refine bX8_soonest_2 (br_t (nI_lt (a := 30) (by omega) (by omega)) ?_)
      have := q k' r
      rw [← e] at this
      exact this
    | succ f ih =>
      intro i hi k' e m r
      unfold snF at e
      have oki := iT_ok (l := false) (fi := fi) (c := cOf 1 t) hok i (by omega)
      have q1 := sQ_lt oki
      refine bX8_soonest_2 (br_f (nI_nlt (a := 30) (by omega) (by omega)) ⟨om_in (n := 3) (by omega), ?_⟩)
      rw [om_3, m.1.2.2.2.1, ob_bit (by omega) (by omega)]
      refine oh_bo (fun y => ?_) (fun y => ?_)
      · rw [if_neg (by rw [y]; decide)] at e
        refine mRing (l := false) m (txIs_r (by omega) ht r) ((r.2.1 4 (by omega) (by omega) (by omega) (by omega)).trans hf) (by rw [iT_B]; omega) (fun k2 r2 m2 => ?_)
        rw [nI_1]
        exact ih (i + 1) (by omega) k2 e m2 (rF_tr r r2)
      · rw [if_pos y] at e
        have := q k' r
        rw [← e] at this
        unfold snM at this
        rw [if_neg (by omega)] at this
        exact this
  exact key 31 0 rfl k rfl hk (rF_rf k)
theorem sn_le (fi : Int32) (c : List Nat) (x : oI) (p : Nat) : sn fi c x p ≤ 31 := snF_le 31 0 rfl
theorem p_when {h k : oh_St} {v : Int32} (H : R h k) : Both jX7_when jX8_when [.int v] h k := by
  intro d
  obtain ⟨B, b1, b2, b3, r⟩ := id H
  have h27 : h.1 2 7 = oh_b (bO B) := b1.2.1
  have k3 := b2.2.2.1
  have hn6 := b1.1.2.2.2.2.2.2.1
  have b39 := b3.1
  have hl := cB_law (u := 1) b1 r.1 (by omega)
  by_cases c2 : oIn (sN (bS B)) v
  · obtain ⟨p, hp, rfl⟩ := c2
    have hp6 : p < 6 := by omega
    have hs := sn_le (bF B) (cOf 1 (bX B 1)) (bS B, bD B, bZ B) p
    refine mX7_when (sX7_isManT b1.1.1 hn6 hp (oh_nt (by decide) ?_))
    rw [h27]
    have pre : ∀ (K : Int32 → oh_St → Prop), _ → MM (d + 100) jX8_when [.ref 0, .int (nI p)] k (oh_r1 K) := fun K q => mX8_when (sX8_isManT b2.1.1 hn6 hp q)
    refine oh_bn (fun op => sX7_startAhead b1 (fun h1 f1 f2 c hf => ?_)) (fun z => sX7_failed 3 (by decide) (by omega) (by omega) (pre _ (sX8_whyY k3 (fun y => by rw [z] at y; cases y) (fun _ => br_f (by decide) (sX8_finds 3 (by omega) ⟨by decide, R_fail H (by omega)⟩)))))
    have a1 := ahF_s f1 f2
    refine sX7_bellsTillSpoken c hf (lawIs_ah hl a1) (by show sB (bS B) < 400; omega) hp6 (fun h' fr => ?_)
    have a2 := ahF_tr a1 (ahF_o fr)
    -- the model
    have mod : ∀ (K : Int32 → oh_St → Prop), (∀ k', back k k' → ((0 ≤ snM (sn (bF B) (cOf 1 (bX B 1)) (bS B, bD B, bZ B) p) → K (snM (sn (bF B) (cOf 1 (bX B 1)) (bS B, bD B, bZ B) p)) k') ∧ (¬ 0 ≤ snM (sn (bF B) (cOf 1 (bX B 1)) (bS B, bD B, bZ B) p) → MM (d + 99) jX8_finds [.ref 0, .int (2 : Int32)] k' (oh_r1 (fun x10 h9 => oh_r1 K (some (.int x10)) h9))))) → MM (d + 100) jX8_when [.ref 0, .int (nI p)] k (oh_r1 K) := by
      intro K q
      refine pre _ (sX8_whyY k3 (fun _ => br_t rfl (sX8_begins (fun k1 sv bk => ?_))) (fun y => by rw [op] at y; cases y))
      have m1 := mB_bk b1 b2 bk
      exact sX8_soonest (mI_B b1 m1 op) m1.2.2.2.2.2.2.1 m1.2.2.2.1 (by show sB (bS B) < 400; omega) hp6 (fun k' rk => sX8_ends (saved_r sv rk) (fun k2 bk2 => q k2 bk2))
    by_cases e : sn (bF B) (cOf 1 (bX B 1)) (bS B, bD B, bZ B) p = 31
    · rw [e]
      refine br_f (nI_ge (a := 30) (by omega) (by omega)) (sX7_failed 2 (by decide) (by omega) (by omega) (mod _ (fun k' bk => ?_)))
      rw [e]
      exact br_f (by decide) (sX8_finds 2 (by omega) ⟨by decide, R_fail (R_ah H a2 bk) (by omega)⟩)
    · refine br_t (nI_le (b := 30) (by omega) (by omega)) (mod _ (fun k' bk => ?_))
      unfold snM
      rw [if_neg e]
      exact br_t (nI_pos' (by omega)) ⟨rfl, R_ah H a2 bk⟩
  · exact mX7_when (sX7_isManF b1.1.1 hn6 c2 (oh_nf rfl (sX7_failed 1 (by decide) (by omega) (by omega) (mX8_when (sX8_isManF b2.1.1 hn6 c2 (sX8_whyN (br_f (by decide) (sX8_finds 1 (by omega) ⟨by decide, R_fail H (by omega)⟩))))))))

/-! BELLS one behind the other -/
abbrev oI : Type := oS × (Nat → Int32) × Int32
def iSt (l : Bool) (fi : Int32) (c : List Nat) (x : oI) : oI := (sHear x.1 (sWho x.1 (sW x.1)) (lZ l x.1 x.2.2).2, pdF x.1 fi c (sWho x.1 (sW x.1)) (lZ l x.1 x.2.2).2 x.2.1, (lZ l x.1 x.2.2).1)
def iT (l : Bool) (fi : Int32) (c : List Nat) (x : oI) : Nat → oI
  | 0 => x
  | n + 1 => iSt l fi c (iT l fi c x n)
theorem iT_N (l : Bool) (fi : Int32) (c : List Nat) (x : oI) : ∀ n, sN (iT l fi c x n).1 = sN x.1
  | 0 => rfl
  | n + 1 => iT_N l fi c x n
theorem iT_W (l : Bool) (fi : Int32) (c : List Nat) (x : oI) : ∀ n, sW (iT l fi c x n).1 = sW x.1
  | 0 => rfl
  | n + 1 => iT_W l fi c x n
theorem iT_B (l : Bool) (fi : Int32) (c : List Nat) (x : oI) : ∀ n, sB (iT l fi c x n).1 = sB x.1 + n
  | 0 => rfl
  | n + 1 => by
    show sB (iT l fi c x n).1 + 1 = _
    rw [iT_B l fi c x n]
    omega
theorem iT_ok {l : Bool} {fi : Int32} {c : List Nat} {x : oI} (h : sOk x.1) : ∀ n, sB x.1 + n < 1000 → sOk (iT l fi c x n).1
  | 0, _ => h
  | n + 1, hb => sHear_ok (iT_ok h n (by omega)) (ob_m_lt _ _) (by rw [iT_B]; omega)
theorem iT_pd {l : Bool} {fi : Int32} {c : List Nat} {x : oI} {i : Nat} (hi : sN x.1 ≤ i) : ∀ n, (iT l fi c x n).2.1 i = x.2.1 i
  | 0 => rfl
  | n + 1 => by
    show pdF _ _ _ _ _ _ i = _
    rw [pdF, if_neg (fun z => by have := z.1; rw [iT_N] at this; omega)]
    exact iT_pd hi n
theorem iT_P {l : Bool} {fi : Int32} {c : List Nat} {x : oI} (h : ¬ sP x.1 = 0) : ∀ n, ¬ sP (iT l fi c x n).1 = 0
  | 0 => h
  | n + 1 => by
    show ¬ (if sLf (iT l fi c x n).1 _ _ (sN (iT l fi c x n).1) = 0 then sP (iT l fi c x n).1 else sLf (iT l fi c x n).1 _ _ (sN (iT l fi c x n).1)) = 0
    split
    · exact iT_P h n
    · assumption
theorem iT_z (fi : Int32) (c : List Nat) (x : oI) : ∀ n, (iT false fi c x n).2.2 = x.2.2
  | 0 => rfl
  | n + 1 => iT_z fi c x n
theorem oFr_tr {h h' h2 : oh_St} {o : Nat} (H : oFr h h' o) (H2 : oFr h' h2 o) : oFr h h2 o := ⟨fun a b x y z => (H2.1 a b x y z).trans (H.1 a b x y z), fun b x y => (H2.2.1 b x y).trans (H.2.1 b x y), fun a b x => (H2.2.2 a b x).trans (H.2.2 a b x)⟩
theorem oFr_rf (h : oh_St) (o : Nat) : oFr h h o := ⟨fun _ _ _ _ _ => rfl, fun _ _ _ => rfl, fun _ _ _ => rfl⟩
/-- a scene of the class with wages and draws -/
def cI (h : oh_St) (o : Nat) (x : oI) : Prop := cSc h o x.1 ∧ (∀ i, i < 6 → h.1 (o + 4) i = x.2.1 i) ∧ h.1 1 5 = x.2.2
def mI (k : oh_St) (x : oI) : Prop := mSc k x.1 ∧ (∀ i, i < 6 → k.1 1 (8 + 5 * i + 4) = x.2.1 i) ∧ k.1 1 5 = x.2.2
theorem lawIs_fr {h h' : oh_St} {o u : Nat} {c : List Nat} (ho : o = 2 ∨ o = 37) (H : lawIs h 11 u c) (f : oFr h h' o) : lawIs h' 11 u c := ⟨(f.1 11 0 (by omega) (by omega) (by omega)).trans H.1, H.2.1, rowIs_c H.2.2.1 (fun a b x => f.1 a b (by omega) (by omega) (by omega)), H.2.2.2⟩
/-- one bell of the class -/
theorem cRing {d : Nat} {K : Int32 → oh_St → Prop} {h : oh_St} {o : Nat} {x : oI} {fi : Int32} {c : List Nat} (ho : o = 2 ∨ o = 37) (hc : cI h o x) (hf : h.1 o 6 = fi) (hl : lawIs h 11 1 c) (hbe : sB x.1 + 1 < 1000)
    (q : ∀ h', cI h' o (iSt false fi c x) → oFr h h' o → K (oh_b (sChg x.1 (sWho x.1 (sW x.1)) (sBlk x.1 (sW x.1) (sWho x.1 (sW x.1))))) h') : CM (d + 7) jX4_ring [.ref o, .ref 11] h (oh_r1 K) := sX4_ring ho hc.1 hf hc.2.1 hl hbe (fun h' a b e => q h' ⟨a, e, (b.1 1 5 (by omega) (by omega) (by omega)).trans hc.2.2⟩ b)
theorem mRing {d : Nat} {K : oh_St → Prop} {k : oh_St} {x : oI} {fi : Int32} {t : List Nat} {l : Bool} (hk : mI k x) (ht : txIs k 1 1 t) (hf : k.1 1 4 = fi) (hbe : sB x.1 + 1 < 1000)
    (q : ∀ k', rF k k' → mI k' (iSt l fi (cOf 1 t) x) → K k') : MM (d + 48) jX8_rings [.ref 0, .int (oh_b l)] k (oh_r0 K) := sX8_rings hk.1 ht hf hk.2.2 hk.2.1 hbe (fun k' r m z p => q k' r ⟨m, p, z⟩)
theorem txIs_r {k k' : oh_St} {u : Nat} {t : List Nat} (hu : u < 2) (H : txIs k 1 u t) (r : rF k k') : txIs k' 1 u t := ⟨(r.2.1 _ (by omega) (by omega) (by omega) (by omega)).trans H.1, fun i hi => (r.2.1 _ (by omega) (by omega) (by omega) (by omega)).trans (H.2.1 i hi), H.2.2⟩
theorem sX8_goesOn {d : Nat} {K : oh_St → Prop} {k : oh_St} {x : oI} {fi : Int32} {t : List Nat} {l : Bool} {n : Nat} (hk : mI k x) (ht : txIs k 1 1 t) (hf : k.1 1 4 = fi) (hbe : sB x.1 + n < 1000) (q : ∀ k', rF k k' → mI k' (iT l fi (cOf 1 t) x n) → K k') : MM (d + 49) jX8_goesOn [.ref 0, .int (nI n), .int (oh_b l)] k (oh_r0 K) := by
  refine mX8_goesOn ?_
  have key : ∀ i, i ≤ n → ∀ k', rF k k' → mI k' (iT l fi (cOf 1 t) x i) → wX8_goesOn_2 (d + 48) (oh_r0 K) (nI n) (oh_b l) (nI i) k' := by
    refine oh_up (fun i hi ih => ?_) ?_
    · intro k' r m
      refine bX8_goesOn_2 (br_f (nI_ge hi (by omega)) (mRing m (txIs_r (by omega) ht r) ((r.2.1 4 (by omega) (by omega) (by omega) (by omega)).trans hf) (by rw [iT_B]; omega) (fun k2 r2 m2 => ?_)))
      rw [nI_1]
      exact ih k2 (rF_tr r r2) m2
    · intro k' r m
      exact bX8_goesOn_2 (br_t (nI_le (Nat.le_refl _) (by omega)) (q k' r m))
  exact key 0 (Nat.zero_le _) k (rF_rf k) hk
/-- both went on so -/
theorem R_it {h k h' k' : oh_St} {B : oBk} (b1 : cB h 1 B) (b2 : mB k B) (b3 : bOk B) (r : rest h k) (op : bO B = true) {l : Bool} {n : Nat} (hn : sB (bS B) + n ≤ 99) (c : cI h' 2 (iT l (bF B) (cOf 1 (bX B 1)) (bS B, bD B, bZ B) n)) (f1 : ∀ a b, a ≠ 2 → a ≠ 6 → a ≠ 14 → ¬ (a = 1 ∧ b = 5) → h'.1 a b = h.1 a b) (f2 : ∀ b, b ≠ 9 → b ≠ 10 → h'.1 2 b = h.1 2 b) (f3 : ∀ a b, ¬ (a = 2 ∧ b = 8) → h'.2 a b = h.2 a b) (m : mI k' (iT l (bF B) (cOf 1 (bX B 1)) (bS B, bD B, bZ B) n)) (rk : rF k k') : R h' k' := by
  obtain ⟨h1, h2, h3, h4, h5, h6, h7, h8, h9⟩ := id b1
  obtain ⟨k1, k2, k3, k4, k5, k6, k7, k8, k9, k10⟩ := id b2
  refine R_sc b1 b2 b3 r (iT l (bF B) (cOf 1 (bX B 1)) (bS B, bD B, bZ B) n).1 true (bF B) (iT l (bF B) (cOf 1 (bX B 1)) (bS B, bD B, bZ B) n).2.1 (iT l (bF B) (cOf 1 (bX B 1)) (bS B, bD B, bZ B) n).2.2 ⟨c.1, ?_, ?_, c.2.1, c.2.2⟩ (fun a b x => f1 a b (by omega) (by omega) (by omega) (by omega)) ⟨mS0_of m.1, fun _ => m.1.2.2.1, ?_, ?_, m.2.1, m.2.2⟩ (fun b x => rk.2.1 b (by omega) (by omega) (by omega) (by omega)) ⟨?_, fun i hi h6 => ?_, (fun y => by cases y), fun _ => iT_P (b3.2.2.2.2 op) n⟩ ⟨fun a b x => f1 a b (by omega) (by omega) (by omega) (by omega), f1 7 0 (by omega) (by omega) (by omega) (by omega), f1 11 0 (by omega) (by omega) (by omega) (by omega), f3 20 8 (by omega)⟩ (kF_r rk)
  · rw [f2 7 (by omega) (by omega), ← op]; exact h2
  · rw [f2 6 (by omega) (by omega)]; exact h3
  · rw [rk.2.1 1 (by omega) (by omega) (by omega) (by omega), ← op]; exact k3
  · rw [rk.2.1 4 (by omega) (by omega) (by omega) (by omega)]; exact k4
  · rw [iT_B]; exact hn
  · rw [iT_N] at hi
    rw [iT_pd hi]
    exact b3.2.2.1 i hi h6
theorem cI_B {h : oh_St} {B : oBk} (b1 : cB h 1 B) : cI h 2 (bS B, bD B, bZ B) := ⟨b1.1, b1.2.2.2.1, b1.2.2.2.2.2.2.2.2⟩
theorem mI_B {h k : oh_St} {B : oBk} (b1 : cB h 1 B) (b2 : mB k B) (op : bO B = true) : mI k (bS B, bD B, bZ B) := ⟨mSc_0 b2.1 (b2.2.1 op) b1.1.2.2.2.2.2.2, b2.2.2.2.2.1, b2.2.2.2.2.2.2.2.2.2⟩
/-- why no bells may ring -/
theorem rung2 {d : Nat} {h k : oh_St} {B : oBk} {v : Int32} {l : Bool} (H : R h k) (b1 : cB h 1 B) (b2 : mB k B) (b3 : bOk B) (jm : Nat) (em : ∀ (K : Int32 → oh_St → Prop) , MM (d + 99) jX8_rung [.ref 0, .int v, .int (oh_b l)] k (oh_r1 K) → MM (d + 100) jm [.ref 0, .int v] k (oh_r1 K)) (L : oh_Q → Int32 → oh_St → Prop)
    (q : ∀ n, v = nI n → 1 ≤ n → n ≤ 30 → bO B = true → sB (bS B) + n ≤ 99 → (∀ (K : Int32 → oh_St → Prop), MM (d + 98) jX8_goesOn [.ref 0, .int v, .int (oh_b l)] k (oh_r0 (fun h7 => (vp_in (3 : Int32) 210 ∧ oh_r1 K (some (.int (h7.1 1 (3 : Int32).toNatClampNeg))) h7))) → MM (d + 100) jm [.ref 0, .int v] k (oh_r1 K)) → L (oh_r1 (fun x h' => MM (d + 100) jm [.ref 0, .int v] k (oh_r1 (fun y k' => x = y ∧ R h' k')))) (0 : Int32) h) :
    CM (d + 99) jX7_whyNoBells [.ref 0, .int v] h (oh_r1 (fun x2 h1 => ((x2 = 0 → L (oh_r1 (fun x h' => MM (d + 100) jm [.ref 0, .int v] k (oh_r1 (fun y k' => x = y ∧ R h' k')))) (0 : Int32) h1) ∧ (¬ x2 = 0 → CM (d + 99) jX7_failed [.ref 0, .int x2] h1 (oh_r1 (fun x4 h3 => oh_r1 (fun x h' => MM (d + 100) jm [.ref 0, .int v] k (oh_r1 (fun y k' => x = y ∧ R h' k'))) (some (.int x4)) h3)))))) := by
  obtain ⟨h1, h2, h3, h4, h5, h6, h7, h8, h9⟩ := id b1
  obtain ⟨k1, k2, k3, k4, k5, k6, k7, k8, k9, k10⟩ := id b2
  have h27 : h.1 2 7 = oh_b (bO B) := h2
  have h2a : h.1 2 10 = nI (sB (bS B)) := h1.2.2.2.2.2.1
  have hb := b3.1
  by_cases c1 : v < 1
  · exact mX7_whyNoBells (br_t c1 (br_f (by decide) (sX7_failed 1 (by decide) (by omega) (by omega) (em _ (mX8_rung (sX8_inF 1 30 (by decide) (by decide) (Or.inl c1) (oh_nf rfl (sX8_finds 1 (by omega) ⟨by decide, R_fail H (by omega)⟩))))))))
  · by_cases c2 : 30 < v
    · exact mX7_whyNoBells (br_f c1 (br_f (Int32.not_le.mpr c2) (br_f (by decide) (sX7_failed 1 (by decide) (by omega) (by omega) (em _ (mX8_rung (sX8_inF 1 30 (by decide) (by decide) (Or.inr c2) (oh_nf rfl (sX8_finds 1 (by omega) ⟨by decide, R_fail H (by omega)⟩)))))))))
    · obtain ⟨n, hn, rfl⟩ : oIn 31 v := (oIn_le (n := 30) (by omega)).mp ⟨fun z => c1 (Int32.lt_trans z (by decide)), c2⟩
      have n1 : 1 ≤ n := by
        rcases Nat.eq_zero_or_pos n with z | z
        · subst z; exact absurd (by decide) c1
        · exact z
      refine mX7_whyNoBells (br_f c1 (br_t (Int32.not_lt.mp c2) ?_))
      rw [h27, h2a, nI_add]
      have pre : ∀ (K : Int32 → oh_St → Prop), MM (d + 98) jX8_isOpen [.ref 0] k (oh_r1 (fun x4 h3 => ((x4 = 0 → MM (d + 98) jX8_finds [.ref 0, .int (3 : Int32)] h3 (oh_r1 (fun x6 h5 => oh_r1 K (some (.int x6)) h5))) ∧ (¬ x4 = 0 → (vp_in (2 : Int32) 210 ∧ ((((h3.1 1 (2 : Int32).toNatClampNeg) + nI n) ≤ (99 : Int32) → MM (d + 98) jX8_goesOn [.ref 0, .int (nI n), .int (oh_b l)] h3 (oh_r0 (fun h7 => (vp_in (3 : Int32) 210 ∧ oh_r1 K (some (.int (h7.1 1 (3 : Int32).toNatClampNeg))) h7)))) ∧ (¬ ((h3.1 1 (2 : Int32).toNatClampNeg) + nI n) ≤ (99 : Int32) → MM (d + 98) jX8_finds [.ref 0, .int (3 : Int32)] h3 (oh_r1 (fun x9 h8 => oh_r1 K (some (.int x9)) h8))))))))) → MM (d + 100) jm [.ref 0, .int (nI n)] k (oh_r1 K) := fun K q2 => em _ (mX8_rung (sX8_inT 1 30 (by decide) (by decide) c1 c2 (oh_nt (by decide) q2)))
      refine oh_bz (fun z => br_f (by decide) (sX7_failed 3 (by decide) (by omega) (by omega) (pre _ (sX8_isOpen k3 ?_)))) (fun z => ?_)
      · rw [z]
        exact br_t rfl (sX8_finds 3 (by omega) ⟨by decide, R_fail H (by omega)⟩)
      · by_cases c3 : sB (bS B) + n ≤ 99
        · refine br_t (nI_le (b := 99) c3 (by omega)) (br_t rfl (q n rfl n1 (by omega) z c3 (fun K q2 => pre _ (sX8_isOpen k3 ?_))))
          rw [z]
          refine br_f (by decide) ⟨om_in (n := 2) (by omega), ?_⟩
          rw [om_2, k1.2.2.2, nI_add]
          exact br_t (nI_le (b := 99) c3 (by omega)) q2
        · refine br_f (nI_ge (a := 99) (by omega) (by omega)) (br_f (by decide) (sX7_failed 3 (by decide) (by omega) (by omega) (pre _ (sX8_isOpen k3 ?_))))
          rw [z]
          refine br_f (by decide) ⟨om_in (n := 2) (by omega), ?_⟩
          rw [om_2, k1.2.2.2, nI_add]
          exact br_f (nI_ge (a := 99) (by omega) (by omega)) (sX8_finds 3 (by omega) ⟨by decide, R_fail H (by omega)⟩)
theorem p_bells {h k : oh_St} {v : Int32} (H : R h k) : Both jX7_bells jX8_bells [.int v] h k := by
  intro d
  obtain ⟨B, b1, b2, b3, r⟩ := id H
  have b39 := b3.1
  refine mX7_bells (rung2 (l := false) H b1 b2 b3 jX8_bells (fun K q => mX8_bells q) (fun Q v3 h => wX7_bells_18 (d + 99) Q v v3 h) ?_)
  rintro n rfl n1 n30 op hb mst
  have hl := cB_law (u := 1) b1 r.1 (by omega)
  have key : ∀ i, i ≤ n → ∀ h', oFr h h' 2 → cI h' 2 (iT false (bF B) (cOf 1 (bX B 1)) (bS B, bD B, bZ B) i) → wX7_bells_18 (d + 99) (oh_r1 (fun x h' => MM (d + 100) jX8_bells [.ref 0, .int (nI n)] k (oh_r1 (fun y k' => x = y ∧ R h' k')))) (nI n) (nI i) h' := by
    refine oh_up (fun i hi ih => ?_) ?_
    · intro h' f c
      refine bX7_bells_18 (br_f (nI_ge hi (by omega)) (cRing (Or.inl rfl) c ((f.2.1 6 (by omega) (by omega)).trans b1.2.2.1) (lawIs_fr (Or.inl rfl) hl f) (by rw [iT_B]; show sB (bS B) + i + 1 < 1000; omega) (fun h2 c2 f2 => ?_)))
      rw [nI_1]
      exact ih h2 (oFr_tr f f2) c2
    · intro h' f c
      refine bX7_bells_18 (br_t (nI_le (Nat.le_refl _) (by omega)) (mst _ (sX8_goesOn (l := false) (mI_B b1 b2 op) b2.2.2.2.2.2.2.1 b2.2.2.2.1 (by show sB (bS B) + n < 1000; omega) (fun k' rk m => ⟨om_in (n := 3) (by omega), ?_⟩))))
      rw [om_3]
      have e : h'.1 2 9 = nI (sQ (iT false (bF B) (cOf 1 (bX B 1)) (bS B, bD B, bZ B) n).1) := c.1.2.2.2.2.1
      exact ⟨e.trans m.1.2.2.2.1.symm, R_it b1 b2 b3 r op hb c (fun a b x y z _ => f.1 a b x y z) f.2.1 f.2.2 m rk⟩
  exact key 0 (Nat.zero_le _) h (oFr_rf h 2) (cI_B b1)

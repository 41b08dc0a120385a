/-! BOTH SIDES: open -/
def lst (n w : Nat) : Int32 := if n = 0 then 0 else oh_b (w.testBit (n - 1))
def gvn (n : Nat) (c : List Nat) (w : Nat) : Bool := decide (¬ lwF 0 c (nI (ob_ct w 6)) (nI n) (nI w &&& 1) (lst n w) = 0)
theorem om_or0L (x : Int64) : x ||| 0 = x := by
  apply Int64.toBitVec_inj.mp
  simp
theorem sX4_givenBy {d : Nat} {K : Int64 → oh_St → Prop} {h : oh_St} {S : oS} {c : List Nat} (hc : cSc h 2 S) (hl : lawIs h 7 0 c) (q : ∀ h', oSame h h' [10] → K (lN (ob_m (gvn (sN S) c) (2 ^ sN S))) h') : CM (d + 4) jX4_givenBy [.ref 2, .ref 7] h (oh_r2 K) := by
  have hok := hc.2.2.2.2.2.2
  have hn := hok.1
  have h64 := sPow hok
  refine mX4_givenBy ?_
  have key : ∀ w, w ≤ 2 ^ sN S → ∀ h', oSame h h' [10] → wX4_givenBy_5 (d + 3) (oh_r2 K) (lN (ob_m (gvn (sN S) c) w)) (nI w) h' := by
    refine oh_up (fun w hw ih => ?_) ?_
    · intro h' hs
      have hc' : cSc h' 2 S := cSc_same hc hs (by simp) (by simp) (by simp) (by simp)
      have hl' := lawIs_same hl hs (by simp) (by simp) (by simp)
      have h20 : h'.1 2 0 = nI (sN S) := hc'.1
      refine bX4_givenBy_5 (sX4_worldCount (Or.inl rfl) hc' (br_f (nI_ge hw (by omega)) ?_))
      rw [h20]
      have fin : ∀ (x : Int32), x = lst (sN S) w → CM (d + 3) jX1_gives [.ref 7, .int (nI (ob_ct w 6)), .int (nI (sN S)), .int (nI w &&& (1 : Int32)), .int x] h' (oh_r1 (fun x8 h7 => ((x8 = 0 → wX4_givenBy_5 (d + 3) (oh_r2 K) (lN (ob_m (gvn (sN S) c) w)) (nI w + 1) h7) ∧ (¬ x8 = 0 → wX4_givenBy_5 (d + 3) (oh_r2 K) ((lN (ob_m (gvn (sN S) c) w)) ||| ((1 : Int64) <<< ((nI w).toInt64 &&& 63))) (nI w + 1) h7)))) := by
        intro x hx
        subst hx
        refine sX1_gives (Or.inl rfl) hl' (fun h2 s2 => ?_)
        have I := ih h2 (oSame_tr hs s2)
        rw [ob_m] at I
        rw [nI_1, ob_lpow (by omega), ob_lor]
        refine ⟨fun z => ?_, fun z => ?_⟩
        · have e : gvn (sN S) c w = false := by unfold gvn; rw [decide_eq_false (by rw [z]; simp)]
          rw [e, if_neg (by decide)] at I
          exact I
        · have e : gvn (sN S) c w = true := by unfold gvn; rw [decide_eq_true z]
          rw [e, if_pos rfl] at I
          exact I
      refine oh_nc (fun z => ?_) (fun z => sJ6_bitCount (by omega) ?_)
      · have n0 : sN S ≠ 0 := fun e => z (by rw [e]; rfl)
        rw [show (1 : Int32) = nI 1 from rfl, om_sub (by omega)]
        refine sX7_bit (by omega) (by omega) (sJ6_bitCount (by omega) ?_)
        rw [h20]
        exact fin _ (by unfold lst; rw [if_neg n0])
      · have n0 : sN S = 0 := (nI_eq (b := 0) (by omega) (by omega)).mp z
        rw [h20]
        exact fin _ (by unfold lst; rw [if_pos n0])
    · intro h' hs
      have hc' : cSc h' 2 S := cSc_same hc hs (by simp) (by simp) (by simp) (by simp)
      exact bX4_givenBy_5 (sX4_worldCount (Or.inl rfl) hc' (br_t (nI_le (Nat.le_refl _) (by omega)) (q h' hs)))
  exact key 0 (Nat.zero_le _) h (oSame_rf _ _)
theorem gF_rf (k : oh_St) : gF k k := ⟨fun _ _ _ _ => rfl, rfl⟩
theorem gF_tr {k k' k2 : oh_St} (H : gF k k') (H2 : gF k' k2) : gF k k2 := ⟨fun a b x y => (H2.1 a b x y).trans (H.1 a b x y), H2.2.trans H.2⟩
theorem mOpen {d : Nat} {K : Int32 → oh_St → Prop} {k : oh_St} {S : oS} {t : List Nat} (hk : mS0 k S) (hok : sOk S) (ht : txIs k 1 0 t)
    (q1 : (ob_m (gvn (sN S) (cOf 0 t)) (2 ^ sN S)).testBit (sW S) = true → ∀ k', gF k k' → K (nI (ob_ct (ob_m (gvn (sN S) (cOf 0 t)) (2 ^ sN S)) 64)) (oh_upi (oh_upi (oh_upi (oh_upl k' 0 3 (lN (ob_m (gvn (sN S) (cOf 0 t)) (2 ^ sN S)))) 1 1 1) 1 3 0) 1 2 0))
    (q0 : (ob_m (gvn (sN S) (cOf 0 t)) (2 ^ sN S)).testBit (sW S) = false → ∀ k', gF k k' → MM (d + 47) jX8_finds [.ref 0, .int (3 : Int32)] k' (oh_r1 K)) : wX8_open_25 (d + 47) (oh_r1 K) (nI (sN S)) (0 : Int64) (0 : Int32) k := by
  have hn := hok.1
  have h64 := sPow hok
  have hw := sW_lt hok
  have gm : ∀ {k'}, gF k k' → mS0 k' S ∧ txIs k' 1 0 t := fun {k'} g => ⟨mS0_d hk (fun b _ => g.1 1 b (by omega) (by omega)), (g.1 1 _ (by omega) (by omega)).trans ht.1, fun i hi => (g.1 1 _ (by omega) (by omega)).trans (ht.2.1 i hi), ht.2.2⟩
  have key : ∀ w, w ≤ 2 ^ sN S → ∀ k', gF k k' → wX8_open_25 (d + 47) (oh_r1 K) (nI (sN S)) (lN (ob_m (gvn (sN S) (cOf 0 t)) w)) (nI w) k' := by
    refine oh_up (fun w hw2 ih => ?_) ?_
    · intro k' g
      obtain ⟨m, tx⟩ := gm g
      refine bX8_open_25 ?_
      rw [ob_pow (by omega)]
      refine br_f (nI_ge hw2 (by omega)) ?_
      have fin : ∀ (x : Int32), x = lst (sN S) w → MM (d + 47) jX8_gives [.ref 0, .int (0 : Int32), .int (nI (ob_ct w 6)), .int (nI (sN S)), .int (nI w &&& (1 : Int32)), .int x] k' (oh_r1 (fun x10 h9 => ((x10 = 0 → wX8_open_25 (d + 47) (oh_r1 K) (nI (sN S)) (lN (ob_m (gvn (sN S) (cOf 0 t)) w) ||| (0 : Int64)) (nI w + (1 : Int32)) h9) ∧ (¬ x10 = 0 → wX8_open_25 (d + 47) (oh_r1 K) (nI (sN S)) (lN (ob_m (gvn (sN S) (cOf 0 t)) w) ||| ((1 : Int64) <<< ((nI w).toInt64 &&& 63))) (nI w + (1 : Int32)) h9)))) := by
        intro x hx
        subst hx
        refine sX8_gives (u := 0) (by omega) tx (fun k2 g2 => ?_)
        have I := ih k2 (gF_tr g g2)
        rw [ob_m] at I
        rw [nI_1, ob_lpow (by omega), ob_lor, om_or0L]
        refine ⟨fun z => ?_, fun z => ?_⟩
        · have e : gvn (sN S) (cOf 0 t) w = false := by unfold gvn; rw [decide_eq_false (by rw [z]; simp)]
          rw [e, if_neg (by decide)] at I
          exact I
        · have e : gvn (sN S) (cOf 0 t) w = true := by unfold gvn; rw [decide_eq_true z]
          rw [e, if_pos rfl] at I
          exact I
      refine oh_nc (fun z => sX8_ones (by omega) ?_) (fun z => sX8_ones (by omega) ?_)
      · have n0 : sN S ≠ 0 := fun e => z (by rw [e]; rfl)
        have e : (nI w >>> ((nI (sN S) - 1) &&& 31)) &&& 1 = lst (sN S) w := by
          rw [show (nI (sN S) - 1 : Int32) = nI (sN S - 1) from om_sub (b := 1) (by omega), ob_bit (by omega) (by omega)]
          unfold lst
          rw [if_neg n0]
        exact fin _ e
      · have n0 : sN S = 0 := (nI_eq (b := 0) (by omega) (by omega)).mp z
        exact fin _ (by unfold lst; rw [if_pos n0])
    · intro k' g
      obtain ⟨m, tx⟩ := gm g
      have hl : ob_m (gvn (sN S) (cOf 0 t)) (2 ^ sN S) < 2 ^ 64 := ob_m_le _ h64
      refine bX8_open_25 ?_
      rw [ob_pow (by omega)]
      have hats : ∀ (K2 : Int32 → oh_St → Prop), K2 (nI (sW S)) k' → MM (d + 47) jX8_hats [.ref 0] k' (oh_r1 K2) := by
        intro K2 q2
        have hk2 : mSc (oh_upl k' 0 3 (lN (sP S))) S := ⟨m.1, m.2.1, by rw [oh_g4, if_pos ⟨rfl, rfl⟩], m.2.2.1, m.2.2.2, hok⟩
        refine mX8_hats ?_
        have key : ∀ i, i ≤ sN S → wX8_hats_4 (d + 46) (oh_r1 K2) (nI (ob_m (fun p => (sW S).testBit p) i)) (nI i) k' := by
          refine oh_up (fun i hi ih => ?_) ?_
          · refine bX8_hats_4 ⟨om_in (n := 0) (by omega), ?_⟩
            rw [om_0, m.1]
            refine br_f (nI_ge hi (by omega)) (sX8_of (w := 2) (by omega) (by omega) ?_)
            rw [(m.2.1 i (by omega)).2.2.1, ob_bsh _ (by omega), om_hat, show (1 : Int32) = nI 1 from rfl, nI_add]
            exact ih
          · refine bX8_hats_4 ⟨om_in (n := 0) (by omega), ?_⟩
            rw [om_0, m.1]
            refine br_t (nI_le (Nat.le_refl _) (by omega)) ?_
            rw [ob_m_self hok.2.2.1]
            exact q2
        exact key 0 (Nat.zero_le _)
      refine br_t (nI_le (Nat.le_refl _) (by omega)) (hats _ ?_)
      rw [ob_sbit hw, Nat.mod_eq_of_lt hl, oh_cmp0]
      cases hb : (ob_m (gvn (sN S) (cOf 0 t)) (2 ^ sN S)).testBit (sW S)
      · exact oh_nf rfl (q0 hb k' g)
      · refine oh_nt (by decide) ⟨om_in (n := 1) (by omega), om_in (n := 3) (by omega), om_in (n := 2) (by omega), ?_⟩
        rw [om_1, om_3, om_2, oh_g2, oh_g2, oh_g2, oh_g4, if_pos ⟨rfl, rfl⟩]
        exact sX8_manyOf hl (q1 hb k' g)
  exact key 0 (Nat.zero_le _) k (gF_rf k)
def sOpen (S : oS) (P : Nat) : oS := (sN S, sK S, sM S, sE S, sW S, P, 0, 0)
theorem p_open {h k : oh_St} (H : R h k) : Both jX7_open jX8_open [] h k := by
  intro d
  obtain ⟨B, b1, b2, b3, r⟩ := id H
  obtain ⟨h1, h2, h3, h4, h5, h6, h7, h8, h9⟩ := id b1
  obtain ⟨k1, k2, k3, k4, k5, k6, k7, k8, k9, k10⟩ := id b2
  have hok := h1.2.2.2.2.2.2
  have hn := hok.1
  have h64 := sPow hok
  have hw := sW_lt hok
  have h27 : h.1 2 7 = oh_b (bO B) := h2
  have hl := cB_law (u := 0) b1 r.1 (by omega)
  refine mX7_open ?_
  rw [h27]
  refine oh_bz (fun z => ?_) (fun z => sX7_failed 3 (by decide) (by omega) (by omega) (mX8_open (sX8_isOpen k3 ?_)))
  · have mst : ∀ (K : Int32 → oh_St → Prop), wX8_open_25 (d + 99) (oh_r1 K) (nI (sN (bS B))) (0 : Int64) (0 : Int32) k → MM (d + 100) jX8_open [.ref 0] k (oh_r1 K) := by
      intro K q
      refine mX8_open (sX8_isOpen k3 ?_)
      rw [z]
      refine br_t rfl ⟨om_in (n := 0) (by omega), ?_⟩
      rw [om_0, k1.1]
      exact q
    refine sX4_givenBy h1 hl (fun h' hs => ?_)
    have hc' : cSc h' 2 (bS B) := cSc_same h1 hs (by simp) (by simp) (by simp) (by simp)
    have h25 : h'.1 2 5 = nI (sW (bS B)) := hc'.2.2.1
    have Pl : ob_m (gvn (sN (bS B)) (cOf 0 (bX B 0))) (2 ^ sN (bS B)) < 2 ^ 64 := ob_m_le _ h64
    rw [h25]
    refine sX7_holds Pl hw (oh_bn (fun y => ⟨oh_i1, sJ13_bitCount Pl (mst _ (mOpen (d := d + 52) k1 hok k6 (fun _ k' g => ⟨rfl, ?_⟩) (fun y2 => by rw [y] at y2; cases y2)))⟩) (fun y => sX7_failed 3 (by decide) (by omega) (by omega) (mst _ (mOpen (d := d + 52) k1 hok k6 (fun y2 => by rw [y] at y2; cases y2) (fun _ k' g => sX8_finds 3 (by omega) ⟨by decide, ?_⟩)))))
    · have so : sOk (sOpen (bS B) (ob_m (gvn (sN (bS B)) (cOf 0 (bX B 0))) (2 ^ sN (bS B)))) := ⟨hok.1, hok.2.1, hok.2.2.1, ob_m_lt _ _, Nat.two_pow_pos _, by show 0 < 1000; omega⟩
      have e : ∀ a b, a ≠ 10 → h'.1 a b = h.1 a b := fun a b x => hs.1 a b (by simp [x])
      have f : ∀ b, k'.1 1 b = k.1 1 b := fun b => g.1 1 b (by omega) (by omega)
      refine R_sc b1 b2 b3 r (sOpen (bS B) (ob_m (gvn (sN (bS B)) (cOf 0 (bX B 0))) (2 ^ sN (bS B)))) true (bF B) (bD B) (bZ B) ⟨⟨?_, fun i hi => ⟨?_, ?_, ?_⟩, ?_, ?_, ?_, ?_, so⟩, ?_, ?_, fun i hi => ?_, ?_⟩ (fun a b x => ?_) ⟨⟨?_, fun i hi => ⟨?_, ?_, ?_, ?_⟩, ?_, ?_⟩, fun _ => ?_, ?_, ?_, fun i hi => ?_, ?_⟩ (fun b x => ?_) ⟨by show 0 ≤ 99; omega, b3.2.2.1, (fun y => by cases y), fun _ e => by
        have e2 : ob_m (gvn (sN (bS B)) (cOf 0 (bX B 0))) (2 ^ sN (bS B)) = 0 := e
        rw [e2, Nat.zero_testBit] at y
        cases y⟩ ⟨fun a b x => ?_, ?_, ?_, ?_⟩ ⟨fun a b x => ?_, ?_⟩
      · rw [oh_g1, if_neg (by omega), oh_g1, if_neg (by omega), oh_g3, oh_g1, if_neg (by omega)]; exact hc'.1
      · rw [oh_g1, if_neg (by omega), oh_g1, if_neg (by omega), oh_g3, oh_g1, if_neg (by omega)]; exact (hc'.2.1 i hi).1
      · rw [oh_g1, if_neg (by omega), oh_g1, if_neg (by omega), oh_g3, oh_g1, if_neg (by omega)]; exact (hc'.2.1 i hi).2.1
      · rw [oh_g1, if_neg (by omega), oh_g1, if_neg (by omega), oh_g3, oh_g1, if_neg (by omega)]; exact (hc'.2.1 i hi).2.2
      · rw [oh_g1, if_neg (by omega), oh_g1, if_neg (by omega), oh_g3, oh_g1, if_neg (by omega)]; exact hc'.2.2.1
      · rw [oh_g2, oh_g2, oh_g4, if_pos ⟨rfl, rfl⟩]; rfl
      · rw [oh_g1, if_neg (by omega), oh_g1, if_pos ⟨rfl, rfl⟩]; rfl
      · rw [oh_g1, if_pos ⟨rfl, rfl⟩]; rfl
      · rw [oh_g1, if_neg (by omega), oh_g1, if_neg (by omega), oh_g3, oh_g1, if_pos ⟨rfl, rfl⟩]; rfl
      · rw [oh_g1, if_neg (by omega), oh_g1, if_neg (by omega), oh_g3, oh_g1, if_neg (by omega), e _ _ (by omega)]; exact h3
      · rw [oh_g1, if_neg (by omega), oh_g1, if_neg (by omega), oh_g3, oh_g1, if_neg (by omega), e _ _ (by omega)]; exact h4 i hi
      · rw [oh_g1, if_neg (by omega), oh_g1, if_neg (by omega), oh_g3, oh_g1, if_neg (by omega), e _ _ (by omega)]; exact h9
      · rw [oh_g1, if_neg (by omega), oh_g1, if_neg (by omega), oh_g3, oh_g1, if_neg (by omega), e _ _ (by omega)]
      · rw [oh_g1, if_neg (by omega), oh_g1, if_neg (by omega), oh_g1, if_neg (by omega), oh_g3, f]; exact k1.1
      · rw [oh_g1, if_neg (by omega), oh_g1, if_neg (by omega), oh_g1, if_neg (by omega), oh_g3, f]; exact (k1.2.1 i hi).1
      · rw [oh_g1, if_neg (by omega), oh_g1, if_neg (by omega), oh_g1, if_neg (by omega), oh_g3, f]; exact (k1.2.1 i hi).2.1
      · rw [oh_g1, if_neg (by omega), oh_g1, if_neg (by omega), oh_g1, if_neg (by omega), oh_g3, f]; exact (k1.2.1 i hi).2.2.1
      · rw [oh_g1, if_neg (by omega), oh_g1, if_neg (by omega), oh_g1, if_neg (by omega), oh_g3, f]; exact (k1.2.1 i hi).2.2.2
      · rw [oh_g1, if_neg (by omega), oh_g1, if_pos ⟨rfl, rfl⟩]; rfl
      · rw [oh_g1, if_pos ⟨rfl, rfl⟩]; rfl
      · rw [oh_g2, oh_g2, oh_g2, oh_g4, if_pos ⟨rfl, rfl⟩]; rfl
      · rw [oh_g1, if_neg (by omega), oh_g1, if_neg (by omega), oh_g1, if_pos ⟨rfl, rfl⟩]; rfl
      · rw [oh_g1, if_neg (by omega), oh_g1, if_neg (by omega), oh_g1, if_neg (by omega), oh_g3, f]; exact k4
      · rw [oh_g1, if_neg (by omega), oh_g1, if_neg (by omega), oh_g1, if_neg (by omega), oh_g3, f]; exact k5 i hi
      · rw [oh_g1, if_neg (by omega), oh_g1, if_neg (by omega), oh_g1, if_neg (by omega), oh_g3, f]; exact k10
      · rw [oh_g1, if_neg (by omega), oh_g1, if_neg (by omega), oh_g1, if_neg (by omega), oh_g3, f]
      · rw [oh_g1, if_neg (by omega), oh_g1, if_neg (by omega), oh_g3, oh_g1, if_neg (by omega), e _ _ (by omega)]
      · rw [oh_g1, if_neg (by omega), oh_g1, if_neg (by omega), oh_g3, oh_g1, if_neg (by omega), e _ _ (by omega)]
      · rw [oh_g1, if_neg (by omega), oh_g1, if_neg (by omega), oh_g3, oh_g1, if_neg (by omega), e _ _ (by omega)]
      · rw [oh_g2, oh_g2, oh_g4, if_neg (by omega), oh_g2, hs.2]
      · rw [oh_g1, if_neg (by omega), oh_g1, if_neg (by omega), oh_g1, if_neg (by omega), oh_g3]; exact (kF_g g).1 a b x
      · rw [oh_g2, oh_g2, oh_g2, oh_g4, if_neg (by omega), g.2]
    · have e59 : h'.1 59 3 = h.1 59 3 := hs.1 59 3 (by simp)
      have RR : R h' k' := R_scr H (fun a b x => hs.1 a b (by simp; omega)) (fun a _ => by rw [hs.2]) (fun b => g.1 1 b (by omega) (by omega)) (by rw [g.2]) (kF_g g)
      exact R_fail RR (by omega)
  · rw [z]
    exact br_f (by decide) (sX8_finds 3 (by omega) ⟨by decide, R_fail H (by omega)⟩)

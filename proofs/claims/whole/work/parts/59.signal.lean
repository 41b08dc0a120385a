/-! BOTH SIDES: signal, bestSignal -/
def par (s y : Nat) : Nat := ob_ct (y &&& s) 6 % 2
def sel (S : oS) (s : Nat) : Nat := ob_m (fun y => (sP S).testBit y && decide (par s y = par s (sW S))) (2 ^ sN S)
def kc (S : oS) (s : Nat) : Nat := fb_ct (fun p => oKn p (sCell (sWith S (sel S s)) p (sW S))) (sN S)
theorem sel_ok {S : oS} (h : sOk S) (s : Nat) : sOk (sWith S (sel S s)) := ⟨h.1, h.2.1, h.2.2.1, ob_m_lt _ _, h.2.2.2.2.1, h.2.2.2.2.2⟩
theorem sel_cell {S : oS} (hok : sOk S) (s p : Nat) : sCell S p (sW S) &&& ob_m (fun y => decide (par s y = par s (sW S))) (2 ^ sN S) = sCell (sWith S (sel S s)) p (sW S) := ob_ext (fun y => by
  have h64 := sPow hok
  show _ = (ob_m (fun y => (sel S s).testBit y && decide (y &&& sE S p = sW S &&& sE S p)) 64).testBit y
  rw [Nat.testBit_and, sCell, ob_m_bit, ob_m_bit, ob_m_bit, sel, ob_m_bit]
  cases (sP S).testBit y <;> cases decide (y < 64) <;> cases decide (y < 2 ^ sN S) <;> cases decide (y &&& sE S p = sW S &&& sE S p) <;> cases decide (par s y = par s (sW S)) <;> rfl)
theorem and_64 {a s : Nat} (h : s < 64) : a &&& s < 64 := Nat.lt_of_le_of_lt Nat.and_le_right h
theorem par_lt (s y : Nat) : par s y < 2 := Nat.mod_lt _ (by omega)
theorem nI_a0 (a : Nat) : nI a + 0 = nI a := nI_add a 0
theorem sX7_knowBySignal {d s : Nat} {K : Int32 → oh_St → Prop} {h : oh_St} {S : oS} (hc : cSc h 2 S) (hs : s < 64) (q : K (nI (kc S s)) h) : CM (d + 4) jX7_knowBySignal [.ref 0, .int (nI s)] h (oh_r1 K) := by
  have hok := hc.2.2.2.2.2.2
  have hn := hok.1
  have h64 := sPow hok
  have h25 : h.1 2 5 = nI (sW S) := hc.2.2.1
  have h20 : h.1 2 0 = nI (sN S) := hc.1
  have hW := sW_lt hok
  have pl := par_lt s (sW S)
  refine mX7_knowBySignal ?_
  rw [h25, ob_and]
  refine sJ6_bitCount (and_64 hs) ?_
  rw [ob_and1]
  have fin : ∀ i, i ≤ sN S → wX7_knowBySignal_69 (d + 3) (oh_r1 K) (lN (ob_m (fun y => decide (par s y = par s (sW S))) (2 ^ sN S))) (nI (fb_ct (fun p => oKn p (sCell (sWith S (sel S s)) p (sW S))) i)) (nI i) h := by
    refine oh_up (fun i hi ih => ?_) ?_
    · refine bX7_knowBySignal_69 ?_
      rw [h20, h25, nI_1, nI_1]
      refine br_f (nI_ge hi (by omega)) (sX4_thought (Or.inl rfl) hc (by omega) hW ?_)
      rw [ob_land, sel_cell hok]
      refine sX7_knows (sCell_lt _ _ _) (by omega) (oh_bz (fun z => ?_) (fun z => ?_))
      · rw [om_c0 _ i z] at ih
        exact ih
      · rw [fb_ct_succ, if_pos z] at ih
        exact ih
    · refine bX7_knowBySignal_69 ?_
      rw [h20]
      exact br_t (nI_le (Nat.le_refl _) (by omega)) q
  have key : ∀ w, w ≤ 2 ^ sN S → wX7_knowBySignal_26 (d + 3) (oh_r1 K) (nI s) (nI (par s (sW S))) (lN (ob_m (fun y => decide (par s y = par s (sW S))) w)) (nI w) h := by
    refine oh_up (fun w hw ih => ?_) ?_
    · refine bX7_knowBySignal_26 (sX4_worldCount (Or.inl rfl) hc (br_f (nI_ge hw (by omega)) ?_))
      rw [ob_and]
      refine sJ6_bitCount (and_64 hs) ?_
      rw [ob_and1, nI_1, ob_lpow (by omega), ob_lor]
      have pl2 := par_lt s w
      rw [ob_m] at ih
      refine oh_nc (fun y => ?_) (fun y => ?_)
      · have y : ¬ par s w = par s (sW S) := fun e => y (congrArg nI e)
        rw [if_neg (by rw [decide_eq_false y]; decide)] at ih
        exact ih
      · have y : par s w = par s (sW S) := (nI_eq (a := par s w) (b := par s (sW S)) (by omega) (by omega)).mp y
        rw [if_pos (decide_eq_true y)] at ih
        exact ih
    · exact bX7_knowBySignal_26 (sX4_worldCount (Or.inl rfl) hc (br_t (nI_le (Nat.le_refl _) (by omega)) (fin 0 (Nat.zero_le _))))
  exact key 0 (Nat.zero_le _)
theorem om_m2 : ∀ a, a < 7 → nI a - nI a / (2 : Int32) * (2 : Int32) = nI (a % 2) := by decide +kernel
theorem mSc_w {k k' : oh_St} {S : oS} {P : Nat} (H : mSc k S) (e : ∀ b, k'.1 1 b = k.1 1 b) (eP : k'.2 0 3 = lN P) (ok : sOk (sWith S P)) : mSc k' (sWith S P) := by
  obtain ⟨h1, h2, h3, h4, h5, h6⟩ := H
  exact ⟨(e _).trans h1, fun p hp => ⟨(e _).trans (h2 p hp).1, (e _).trans (h2 p hp).2.1, (e _).trans (h2 p hp).2.2.1, (e _).trans (h2 p hp).2.2.2⟩, eP, (e _).trans h4, (e _).trans h5, ok⟩
theorem sX8_whoKnowBy {d s : Nat} {K : Int32 → oh_St → Prop} {k : oh_St} {S : oS} (hk : mSc k S) (hs : s < 64) (q : ∀ k', back k k' → K (nI (kc S s)) k') : MM (d + 4) jX8_whoKnowBy [.ref 0, .int (nI s)] k (oh_r1 K) := by
  have hok := hk.2.2.2.2.2
  have hn := hok.1
  have h64 := sPow hok
  have hW := sW_lt hok
  have hP := sP_lt hok
  have pl := par_lt s (sW S)
  have oks := sel_ok hok s
  refine mX8_whoKnowBy (sX8_hats hk ?_)
  rw [ob_and, hk.2.2.1]
  have a64 := and_64 (a := sW S) hs
  refine sX8_ones (by omega) ⟨by decide, ?_⟩
  have c6 := ob_ct6 (sW S &&& s)
  rw [om_m2 _ (by omega)]
  have fin : ∀ i, i ≤ sN S → ∀ k', (∀ a b, a ∉ [6, 7, 8, 9] → k'.1 a b = k.1 a b) → (∀ a b, ¬ (a = 0 ∧ b = 3) → k'.2 a b = k.2 a b) → mSc k' (sWith S (sel S s)) → mTh k' (sWith S (sel S s)) → wX8_whoKnowBy_97 (d + 3) (oh_r1 K) (lN (sP S)) (nI (fb_ct (fun p => oKn p (sCell (sWith S (sel S s)) p (sW S))) i)) (nI i) k' := by
    refine oh_up (fun i hi ih => ?_) ?_
    · intro k' f1 f2 m t
      refine bX8_whoKnowBy_97 ⟨om_in (n := 0) (by omega), ?_⟩
      rw [om_0, m.1, nI_1, nI_1, nI_a0]
      refine br_f (nI_ge (show i < sN (sWith S (sel S s)) from hi) (by show sN S < _; omega)) (sX8_hats m (sX8_knows m t hi hW (oh_bz (fun z => ?_) (fun z => ?_))))
      · rw [om_c0 _ i z] at ih
        exact ih k' f1 f2 m t
      · have z : oKn i (sCell (sWith S (sel S s)) i (sW S)) = true := z
        rw [fb_ct_succ, if_pos z] at ih
        exact ih k' f1 f2 m t
    · intro k' f1 f2 m t
      refine bX8_whoKnowBy_97 ⟨om_in (n := 0) (by omega), ?_⟩
      rw [om_0, m.1]
      refine br_t (nI_le (show sN (sWith S (sel S s)) ≤ sN S from Nat.le_refl _) (by omega)) (q _ ⟨fun b _ => f1 1 b (by simp), ?_, ⟨fun a b x => f1 a b (by simp; omega), ?_⟩⟩)
      · rw [oh_g4, if_pos ⟨rfl, rfl⟩, hk.2.2.1]
      · rw [oh_g4, if_neg (by omega)]; exact f2 0 5 (by omega)
  have key : ∀ w, w ≤ 2 ^ sN S → ∀ k', (∀ a b, k'.1 a b = k.1 a b) → (∀ a b, ¬ (a = 0 ∧ b = 3) → k'.2 a b = k.2 a b) → k'.2 0 3 = lN (ob_m (fun y => (sP S).testBit y && decide (par s y = par s (sW S))) w) → wX8_whoKnowBy_26 (d + 3) (oh_r1 K) (nI s) (lN (sP S)) (nI (par s (sW S))) (nI w) k' := by
    refine oh_up (fun w hw ih => ?_) ?_
    · intro k' f1 f2 e
      have ih2 : ∀ x, x = lN (ob_m (fun y => (sP S).testBit y && decide (par s y = par s (sW S))) (w + 1)) → wX8_whoKnowBy_26 (d + 3) (oh_r1 K) (nI s) (lN (sP S)) (nI (par s (sW S))) (nI (w + 1)) (oh_upl k' 0 3 x) := fun x hx => ih _ (fun a b => by rw [oh_g3]; exact f1 a b) (fun a b y => by rw [oh_g4, if_neg y]; exact f2 a b y) (by rw [oh_g4, if_pos ⟨rfl, rfl⟩]; exact hx)
      refine bX8_whoKnowBy_26 ⟨om_in (n := 0) (by omega), ?_⟩
      rw [om_0, f1 1 0, hk.1, ob_pow (by omega), ob_sbit (by omega), Nat.mod_eq_of_lt hP, oh_cmp0, ob_b1, nI_1, ob_and, e, om_or0L, ob_lpow (by omega), ob_lor]
      have a64 := and_64 (a := w) hs
      have c6 := ob_ct6 (w &&& s)
      have pl2 := par_lt s w
      refine br_f (nI_ge hw (by omega)) (oh_nc (fun y => ih2 _ ?_) (fun y => sX8_ones (by omega) ⟨by decide, ?_⟩))
      · rw [ob_m, if_neg (by simp [y])]
      · rw [om_m2 _ (by omega)]
        refine oh_nc (fun y2 => ih2 _ ?_) (fun y2 => ih2 _ ?_)
        · have y2 : ¬ par s w = par s (sW S) := fun e => y2 (congrArg nI e)
          rw [ob_m, if_neg (by simp [y2])]
        · have y2 : par s w = par s (sW S) := (nI_eq (a := par s w) (b := par s (sW S)) (by omega) (by omega)).mp y2
          rw [ob_m, if_pos (by simp [y, y2])]
    · intro k' f1 f2 e
      refine bX8_whoKnowBy_26 ⟨om_in (n := 0) (by omega), ?_⟩
      rw [om_0, f1 1 0, hk.1, ob_pow (by omega)]
      have m := mSc_w hk (fun b => f1 1 b) e oks
      refine br_t (nI_le (Nat.le_refl _) (by omega)) (sX8_think m (fun k2 s2 t2 => fin 0 (Nat.zero_le _) k2 (fun a b x => (s2.1 a b x).trans (f1 a b)) (fun a b x => by rw [s2.2]; exact f2 a b x) (mSc_same m s2 (by simp)) t2))
  exact key 0 (Nat.zero_le _) _ (fun a b => by rw [oh_g3]) (fun a b x => by rw [oh_g4, if_neg x]) (by rw [oh_g4, if_pos ⟨rfl, rfl⟩]; rfl)
theorem sub64 {v : Int32} {E : Nat} (hE : E < 64) (h : v &&& (nI E ^^^ (-1 : Int32)) = 0) : ∃ s, s < 64 ∧ v = nI s := by
  refine ⟨v.toBitVec.toNat, ?_, ?_⟩
  · refine ob_lt (n := 6) (fun j hj => ?_)
    by_cases h32 : j < 32
    · have e := congrArg (fun x => bt x j) h
      have b1 : bt (nI E) j = false := by
        show (BitVec.ofNat 32 E).getLsbD j = false
        rw [BitVec.getLsbD_ofNat, ob_hi (n := 6) hE hj, Bool.and_false]
      have e2 : (bt v j && (bt (nI E) j ^^ bt (-1) j)) = false := by
        rw [← b_xor, ← b_and]
        exact e.trans (b_0 j)
      rw [b1, b_m1 j h32] at e2
      have e3 : bt v j = false := by simpa using e2
      exact e3
    · exact ob_hi v.toBitVec.isLt (by omega)
  · apply Int32.toBitVec_inj.mp
    show v.toBitVec = BitVec.ofNat 32 v.toBitVec.toNat
    simp
theorem R_bk {h k k' : oh_St} (H : R h k) (b : back k k') : R h k' := R_ah H (ahF_rf h) b
theorem p_signal {h k : oh_St} {v w : Int32} (H : R h k) : Both jX7_signal jX8_signal [.int v, .int w] h k := by
  intro d
  obtain ⟨B, b1, b2, b3, r⟩ := id H
  have h27 : h.1 2 7 = oh_b (bO B) := b1.2.1
  have k3 := b2.2.2.1
  have hok := b1.1.2.2.2.2.2.2
  have hn6 := hok.1
  by_cases c : oIn (sN (bS B)) v
  · obtain ⟨p, hp, rfl⟩ := c
    have hp6 : p < 6 := by omega
    have hE := (hok.2.1 p hp6).2.2
    have e5 : h.1 5 p = nI (sE (bS B) p) := (b1.1.2.1 p hp6).2.2
    have ek : k.1 1 (8 + 5 * p + 3) = nI (sE (bS B) p) := (b2.1.2.1 p hp6).2.2.2
    refine mX7_signal (sX7_isManT b1.1.1 hn6 hp (br_f (by decide) ⟨oh_in hp6 (by omega), ?_⟩))
    rw [oh_cl (by omega), e5, h27]
    have pre : ∀ (K : Int32 → oh_St → Prop), _ → MM (d + 100) jX8_signal [.ref 0, .int (nI p), .int w] k (oh_r1 K) := fun K q => mX8_signal (sX8_isManT b2.1.1 hn6 hp (br_f (by decide) (sX8_of (w := 3) hp6 (by omega) q)))
    by_cases c2 : w &&& (nI (sE (bS B) p) ^^^ (-1 : Int32)) = 0
    · obtain ⟨s, hs, rfl⟩ := sub64 hE c2
      refine br_t c2 (oh_bn (fun op => sX7_knowBySignal b1.1 hs (pre _ ?_)) (fun z => sX7_failed 3 (by decide) (by omega) (by omega) (pre _ ?_)))
      · rw [ek]
        refine oh_nf c2 (sX8_whyY k3 (fun _ => br_t rfl (sX8_whoKnowBy (mSc_0 b2.1 (b2.2.1 op) hok) hs (fun k' bk => ⟨rfl, R_bk H bk⟩))) (fun y => by rw [op] at y; cases y))
      · rw [ek]
        exact oh_nf c2 (sX8_whyY k3 (fun y => by rw [z] at y; cases y) (fun _ => br_f (by decide) (sX8_finds 3 (by omega) ⟨by decide, R_fail H (by omega)⟩)))
    · refine br_f c2 (sX7_failed 1 (by decide) (by omega) (by omega) (pre _ ?_))
      rw [ek]
      exact oh_nt c2 (sX8_whyN (br_f (by decide) (sX8_finds 1 (by omega) ⟨by decide, R_fail H (by omega)⟩)))
  · exact mX7_signal (sX7_isManF b1.1.1 hn6 c (br_t rfl (sX7_failed 1 (by decide) (by omega) (by omega) (mX8_signal (sX8_isManF b2.1.1 hn6 c (br_t rfl (sX8_whyN (br_f (by decide) (sX8_finds 1 (by omega) ⟨by decide, R_fail H (by omega)⟩)))))))))
/-- most who know, and by which set, of the first -/
def bsF (S : oS) (E : Nat) : Nat → Int32 × Int32
  | 0 => (-1, 0)
  | w + 1 => if nI w &&& (nI E ^^^ (-1 : Int32)) = 0 then (if nI (kc S w) ≤ (bsF S E w).1 then bsF S E w else (nI (kc S w), nI w)) else bsF S E w
theorem p_bestSignal {h k : oh_St} {v w : Int32} (H : R h k) : Both jX7_bestSignal jX8_bestSignal [.int v, .int w] h k := by
  intro d
  obtain ⟨B, b1, b2, b3, r⟩ := id H
  have h27 : h.1 2 7 = oh_b (bO B) := b1.2.1
  have k3 := b2.2.2.1
  have hok := b1.1.2.2.2.2.2.2
  have hn6 := hok.1
  have h64 := sPow hok
  by_cases c : oIn (sN (bS B)) v
  · obtain ⟨p, hp, rfl⟩ := c
    have hp6 : p < 6 := by omega
    have e5 : h.1 5 p = nI (sE (bS B) p) := (b1.1.2.1 p hp6).2.2
    by_cases c2 : oIn 2 w
    · obtain ⟨a, ha, rfl⟩ := c2
      have pre : ∀ (K : Int32 → oh_St → Prop), _ → MM (d + 100) jX8_bestSignal [.ref 0, .int (nI p), .int (nI a)] k (oh_r1 K) := fun K q => mX8_bestSignal (sX8_isManT b2.1.1 hn6 hp (br_f (by decide) (sX8_inT 0 1 (by decide) (by decide) (nI_pos (by omega)) (nI_nlt (a := 1) (by omega) (by omega)) (br_f (by decide) q))))
      refine mX7_bestSignal (sX7_isManT b1.1.1 hn6 hp (br_f (by decide) (br_f (nI_pos (by omega)) (br_t (nI_le (b := 1) (by omega) (by omega)) ?_))))
      rw [h27]
      refine oh_bn (fun op => ?_) (fun z => sX7_failed 3 (by decide) (by omega) (by omega) (pre _ (sX8_whyY k3 (fun y => by rw [z] at y; cases y) (fun _ => br_f (by decide) (sX8_finds 3 (by omega) ⟨by decide, R_fail H (by omega)⟩)))))
      -- the class
      have cls : ∀ (K : Int32 → oh_St → Prop), K (if a = 0 then (bsF (bS B) (sE (bS B) p) (2 ^ sN (bS B))).2 else (bsF (bS B) (sE (bS B) p) (2 ^ sN (bS B))).1) h → wX7_bestSignal_52 (d + 99) (oh_r1 K) (nI p) (nI a) (-1) 0 0 h := by
        intro K q
        have key : ∀ w, w ≤ 2 ^ sN (bS B) → wX7_bestSignal_52 (d + 99) (oh_r1 K) (nI p) (nI a) (bsF (bS B) (sE (bS B) p) w).1 (bsF (bS B) (sE (bS B) p) w).2 (nI w) h := by
          refine oh_up (fun w hw ih => ?_) ?_
          · refine bX7_bestSignal_52 (sX4_worldCount (Or.inl rfl) b1.1 (br_f (nI_ge hw (by omega)) ⟨oh_in hp6 (by omega), ?_⟩))
            rw [oh_cl (by omega), e5, nI_1]
            rw [bsF] at ih
            refine oh_nc (fun y => ?_) (fun y => sX7_knowBySignal b1.1 (by omega) ⟨fun y2 => ?_, fun y2 => ?_⟩)
            · rw [if_neg y] at ih
              exact ih
            · rw [if_pos y, if_pos y2] at ih
              exact ih
            · rw [if_pos y, if_neg y2] at ih
              exact ih
          · refine bX7_bestSignal_52 (sX4_worldCount (Or.inl rfl) b1.1 (br_t (nI_le (Nat.le_refl _) (by omega)) ?_))
            have : a = 0 ∨ a = 1 := by omega
            rcases this with rfl | rfl
            · exact oh_nf rfl q
            · exact oh_nt (by decide) q
        exact key 0 (Nat.zero_le _)
      have mdl : ∀ (K : Int32 → oh_St → Prop), (∀ k', back k k' → K (if a = 0 then (bsF (bS B) (sE (bS B) p) (2 ^ sN (bS B))).2 else (bsF (bS B) (sE (bS B) p) (2 ^ sN (bS B))).1) k') → wX8_bestSignal_47 (d + 99) (oh_r1 K) (nI p) (nI a) 0 (-1) 0 k := by
        intro K q
        have key : ∀ w, w ≤ 2 ^ sN (bS B) → ∀ k', back k k' → wX8_bestSignal_47 (d + 99) (oh_r1 K) (nI p) (nI a) (bsF (bS B) (sE (bS B) p) w).2 (bsF (bS B) (sE (bS B) p) w).1 (nI w) k' := by
          refine oh_up (fun w hw ih => ?_) ?_
          · intro k' bk
            have m1 := mB_bk b1 b2 bk
            have ek : k'.1 1 (8 + 5 * p + 3) = nI (sE (bS B) p) := (m1.1.2.1 p hp6).2.2.2
            refine bX8_bestSignal_47 (sX8_allMen m1.1.1 hn6 (br_f (nI_nlt (by omega) (by omega)) (sX8_of (w := 3) hp6 (by omega) ?_)))
            rw [ek, nI_1]
            rw [bsF] at ih
            refine oh_nc (fun y => ?_) (fun y => sX8_whoKnowBy (mSc_0 m1.1 (m1.2.1 op) hok) (by omega) (fun k2 bk2 => ?_))
            · rw [if_neg y] at ih
              exact ih k' bk
            · rw [if_pos y] at ih
              have I := ih k2 (back_tr bk bk2)
              by_cases y2 : nI (kc (bS B) w) ≤ (bsF (bS B) (sE (bS B) p) w).1
              · rw [if_pos y2] at I
                exact br_t y2 (br_t y2 I)
              · rw [if_neg y2] at I
                exact br_f y2 (br_f y2 I)
          · intro k' bk
            have m1 := mB_bk b1 b2 bk
            have p2 := Nat.two_pow_pos (sN (bS B))
            have Q := q k' bk
            refine bX8_bestSignal_47 (sX8_allMen m1.1.1 hn6 (br_t (nI_lt (by omega) (by omega)) ?_))
            have : a = 0 ∨ a = 1 := by omega
            rcases this with rfl | rfl
            · exact oh_nf rfl Q
            · exact oh_nt (by decide) Q
        exact key 0 (Nat.zero_le _) k (back_rf k)
      exact cls _ (pre _ (sX8_whyY k3 (fun _ => br_t rfl (mdl _ (fun k' bk => ⟨rfl, R_bk H bk⟩))) (fun y => by rw [op] at y; cases y)))
    · have c3 := oIn_out (n := 1) (by omega) c2
      have M : MM (d + 100) jX8_bestSignal [.ref 0, .int (nI p), .int w] k (oh_r1 (fun y k' => (-1000000001 : Int32) = y ∧ R (oh_upi h 59 1 (h.1 59 1 + 1)) k')) := mX8_bestSignal (sX8_isManT b2.1.1 hn6 hp (br_f (by decide) (sX8_inF 0 1 (by decide) (by decide) c3 (br_t rfl (sX8_whyN (br_f (by decide) (sX8_finds 1 (by omega) ⟨by decide, R_fail H (by omega)⟩)))))))
      refine mX7_bestSignal (sX7_isManT b1.1.1 hn6 hp (br_f (by decide) ⟨fun _ => sX7_failed 1 (by decide) (by omega) (by omega) M, fun y => ⟨fun y2 => ?_, fun _ => sX7_failed 1 (by decide) (by omega) (by omega) M⟩⟩))
      exact absurd ((oIn_le (n := 1) (by omega)).mp ⟨y, Int32.not_lt.mpr y2⟩) c2
  · exact mX7_bestSignal (sX7_isManF b1.1.1 hn6 c (br_t rfl (sX7_failed 1 (by decide) (by omega) (by omega) (mX8_bestSignal (sX8_isManF b2.1.1 hn6 c (br_t rfl (sX8_whyN (br_f (by decide) (sX8_finds 1 (by omega) ⟨by decide, R_fail H (by omega)⟩)))))))))

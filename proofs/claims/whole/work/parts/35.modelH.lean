/-! THE MODEL: a bell, whole -/
def nz (z : Int32) : Int32 := z * 1103515245 + 12345
def dr (z : Int32) : Int32 := (z.toUInt32 >>> ((8 : Int32).toUInt32 &&& Int32.toUInt32 31)).toInt32
/-- draws of those who speak: what is drawn last, who says black now -/
def lsZ (who : Nat) (z : Int32) (b : Nat) : Nat → Int32 × Nat
  | 0 => (z, b)
  | i + 1 => if who.testBit i then (nz (lsZ who z b i).1, if dr (nz (lsZ who z b i).1) - dr (nz (lsZ who z b i).1) / 8 * 8 = 0 then (lsZ who z b i).2 ^^^ 2 ^ i else (lsZ who z b i).2) else lsZ who z b i
theorem lsZ_sub {who b : Nat} {z : Int32} (h : ∀ p, b.testBit p = true → who.testBit p = true) : ∀ i p, (lsZ who z b i).2.testBit p = true → who.testBit p = true
  | 0, p => h p
  | i + 1, p => by
    unfold lsZ
    by_cases c : who.testBit i = true
    · rw [if_pos c]
      dsimp only
      split
      · intro hp
        rw [Nat.testBit_xor, Nat.testBit_two_pow] at hp
        by_cases hpi : i = p
        · subst hpi; exact c
        · simp only [hpi, decide_false, Bool.xor_false] at hp
          exact lsZ_sub h i p hp
      · exact lsZ_sub h i p
    · rw [if_neg c]
      exact lsZ_sub h i p
theorem ob_sub_lt {a b n : Nat} (h : ∀ p, a.testBit p = true → b.testBit p = true) (hb : b < 2 ^ n) : a < 2 ^ n := ob_lt (fun j hj => by
  cases e : a.testBit j
  · rfl
  · have := h j e
    rw [ob_hi hb hj] at this
    cases this)
theorem sX8_ringB {d : Nat} {K : oh_St → Prop} {k : oh_St} {S : oS} {t : List Nat} {who blk : Nat} {fi : Int32} {pd : Nat → Int32} (hk : mSc k S) (hth : mTh k S) (ht : txIs k 1 1 t) (hf : k.1 1 4 = fi) (hpd : ∀ i, i < 6 → k.1 1 (8 + 5 * i + 4) = pd i) (hw : who < 2 ^ sN S) (hs : ∀ p, blk.testBit p = true → who.testBit p = true) (hq : ∀ p, who.testBit p = true → (sQ S).testBit p = false) (hbe : sB S + 1 < 1000)
    (q : ∀ k', rF k k' → mSc k' (sHear S who blk) → k'.1 1 5 = k.1 1 5 → (∀ i, i < 6 → k'.1 1 (8 + 5 * i + 4) = pdF S fi (cOf 1 t) who blk pd i) → K k') : wX8_rings_82 (d + 47) (oh_r0 K) (nI who) (nI blk) (0 : Int64) (0 : Int32) k := by
  have hok := hk.2.2.2.2.2
  have hn := hok.1
  have h64 := sPow hok
  have hb : blk < 2 ^ sN S := ob_sub_lt hs hw
  have hok' := sHear_ok hok (blk := blk) hw hbe
  have key : ∀ w, w ≤ 2 ^ sN S → wX8_rings_82 (d + 47) (oh_r0 K) (nI who) (nI blk) (lN (mL S who blk w)) (nI w) k := by
    refine oh_up (fun w hw2 ih => ?_) ?_
    · refine bX8_rings_82 ⟨om_in (n := 0) (by omega), ?_⟩
      rw [om_0, hk.1, ob_pow (by omega)]
      refine br_f (nI_ge hw2 (by omega)) (sX8_isPossible hk.2.2.1 (sP_lt hok) (by omega) ?_)
      rw [nI_1]
      have w1 : sWho S w < 2 ^ sN S := ob_m_lt _ _
      have w2 : sBlk S w who < 2 ^ sN S := ob_m_lt _ _
      rw [mL, ob_m] at ih
      refine oh_bz (fun c => ?_) (fun c => sX8_speakers hk hth (by omega) (oh_nc (fun c2 => ?_) (fun c2 => sX8_sayings hk hth (by omega) (by omega) (oh_nc (fun c3 => ?_) (fun c3 => ?_)))))
      · rw [c, if_neg (by simp)] at ih
        exact ih
      · have c2 : ¬ sWho S w = who := fun e => c2 (by rw [e])
        rw [c, if_neg (by simp [c2])] at ih
        exact ih
      · have c3 : ¬ sBlk S w who = blk := fun e => c3 (by rw [e])
        rw [c, if_neg (by simp [c3])] at ih
        exact ih
      · have c2 := (nI_eq (by omega) (by omega)).mp c2
        have c3 := (nI_eq (by omega) (by omega)).mp c3
        rw [c, if_pos (by simp [c2, c3])] at ih
        rw [ob_lpow (by omega), ob_lor]
        exact ih
    · refine bX8_rings_82 ⟨om_in (n := 0) (by omega), ?_⟩
      rw [om_0, hk.1, ob_pow (by omega), mL_end hok hw hb hs hq]
      refine br_t (nI_le (Nat.le_refl _) (by omega)) ?_
      have e0 : (lg_cmp (lN (sLf S who blk (sN S))) 0 = 0) ↔ sLf S who blk (sN S) = 0 := by
        rw [oh_cmp0, show (0 : Int64) = lN 0 from rfl, ob_linj (show sLf S who blk (sN S) < 2 ^ 64 from ob_m_lt _ _) (by omega)]
      have fin : ∀ P, P = (if sLf S who blk (sN S) = 0 then sP S else sLf S who blk (sN S)) → wX8_rings_164 (d + 47) (oh_r0 K) (nI who) (nI blk) (0 : Int32) (oh_upl k 0 3 (lN P)) := by
        intro P hP
        have hPs : sOk (sWith S P) := ⟨hok.1, hok.2.1, hok.2.2.1, by
          show P < 2 ^ 2 ^ sN S
          rw [hP]
          exact hok'.2.2.2.1, hok.2.2.2.2⟩
        obtain ⟨h1, h2, h3, h4, h5, h6⟩ := id hk
        refine sX8_ringC (S := S) (P := P) ⟨h1, h2, by rw [oh_g4, if_pos ⟨rfl, rfl⟩]; rfl, h4, h5, hPs⟩ ⟨ht.1, ht.2.1, ht.2.2⟩ hf hpd (by omega) (by omega) (fun k' r m e3 e2 e5 eP ep => q k' ?_ ?_ e5 ep)
        · have r0 : rF k (oh_upl k 0 3 (lN P)) := ⟨fun a b _ _ _ _ _ _ _ => rfl, fun b _ _ _ _ => rfl, fun a b x => by rw [oh_g4, if_neg x]⟩
          exact rF_tr r0 r
        · obtain ⟨m1, m2, m3, m4, m5, m6⟩ := m
          refine ⟨?_, fun p hp => ?_, ?_, e3, e2, hok'⟩
          · rw [oh_g1, if_neg (by omega), oh_g1, if_neg (by omega)] at m1
            exact m1
          · have := m2 p hp
            simp only [oh_g1] at this
            rw [if_neg (by omega), if_neg (by omega), if_neg (by omega), if_neg (by omega), if_neg (by omega), if_neg (by omega), if_neg (by omega), if_neg (by omega)] at this
            exact this
          · rw [eP, hP]
            rfl
      refine oh_nc (fun z => fin _ (by rw [if_neg (mt e0.mpr z)])) (fun z => ?_)
      rw [hk.2.2.1]
      exact fin _ (by rw [if_pos (e0.mp z)])
  exact key 0 (Nat.zero_le _)
theorem sWho_q {S : oS} {x p : Nat} (h : (sWho S x).testBit p = true) : (sQ S).testBit p = false := by
  rw [sWho, ob_m_bit] at h
  simp only [Bool.and_eq_true] at h
  cases e : (sQ S).testBit p
  · rfl
  · rw [sSp_q e] at h; exact absurd h.2 (by decide)
theorem sBlk_sub {S : oS} {x who p : Nat} (h : (sBlk S x who).testBit p = true) : who.testBit p = true := by
  rw [sBlk, ob_m_bit] at h
  simp only [Bool.and_eq_true] at h
  exact h.2.1
/-- how a bell of the model's draws -/
def lZ (l : Bool) (S : oS) (z : Int32) : Int32 × Nat := if l then lsZ (sWho S (sW S)) z (sBlk S (sW S) (sWho S (sW S))) (sN S) else (z, sBlk S (sW S) (sWho S (sW S)))
theorem lZ_sub (l : Bool) (S : oS) (z : Int32) (p : Nat) (h : (lZ l S z).2.testBit p = true) : (sWho S (sW S)).testBit p = true := by
  unfold lZ at h
  cases l
  · exact sBlk_sub h
  · exact lsZ_sub (fun p => sBlk_sub) _ p h
theorem sX8_drawn {d : Nat} {K : Int32 → oh_St → Prop} {k : oh_St} {z : Int32} (hz : k.1 1 5 = z) (q : K (dr (nz z)) (oh_upi k 1 5 (nz z))) : MM (d + 1) jX8_drawn [.ref 0] k (oh_r1 K) := by
  refine mX8_drawn ⟨om_in (n := 5) (by omega), om_in (n := 5) (by omega), om_in (n := 5) (by omega), ?_⟩
  rw [om_5, hz, oh_g1, if_pos ⟨rfl, rfl⟩]
  exact q
theorem sX8_rings {d : Nat} {K : oh_St → Prop} {k : oh_St} {S : oS} {t : List Nat} {fi z : Int32} {pd : Nat → Int32} {l : Bool} (hk : mSc k S) (ht : txIs k 1 1 t) (hf : k.1 1 4 = fi) (hz : k.1 1 5 = z) (hpd : ∀ i, i < 6 → k.1 1 (8 + 5 * i + 4) = pd i) (hbe : sB S + 1 < 1000)
    (q : ∀ k', rF k k' → mSc k' (sHear S (sWho S (sW S)) (lZ l S z).2) → k'.1 1 5 = (lZ l S z).1 → (∀ i, i < 6 → k'.1 1 (8 + 5 * i + 4) = pdF S fi (cOf 1 t) (sWho S (sW S)) (lZ l S z).2 pd i) → K k') : MM (d + 48) jX8_rings [.ref 0, .int (oh_b l)] k (oh_r0 K) := by
  have hok := hk.2.2.2.2.2
  have hn := hok.1
  have h64 := sPow hok
  have hx := sW_lt hok
  have w1 : sWho S (sW S) < 2 ^ sN S := ob_m_lt _ _
  have wq : ∀ p, (sWho S (sW S)).testBit p = true → (sQ S).testBit p = false := fun p => sWho_q
  refine mX8_rings (sX8_think hk (fun k1 s1 th1 => ?_))
  have hk1 := mSc_same hk s1 (by simp)
  have c1 : ∀ b, k1.1 1 b = k.1 1 b := fun b => s1.1 1 b (by simp)
  have ht1 : txIs k1 1 1 t := ⟨(c1 _).trans ht.1, fun i hi => (c1 _).trans (ht.2.1 i hi), ht.2.2⟩
  refine sX8_hats hk1 (sX8_speakers hk1 th1 hx (sX8_sayings hk1 th1 hx (by omega) ?_))
  generalize hW : sWho S (sW S) = who at *
  have lsub : ∀ p, (lZ l S z).2.testBit p = true → who.testBit p = true := fun p h => by rw [← hW]; exact lZ_sub l S z p h
  -- behind the draws
  have fin : ∀ k2, oSame k1 k2 [1] → (∀ b, b ≠ 5 → k2.1 1 b = k1.1 1 b) → k2.1 1 5 = (lZ l S z).1 → wX8_rings_82 (d + 47) (oh_r0 K) (nI who) (nI (lZ l S z).2) (0 : Int64) (0 : Int32) k2 := by
    intro k2 s2 e2 e5
    have m2 : mSc k2 S := by
      obtain ⟨h1, h2, h3, h4, h5, h6⟩ := hk1
      refine ⟨(e2 0 (by omega)).trans h1, fun p hp => ?_, by rw [s2.2]; exact h3, (e2 3 (by omega)).trans h4, (e2 2 (by omega)).trans h5, h6⟩
      rw [e2 _ (by omega), e2 _ (by omega), e2 _ (by omega), e2 _ (by omega)]
      exact h2 p hp
    have t2 : mTh k2 S := fun p hp => by
      have := th1 p hp
      unfold thP at this ⊢
      rw [s2.1 8 p (by simp), s2.1 9 p (by simp)]
      refine ⟨fun x hx => ?_, this.2⟩
      rw [s2.1 6 _ (by simp), s2.1 7 _ (by simp)]
      exact this.1 x hx
    have x2 : txIs k2 1 1 t := ⟨(e2 _ (by omega)).trans ht1.1, fun i hi => (e2 _ (by omega)).trans (ht1.2.1 i hi), ht1.2.2⟩
    refine sX8_ringB m2 t2 x2 ((e2 4 (by omega)).trans ((c1 4).trans hf)) (fun i hi => (e2 _ (by omega)).trans ((c1 _).trans (hpd i hi))) w1 lsub wq hbe (fun k' r m e ep => q k' (rF_tr (rF_th s1) (rF_tr ⟨fun a b x _ _ _ _ _ _ => s2.1 a b (by simp [x]), fun b _ _ x _ => e2 b x, fun a b _ => by rw [s2.2]⟩ r)) m (e.trans e5) ep)
  cases l
  · -- no draws
    have hl : lZ false S z = (z, sBlk S (sW S) (sWho S (sW S))) := rfl
    rw [hW] at hl
    have := fin k1 (oSame_rf _ _) (fun _ _ => rfl) (by rw [hl]; exact (c1 5).trans hz)
    rw [hl] at this
    refine bX8_rings_26 ⟨om_in (n := 0) (by omega), ⟨fun _ => this, fun _ => br_t rfl this⟩⟩
  · have hl : lZ true S z = lsZ who z (sBlk S (sW S) who) (sN S) := by
      show lsZ (sWho S (sW S)) z (sBlk S (sW S) (sWho S (sW S))) (sN S) = _
      rw [hW]
    rw [hl] at fin
    have key : ∀ i, i ≤ sN S → ∀ k2, oSame k1 k2 [1] → (∀ b, b ≠ 5 → k2.1 1 b = k1.1 1 b) → k2.1 1 5 = (lsZ who z (sBlk S (sW S) who) i).1 → wX8_rings_26 (d + 47) (oh_r0 K) (1 : Int32) (nI who) (nI (lsZ who z (sBlk S (sW S) who) i).2) (nI i) k2 := by
      refine oh_up (fun i hi ih => ?_) ?_
      · intro k2 s2 e2 e5
        refine bX8_rings_26 ⟨om_in (n := 0) (by omega), ?_⟩
        rw [om_0, e2 0 (by omega), hk1.1, nI_1]
        refine br_f (nI_ge hi (by omega)) (br_f (by decide) ?_)
        rw [ob_bit (by omega) (by omega)]
        rw [lsZ] at ih
        refine oh_bo (fun c => ?_) (fun c => sX8_drawn e5 ⟨by decide, ?_⟩)
        · rw [if_neg (by rw [c]; decide)] at ih
          exact ih k2 s2 e2 e5
        · rw [if_pos c] at ih
          have up : ∀ v, oSame k1 (oh_upi k2 1 5 v) [1] := fun v => oSame_up s2 (by simp)
          have up2 : ∀ v b, b ≠ 5 → (oh_upi k2 1 5 v).1 1 b = k1.1 1 b := fun v b hb => by rw [oh_g1, if_neg (fun z => hb z.2)]; exact e2 b hb
          have up3 : ∀ v, (oh_upi k2 1 5 v).1 1 5 = v := fun v => by rw [oh_g1, if_pos ⟨rfl, rfl⟩]
          have I := ih _ (up _) (up2 _) (up3 _)
          refine oh_nc (fun y => ?_) (fun y => ?_)
          · rw [if_neg y] at I
            exact I
          · rw [if_pos y] at I
            rw [ob_pow (by omega), ob_xor]
            exact I
      · intro k2 s2 e2 e5
        refine bX8_rings_26 ⟨om_in (n := 0) (by omega), ?_⟩
        rw [om_0, e2 0 (by omega), hk1.1]
        exact br_t (nI_le (Nat.le_refl _) (by omega)) (fin k2 s2 e2 e5)
    exact key 0 (Nat.zero_le _) k1 (oSame_rf _ _) (fun _ _ => rfl) ((c1 5).trans hz)

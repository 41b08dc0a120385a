/-! BOTH SIDES: tellMan, man -/
def setb (w p : Nat) (b : Bool) : Nat := ob_m (fun j => if j = p then b else w.testBit j) 6
theorem setb_i : ∀ w, w < 64 → ∀ p, p < 6 → ∀ b : Bool, (nI w &&& (((1 : Int32) <<< (nI p &&& 31)) ^^^ (-1 : Int32))) ||| (oh_b b <<< (nI p &&& 31)) = nI (setb w p b) := by decide +kernel
theorem setb_t {w p j : Nat} {b : Bool} (hj : j < 6) : (setb w p b).testBit j = if j = p then b else w.testBit j := by
  unfold setb
  rw [ob_m_bit]
  simp [hj]
theorem setb_lt {w p n : Nat} {b : Bool} (hw : w < 2 ^ n) (hp : p < n) : setb w p b < 2 ^ n := ob_lt (fun j hj => by
  unfold setb
  rw [ob_m_bit, if_neg (by omega), ob_hi hw hj]
  simp)
def sSetW (S : oS) (w : Nat) : oS := (sN S, sK S, sM S, sE S, w, sP S, sQ S, sB S)
def sSetE (S : oS) (p e : Nat) : oS := (sN S, sK S, sM S, fun i => if i = p then e else sE S i, sW S, sP S, sQ S, sB S)
theorem p_tellMan {h k : oh_St} {v1 v2 v3 : Int32} (H : R h k) : Both jX7_tellMan jX8_tellMan [.int v1, .int v2, .int v3] h k := by
  intro d
  obtain ⟨B, b1, b2, b3, r⟩ := id H
  obtain ⟨h1, h2, h3, h4, h5, h6, h7, h8, h9⟩ := id b1
  obtain ⟨k1, k2, k3, k4, k5, k6, k7, k8, k9, k10⟩ := id b2
  have hok := h1.2.2.2.2.2.2
  have hn := hok.1
  have hw := sW_lt hok
  have h64 := sPow hok
  have h27 : h.1 2 7 = oh_b (bO B) := h2
  have h25 : h.1 2 5 = nI (sW (bS B)) := h1.2.2.1
  have pw : 0 < 2 ^ sN (bS B) := Nat.two_pow_pos _
  let C : Int32 → oh_St → Prop := fun x h' => MM (d + 100) jX8_tellMan [.ref 0, .int v1, .int v2, .int v3] k (oh_r1 (fun y k' => x = y ∧ R h' k'))
  have tail0 : C (-1000000001) (oh_upi h 59 1 (h.1 59 1 + 1)) → ∀ X : oh_St → Prop, CM (d + 99) jX7_isMan [.ref 0, .int v1] h (oh_r1 (fun x2 h1 => ((x2 = 0 → CM (d + 99) jX7_failed [.ref 0, .int (-1000000001 : Int32)] h1 (oh_r1 (fun x4 h3 => oh_r1 C (some (.int x4)) h3))) ∧ (¬ x2 = 0 → ((¬ (0 : Int32) = 0 → X h1) ∧ ((0 : Int32) = 0 → CM (d + 99) jX7_failed [.ref 0, .int (-1000000001 : Int32)] h1 (oh_r1 (fun x10 h9 => oh_r1 C (some (.int x10)) h9)))))))) := by
    intro M X
    by_cases c : oIn (sN (bS B)) v1
    · obtain ⟨p, hp, rfl⟩ := c
      exact sX7_isManT h1.1 hn hp (br_f (by decide) (oh_nf rfl (sX7_failed 1 (by decide) (by omega) (by omega) M)))
    · exact sX7_isManF h1.1 hn c (br_t rfl (sX7_failed 1 (by decide) (by omega) (by omega) M))
  show CM (d + 100) jX7_tellMan _ h (oh_r1 C)
  have mf : ∀ {P : oh_St → Int32 → oh_St → Prop}, True := fun {_} => trivial
  by_cases c : oIn (sN (bS B)) v1
  · obtain ⟨p, hp, rfl⟩ := c
    have hp6 : p < 6 := by omega
    have fin : ∀ {j : Nat}, j = 1 → MM (d + 99) jX8_finds [.ref 0, .int (nI 1)] k (oh_r1 (fun x4 h3 => oh_r1 (fun y k' => (-1000000001 : Int32) = y ∧ R (oh_upi h 59 1 (h.1 59 1 + 1)) k') (some (.int x4)) h3)) := fun _ => sX8_finds 1 (by omega) ⟨by decide, R_fail H (by omega)⟩
    have fin3 : MM (d + 99) jX8_finds [.ref 0, .int (nI 3)] k (oh_r1 (fun x4 h3 => oh_r1 (fun y k' => (-1000000003 : Int32) = y ∧ R (oh_upi h 59 3 (h.1 59 3 + 1)) k') (some (.int x4)) h3)) := sX8_finds 3 (by omega) ⟨by decide, R_fail H (by omega)⟩
    by_cases w2 : v2 = 2
    · subst w2
      have e2 : ¬ (2 : Int32) < 2 ∧ ¬ (3 : Int32) < 2 := by decide
      by_cases g : v3 = 0 ∨ v3 = 1
      · obtain ⟨b, rfl⟩ : ∃ b, v3 = oh_b b := by
          rcases g with rfl | rfl
          · exact ⟨false, rfl⟩
          · exact ⟨true, rfl⟩
        have r01 : ¬ oh_b b < 0 ∧ ¬ (1 : Int32) < oh_b b := by cases b <;> decide
        -- the model
        have M : ∀ (x : Int32) (h' : oh_St), (bO B = true → x = -1000000003 ∧ h' = oh_upi h 59 3 (h.1 59 3 + 1)) → (bO B = false → x = oh_b ((sW (bS B)).testBit p) ∧ R h' (oh_upi k 1 (8 + 5 * p + 2) (oh_b b))) → C x h' := by
          intro x h' q1 q0
          refine mX8_tellMan (sX8_isManT k1.1 hn hp (br_f (by decide) (sX8_inT 2 3 (by decide) (by decide) e2.1 e2.2 (oh_nt (by decide) (oh_nf rfl (sX8_inT 0 1 (by decide) (by decide) r01.1 r01.2 (oh_nt (by decide) (sX8_isOpen k3 (oh_bz (fun z => ?_) (fun z => ?_))))))))))
          · obtain ⟨e, rr⟩ := q0 z
            refine sX8_of (w := 2) hp6 (by omega) (sX8_becomes (w := 2) hp6 (by omega) ⟨?_, rr⟩)
            rw [e, (k1.2.1 p hp6).2.2.1]
          · obtain ⟨rfl, rfl⟩ := q1 z
            exact fin3
        have T : CM (d + 99) jX7_isMan [.ref 0, .int (nI p)] h (oh_r1 (fun x78 h77 => ((x78 = 0 → CM (d + 99) jX7_failed [.ref 0, .int (-1000000001 : Int32)] h77 (oh_r1 (fun x80 h79 => oh_r1 C (some (.int x80)) h79))) ∧ (¬ x78 = 0 → ((¬ (1 : Int32) = 0 → (((h77.1 2 7) = 0 → ((¬ (2 : Int32) = (2 : Int32) → (vp_in (nI p) 6 ∧ (vp_in (nI p) 6 ∧ oh_r1 C (some (.int (h77.1 5 (nI p).toNatClampNeg))) (oh_upi h77 5 (nI p).toNatClampNeg (oh_b b))))) ∧ ((2 : Int32) = (2 : Int32) → CM (d + 99) jX7_bit [.int (h77.1 2 5), .int (nI p)] h77 (oh_r1 (fun x82 h81 => oh_r1 C (some (.int x82)) (oh_upi h81 2 5 (((h81.1 2 5) &&& (((1 : Int32) <<< (nI p &&& 31)) ^^^ (-1 : Int32))) ||| (oh_b b <<< (nI p &&& 31))))))))) ∧ (¬ (h77.1 2 7) = 0 → CM (d + 99) jX7_failed [.ref 0, .int (-1000000003 : Int32)] h77 (oh_r1 (fun x84 h83 => oh_r1 C (some (.int x84)) h83))))) ∧ ((1 : Int32) = 0 → CM (d + 99) jX7_failed [.ref 0, .int (-1000000001 : Int32)] h77 (oh_r1 (fun x86 h85 => oh_r1 C (some (.int x86)) h85)))))))) := by
          refine sX7_isManT h1.1 hn hp (br_f (by decide) (oh_nt (by decide) ?_))
          rw [h27]
          refine oh_bz (fun z => oh_nf rfl ?_) (fun z => sX7_failed 3 (by decide) (by omega) (by omega) (M _ _ (fun _ => ⟨rfl, rfl⟩) (fun y => by rw [z] at y; cases y)))
          rw [h25]
          refine sX7_bit (by omega) (by omega) ?_
          rw [h25, setb_i _ hw p hp6 b]
          refine M _ _ (fun y => by rw [z] at y; cases y) (fun _ => ⟨rfl, ?_⟩)
          refine R_sc b1 b2 b3 r (sSetW (bS B) (setb (sW (bS B)) p b)) (bO B) (bF B) (bD B) (bZ B) ⟨⟨?_, fun i hi => ⟨?_, ?_, ?_⟩, ?_, h1.2.2.2.1, ?_, ?_, ⟨hok.1, hok.2.1, setb_lt hok.2.2.1 hp, hok.2.2.2⟩⟩, ?_, ?_, fun i hi => ?_, ?_⟩ (fun a b x => ?_) ⟨⟨?_, fun i hi => ⟨?_, ?_, ?_, ?_⟩, ?_, ?_⟩, (fun y => by rw [z] at y; cases y), ?_, ?_, fun i hi => ?_, ?_⟩ (fun b x => ?_) ⟨b3.1, b3.2.2.1, b3.2.2.2⟩ (hF_up h 2 5 _ (by omega)) (kF_up k _ _)
          · rw [oh_g1, if_neg (by omega)]; exact h1.1
          · rw [oh_g1, if_neg (by omega)]; exact (h1.2.1 i hi).1
          · rw [oh_g1, if_neg (by omega)]; exact (h1.2.1 i hi).2.1
          · rw [oh_g1, if_neg (by omega)]; exact (h1.2.1 i hi).2.2
          · rw [oh_g1, if_pos ⟨rfl, rfl⟩]; rfl
          · rw [oh_g1, if_neg (by omega)]; exact h1.2.2.2.2.1
          · rw [oh_g1, if_neg (by omega)]; exact h1.2.2.2.2.2.1
          · rw [oh_g1, if_neg (by omega)]; exact h2
          · rw [oh_g1, if_neg (by omega)]; exact h3
          · rw [oh_g1, if_neg (by omega)]; exact h4 i hi
          · rw [oh_g1, if_neg (by omega)]; exact h9
          · rw [oh_g1, if_neg (by omega)]
          · rw [oh_g1, if_neg (by omega)]; exact k1.1
          · rw [oh_g1, if_neg (by omega)]; exact (k1.2.1 i hi).1
          · rw [oh_g1, if_neg (by omega)]; exact (k1.2.1 i hi).2.1
          · show _ = oh_b ((setb (sW (bS B)) p b).testBit i)
            rw [oh_g1, setb_t hi]
            by_cases y : i = p
            · rw [if_pos ⟨rfl, by omega⟩, if_pos y]
            · rw [if_neg (by omega), if_neg y]; exact (k1.2.1 i hi).2.2.1
          · rw [oh_g1, if_neg (by omega)]; exact (k1.2.1 i hi).2.2.2
          · rw [oh_g1, if_neg (by omega)]; exact k1.2.2.1
          · rw [oh_g1, if_neg (by omega)]; exact k1.2.2.2
          · rw [oh_g1, if_neg (by omega)]; exact k3
          · rw [oh_g1, if_neg (by omega)]; exact k4
          · rw [oh_g1, if_neg (by omega)]; exact k5 i hi
          · rw [oh_g1, if_neg (by omega)]; exact k10
          · rw [oh_g1, if_neg (by omega)]
        exact mX7_tellMan (oh_nf rfl ⟨fun _ => T, fun y0 => ⟨fun y1 => absurd g (by intro g; rcases g with g | g; exact y0 g; exact y1 g), fun _ => T⟩⟩)
      · have M : C (-1000000001) (oh_upi h 59 1 (h.1 59 1 + 1)) := by
          refine mX8_tellMan (sX8_isManT k1.1 hn hp (br_f (by decide) (sX8_inT 2 3 (by decide) (by decide) e2.1 e2.2 (oh_nt (by decide) (oh_nf rfl (sX8_inF 0 1 (by decide) (by decide) ?_ (oh_nf rfl (fin rfl))))))))
          have : ¬ oIn 2 v3 := by
            rintro ⟨j, hj, e⟩
            have : j = 0 ∨ j = 1 := by omega
            rcases this with rfl | rfl
            · exact g (Or.inl e)
            · exact g (Or.inr e)
          exact oIn_out (n := 1) (by omega) this
        exact mX7_tellMan (oh_nf rfl ⟨fun y => absurd (Or.inl y) g, fun _ => ⟨fun _ => tail0 M _, fun y => absurd (Or.inr y) g⟩⟩)
    · by_cases w3 : v2 = 3
      · subst w3
        have e3 : ¬ (3 : Int32) < 2 ∧ ¬ (3 : Int32) < 3 := by decide
        have W : ∀ {j : Nat}, 2 ^ sN (bS B) = j + 1 → oIn (2 ^ sN (bS B)) v3 → ¬ v3 < 0 ∧ ¬ nI j < v3 := fun {j} e o => (oIn_le (n := j) (by omega)).mpr (by rw [← e]; exact o)
        by_cases g : oIn (2 ^ sN (bS B)) v3
        · obtain ⟨a, ha, rfl⟩ := g
          have a1 : ¬ nI a < 0 := nI_pos (by omega)
          have a2 : ¬ nI (2 ^ sN (bS B) - 1) < nI a := nI_nlt (by omega) (by omega)
          by_cases gb : a.testBit p = true
          · have M : C (-1000000001) (oh_upi h 59 1 (h.1 59 1 + 1)) := by
              refine mX8_tellMan (sX8_isManT k1.1 hn hp (br_f (by decide) (sX8_inT 2 3 (by decide) (by decide) e3.1 e3.2 (oh_nt (by decide) (oh_nt (by decide) (sX8_allMen k1.1 hn (sX8_inT 0 (nI (2 ^ sN (bS B) - 1)) (by decide) rfl a1 a2 (br_f (by decide) ?_))))))))
              rw [ob_bit (by omega) (by omega), gb]
              exact oh_nt (by decide) (oh_nf rfl (fin rfl))
            refine mX7_tellMan (oh_nt (by decide) (oh_nf rfl (mX7_isWorld (br_f a1 (sX4_worldCount (Or.inl rfl) h1 (br_f (nI_ge ha (by omega)) ⟨oh_i1, br_f (by decide) (sX7_isManT h1.1 hn hp (br_f (by decide) (sX7_bit (by omega) (by omega) ?_)))⟩))))))
            rw [gb]
            exact oh_nt (by decide) (tail0 M _)
          · have gb : a.testBit p = false := by simpa using gb
            have M : ∀ (x : Int32) (h' : oh_St), (bO B = true → x = -1000000003 ∧ h' = oh_upi h 59 3 (h.1 59 3 + 1)) → (bO B = false → x = nI (sE (bS B) p) ∧ R h' (oh_upi k 1 (8 + 5 * p + 3) (nI a))) → C x h' := by
              intro x h' q1 q0
              refine mX8_tellMan (sX8_isManT k1.1 hn hp (br_f (by decide) (sX8_inT 2 3 (by decide) (by decide) e3.1 e3.2 (oh_nt (by decide) (oh_nt (by decide) (sX8_allMen k1.1 hn (sX8_inT 0 (nI (2 ^ sN (bS B) - 1)) (by decide) rfl a1 a2 (br_f (by decide) ?_))))))))
              rw [ob_bit (by omega) (by omega), gb]
              refine oh_nf rfl (oh_nt (by decide) (sX8_isOpen k3 (oh_bz (fun z => ?_) (fun z => ?_))))
              · obtain ⟨e, rr⟩ := q0 z
                refine sX8_of (w := 3) hp6 (by omega) (sX8_becomes (w := 3) hp6 (by omega) ⟨?_, rr⟩)
                rw [e, (k1.2.1 p hp6).2.2.2]
              · obtain ⟨rfl, rfl⟩ := q1 z
                exact fin3
            refine mX7_tellMan (oh_nt (by decide) (oh_nf rfl (mX7_isWorld (br_f a1 (sX4_worldCount (Or.inl rfl) h1 (br_f (nI_ge ha (by omega)) ⟨oh_i1, br_f (by decide) (sX7_isManT h1.1 hn hp (br_f (by decide) (sX7_bit (by omega) (by omega) ?_)))⟩))))))
            rw [gb]
            refine oh_nf rfl (sX7_isManT h1.1 hn hp (br_f (by decide) (oh_nt (by decide) ?_)))
            rw [h27]
            refine oh_bz (fun z => oh_nt (by decide) ⟨oh_in hp6 (by omega), oh_in hp6 (by omega), ?_⟩) (fun z => sX7_failed 3 (by decide) (by omega) (by omega) (M _ _ (fun _ => ⟨rfl, rfl⟩) (fun y => by rw [z] at y; cases y)))
            rw [oh_cl (by omega)]
            refine M _ _ (fun y => by rw [z] at y; cases y) (fun _ => ⟨(h1.2.1 p hp6).2.2, ?_⟩)
            refine R_sc b1 b2 b3 r (sSetE (bS B) p a) (bO B) (bF B) (bD B) (bZ B) ⟨⟨?_, fun i hi => ⟨?_, ?_, ?_⟩, ?_, h1.2.2.2.1, ?_, ?_, ⟨hok.1, fun i hi => ⟨(hok.2.1 i hi).1, (hok.2.1 i hi).2.1, ?_⟩, hok.2.2⟩⟩, ?_, ?_, fun i hi => ?_, ?_⟩ (fun a b x => ?_) ⟨⟨?_, fun i hi => ⟨?_, ?_, ?_, ?_⟩, ?_, ?_⟩, (fun y => by rw [z] at y; cases y), ?_, ?_, fun i hi => ?_, ?_⟩ (fun b x => ?_) ⟨b3.1, b3.2.2.1, b3.2.2.2⟩ (hF_up h 5 p _ (by omega)) (kF_up k _ _)
            · rw [oh_g1, if_neg (by omega)]; exact h1.1
            · rw [oh_g1, if_neg (by omega)]; exact (h1.2.1 i hi).1
            · rw [oh_g1, if_neg (by omega)]; exact (h1.2.1 i hi).2.1
            · show _ = nI (if i = p then a else sE (bS B) i)
              rw [oh_g1]
              by_cases y : i = p
              · rw [if_pos ⟨rfl, y⟩, if_pos y]
              · rw [if_neg (fun x => y x.2), if_neg y]; exact (h1.2.1 i hi).2.2
            · rw [oh_g1, if_neg (by omega)]; exact h1.2.2.1
            · rw [oh_g1, if_neg (by omega)]; exact h1.2.2.2.2.1
            · rw [oh_g1, if_neg (by omega)]; exact h1.2.2.2.2.2.1
            · show (if i = p then a else sE (bS B) i) < 64
              have := (hok.2.1 i hi).2.2
              split <;> omega
            · rw [oh_g1, if_neg (by omega)]; exact h2
            · rw [oh_g1, if_neg (by omega)]; exact h3
            · rw [oh_g1, if_neg (by omega)]; exact h4 i hi
            · rw [oh_g1, if_neg (by omega)]; exact h9
            · rw [oh_g1, if_neg (by omega)]
            · rw [oh_g1, if_neg (by omega)]; exact k1.1
            · rw [oh_g1, if_neg (by omega)]; exact (k1.2.1 i hi).1
            · rw [oh_g1, if_neg (by omega)]; exact (k1.2.1 i hi).2.1
            · rw [oh_g1, if_neg (by omega)]; exact (k1.2.1 i hi).2.2.1
            · show _ = nI (if i = p then a else sE (bS B) i)
              rw [oh_g1]
              by_cases y : i = p
              · rw [if_pos ⟨rfl, by omega⟩, if_pos y]
              · rw [if_neg (by omega), if_neg y]; exact (k1.2.1 i hi).2.2.2
            · rw [oh_g1, if_neg (by omega)]; exact k1.2.2.1
            · rw [oh_g1, if_neg (by omega)]; exact k1.2.2.2
            · rw [oh_g1, if_neg (by omega)]; exact k3
            · rw [oh_g1, if_neg (by omega)]; exact k4
            · rw [oh_g1, if_neg (by omega)]; exact k5 i hi
            · rw [oh_g1, if_neg (by omega)]; exact k10
            · rw [oh_g1, if_neg (by omega)]
        · have go : v3 < 0 ∨ nI (2 ^ sN (bS B) - 1) < v3 := oIn_out (by omega) (by rw [show 2 ^ sN (bS B) - 1 + 1 = 2 ^ sN (bS B) by omega]; exact g)
          have M : C (-1000000001) (oh_upi h 59 1 (h.1 59 1 + 1)) := mX8_tellMan (sX8_isManT k1.1 hn hp (br_f (by decide) (sX8_inT 2 3 (by decide) (by decide) e3.1 e3.2 (oh_nt (by decide) (oh_nt (by decide) (sX8_allMen k1.1 hn (sX8_inF 0 (nI (2 ^ sN (bS B) - 1)) (by decide) rfl go (br_t rfl (oh_nf rfl (fin rfl))))))))))
          refine mX7_tellMan (oh_nt (by decide) (oh_nf rfl (mX7_isWorld ⟨fun _ => ⟨oh_i0, br_t rfl (tail0 M _)⟩, fun y => sX4_worldCount (Or.inl rfl) h1 ⟨fun _ => ⟨oh_i0, br_t rfl (tail0 M _)⟩, fun y2 => absurd (oIn_of (by omega) y y2) g⟩⟩)))
      · have M : C (-1000000001) (oh_upi h 59 1 (h.1 59 1 + 1)) := by
          refine mX8_tellMan (sX8_isManT k1.1 hn hp (br_f (by decide) (sX8_inF 2 3 (by decide) (by decide) ?_ (oh_nf rfl (fin rfl)))))
          by_cases y : v2 < 2
          · exact Or.inl y
          · refine Or.inr ?_
            have y0 : ¬ v2 < 0 := fun z => y (Int32.lt_trans z (by decide))
            obtain ⟨j, hj, rfl⟩ := nI_of y0
            have j2 : ¬ j < 2 := fun z => y (nI_lt (b := 2) z (by omega))
            have n2 : j ≠ 2 := fun z => w2 (by rw [z]; rfl)
            have n3 : j ≠ 3 := fun z => w3 (by rw [z]; rfl)
            exact nI_lt (a := 3) (by omega) hj
        exact mX7_tellMan (oh_nt w2 (oh_nt w3 (tail0 M _)))
  · have M : C (-1000000001) (oh_upi h 59 1 (h.1 59 1 + 1)) := mX8_tellMan (sX8_isManF k1.1 hn c (br_t rfl (sX8_finds 1 (by omega) ⟨by decide, R_fail H (by omega)⟩)))
    have F : ∀ X : oh_St → Prop, CM (d + 99) jX7_isMan [.ref 0, .int v1] h (oh_r1 (fun x2 h1 => ((x2 = 0 → CM (d + 99) jX7_failed [.ref 0, .int (-1000000001 : Int32)] h1 (oh_r1 (fun x4 h3 => oh_r1 C (some (.int x4)) h3))) ∧ (¬ x2 = 0 → X h1)))) := fun X => sX7_isManF h1.1 hn c (br_t rfl (sX7_failed 1 (by decide) (by omega) (by omega) M))
    refine mX7_tellMan ⟨fun _ => ⟨fun _ => F _, fun _ => mX7_isWorld ⟨fun _ => ⟨oh_i0, br_t rfl (F _)⟩, fun y => sX4_worldCount (Or.inl rfl) h1 ⟨fun _ => ⟨oh_i0, br_t rfl (F _)⟩, fun y2 => ⟨oh_i1, br_f (by decide) (sX7_isManF h1.1 hn c (br_t rfl (F _)))⟩⟩⟩⟩, fun _ => ⟨fun _ => F _, fun _ => ⟨fun _ => F _, fun _ => F _⟩⟩⟩

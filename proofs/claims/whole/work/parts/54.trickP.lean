theorem p_trick {h k : oh_St} {v w : Int32} (H : R h k) : Both jX7_trick jX8_trick [.int v, .int w] h k := by
  intro d
  obtain ⟨B, b1, b2, b3, r⟩ := id H
  have h27 : h.1 2 7 = oh_b (bO B) := b1.2.1
  have k3 := b2.2.2.1
  have hok := b1.1.2.2.2.2.2.2
  by_cases c : oIn 31 v
  · obtain ⟨n, hn, rfl⟩ := c
    have n30 : n ≤ 30 := by omega
    by_cases c2 : oIn 2 w
    · obtain ⟨a, ha, rfl⟩ := c2
      have pre : ∀ (K : Int32 → oh_St → Prop), _ → MM (d + 100) jX8_trick [.ref 0, .int (nI n), .int (nI a)] k (oh_r1 K) := fun K q => mX8_trick (sX8_inT 0 30 (by decide) (by decide) (nI_pos (by omega)) (nI_nlt (a := 30) (by omega) (by omega)) (br_f (by decide) (sX8_inT 0 1 (by decide) (by decide) (nI_pos (by omega)) (nI_nlt (a := 1) (by omega) (by omega)) (br_f (by decide) q))))
      refine mX7_trick (aheadT n30 (br_f (by decide) (br_f (nI_pos (by omega)) (br_t (nI_le (b := 1) (by omega) (by omega)) ?_))))
      rw [h27]
      refine oh_bn (fun op => cTrick (d := d + 90) b1 r.1 b3 n30 ha (fun h' f => pre _ (sX8_whyY k3 (fun _ => br_t rfl (mTrick (d := d + 49) b1 b2 b3 op n30 ha (fun k' bk => ⟨?_, R_ah H f bk⟩))) (fun y => by rw [op] at y; cases y)))) (fun z => sX7_failed 3 (by decide) (by omega) (by omega) (pre _ (sX8_whyY k3 (fun y => by rw [z] at y; cases y) (fun _ => br_f (by decide) (sX8_finds 3 (by omega) ⟨by decide, R_fail H (by omega)⟩)))))
      obtain ⟨t, ht⟩ := tf_some (v := vQ (bF B) (cOf 1 (bX B 1)) (bS B, bD B, bZ B) n) (b3.2.2.2.2 op) hok.2.2.2.1
      rw [ht]
      rfl
    · have c3 := oIn_out (n := 1) (by omega) c2
      have M : MM (d + 100) jX8_trick [.ref 0, .int (nI n), .int w] k (oh_r1 (fun y k' => (-1000000001 : Int32) = y ∧ R (oh_upi h 59 1 (h.1 59 1 + 1)) k')) := mX8_trick (sX8_inT 0 30 (by decide) (by decide) (nI_pos (by omega)) (nI_nlt (a := 30) (by omega) (by omega)) (br_f (by decide) (sX8_inF 0 1 (by decide) (by decide) c3 (br_t rfl (sX8_whyN (br_f (by decide) (sX8_finds 1 (by omega) ⟨by decide, R_fail H (by omega)⟩)))))))
      refine mX7_trick (aheadT n30 (br_f (by decide) ⟨fun _ => sX7_failed 1 (by decide) (by omega) (by omega) M, fun y => ⟨fun y2 => ?_, fun _ => sX7_failed 1 (by decide) (by omega) (by omega) M⟩⟩))
      exact absurd ((oIn_le (n := 1) (by omega)).mp ⟨y, Int32.not_lt.mpr y2⟩) c2
  · have c3 := oIn_out (n := 30) (by omega) c
    exact mX7_trick (aheadF c (br_t rfl (sX7_failed 1 (by decide) (by omega) (by omega) (mX8_trick (sX8_inF 0 30 (by decide) (by decide) c3 (br_t rfl (sX8_whyN (br_f (by decide) (sX8_finds 1 (by omega) ⟨by decide, R_fail H (by omega)⟩)))))))))

theorem p_longest {h k : oh_St} (H : R h k) : Both jX7_longest jX8_longest [] h k := by
  intro d
  obtain ⟨B, b1, b2, b3, r⟩ := id H
  have h27 : h.1 2 7 = oh_b (bO B) := b1.2.1
  have k3 := b2.2.2.1
  obtain ⟨n, hn⟩ : ∃ n : Nat, n = 30 := ⟨30, rfl⟩
  refine mX7_longest ?_
  rw [h27]
  exact oh_bn (fun op => cLongest (d := d + 90) b1 r.1 b3 hn (fun h' f => mX8_longest (sX8_whyY k3 (fun _ => br_t rfl (mLongest (d := d + 49) b1 b2 b3 op hn (fun k' bk => ⟨rfl, R_ah H f bk⟩))) (fun y => by rw [op] at y; cases y)))) (fun z => sX7_failed 3 (by decide) (by omega) (by omega) (mX8_longest (sX8_whyY k3 (fun y => by rw [z] at y; cases y) (fun _ => br_f (by decide) (sX8_finds 3 (by omega) ⟨by decide, R_fail H (by omega)⟩)))))

/-! ALL METHODS: the tables' checks together -/
def oh_all2 : List oh_MI → List (Nat × oh_T) → Prop
  | q :: ms, x :: Ms => (x.1 = 0 ∨ (x.1 = q.2.2.1 ∧ oh_ckT oh_mi q.1.cls q.2.2.2.1 q.2.1 x.2 = true)) ∧ oh_all2 ms Ms
  | [], [] => True
  | _, _ => False
theorem oh_all2_app : ∀ {a : List oh_MI} {A : List (Nat × oh_T)} {b : List oh_MI} {B : List (Nat × oh_T)}, oh_all2 a A → oh_all2 b B → oh_all2 (a ++ b) (A ++ B)
  | [], [], _, _, _, h => h
  | _ :: _, _ :: _, _, _, h, h2 => ⟨h.1, oh_all2_app h.2 h2⟩
  | [], _ :: _, _, _, h, _ => h.elim
  | _ :: _, [], _, _, h, _ => h.elim
theorem oh_all2_at : ∀ {a : List oh_MI} {A : List (Nat × oh_T)}, oh_all2 a A → ∀ j q, oh_nth a j = some q → ∃ nL T, oh_nth A j = some (nL, T) ∧ (nL = 0 ∨ (nL = q.2.2.1 ∧ oh_ckT oh_mi q.1.cls q.2.2.2.1 q.2.1 T = true))
  | [], _, _, _, _, h => by cases h
  | q :: _, (nL, T) :: _, h, 0, q', e => by
    cases e
    exact ⟨nL, T, rfl, h.1⟩
  | _ :: _, _ :: _, h, j + 1, q', e => oh_all2_at h.2 j q' e
  | _ :: _, [], h, _, _, _ => h.elim
theorem oh_a2_0 : oh_all2 oh_mi_0 oh_M_0 := ⟨Or.inr ⟨rfl, kX0_take⟩, ⟨Or.inr ⟨rfl, kX0_drawn⟩, ⟨Or.inr ⟨rfl, kX0_ringLoosely⟩, ⟨Or.inr ⟨rfl, kX1_gives⟩, ⟨Or.inr ⟨rfl, kX1_workedOut⟩, ⟨Or.inr ⟨rfl, kX1_named⟩, ⟨Or.inr ⟨rfl, kX1_joined⟩, ⟨Or.inr ⟨rfl, kX2_faultOf⟩, ⟨Or.inr ⟨rfl, kX2_readLevel⟩, ⟨Or.inr ⟨rfl, kX2_readUnit⟩, ⟨Or.inr ⟨rfl, kX2_readNot⟩, ⟨Or.inr ⟨rfl, kX2_readInside⟩, ⟨Or.inr ⟨rfl, kX2_readNumber⟩, ⟨Or.inr ⟨rfl, kX2_next⟩, ⟨Or.inr ⟨rfl, kX2_isDigit⟩, ⟨Or.inr ⟨rfl, kX2_isSignOf⟩, ⟨Or.inr ⟨rfl, kX3_add⟩, ⟨Or.inr ⟨rfl, kX3_get⟩, ⟨Or.inr ⟨rfl, kX3_clear⟩, ⟨Or.inr ⟨rfl, kX3_take⟩, ⟨Or.inr ⟨rfl, kX4_take⟩, ⟨Or.inr ⟨rfl, kX4_worldCount⟩, ⟨Or.inr ⟨rfl, kX4_addMan⟩, ⟨Or.inr ⟨rfl, kX4_givenBy⟩, ⟨Or.inr ⟨rfl, kX4_thought⟩, trivial⟩⟩⟩⟩⟩⟩⟩⟩⟩⟩⟩⟩⟩⟩⟩⟩⟩⟩⟩⟩⟩⟩⟩⟩⟩
theorem oh_a2_1 : oh_all2 oh_mi_1 oh_M_1 := ⟨Or.inr ⟨rfl, kX4_hasSpoken⟩, ⟨Or.inr ⟨rfl, kX4_speaks⟩, ⟨Or.inr ⟨rfl, kX4_isSure⟩, ⟨Or.inr ⟨rfl, kX4_speakers⟩, ⟨Or.inr ⟨rfl, kX4_sayings⟩, ⟨Or.inr ⟨rfl, kX4_ring⟩, ⟨Or.inr ⟨rfl, kX4_hear⟩, ⟨Or.inr ⟨rfl, kX4_fitting⟩, ⟨Or.inr ⟨rfl, kX4_payAll⟩, ⟨Or.inr ⟨rfl, kX4_isPastAllNumbers⟩, ⟨Or.inr ⟨rfl, kX5_renew⟩, ⟨Or.inr ⟨rfl, kX5_write⟩, ⟨Or.inr ⟨rfl, kX5_hasRun⟩, ⟨Or.inr ⟨rfl, kX5_asWorlds⟩, ⟨Or.inr ⟨rfl, kX6_heard⟩, ⟨Or.inr ⟨rfl, kX6_own⟩, ⟨Or.inr ⟨rfl, kX6_from⟩, ⟨Or.inr ⟨rfl, kX6_workedOut⟩, ⟨Or.inr ⟨rfl, kX7_man⟩, ⟨Or.inr ⟨rfl, kX7_ofMan⟩, ⟨Or.inr ⟨rfl, kX7_tellMan⟩, ⟨Or.inr ⟨rfl, kX7_become⟩, ⟨Or.inr ⟨rfl, kX7_as⟩, ⟨Or.inr ⟨rfl, kX7_fine⟩, ⟨Or.inr ⟨rfl, kX7_feed⟩, trivial⟩⟩⟩⟩⟩⟩⟩⟩⟩⟩⟩⟩⟩⟩⟩⟩⟩⟩⟩⟩⟩⟩⟩⟩⟩
theorem oh_a2_2 : oh_all2 oh_mi_2 oh_M_2 := ⟨Or.inr ⟨rfl, kX7_text⟩, ⟨Or.inr ⟨rfl, kX7_law⟩, ⟨Or.inr ⟨rfl, kX7_open⟩, ⟨Or.inr ⟨rfl, kX7_close⟩, ⟨Or.inr ⟨rfl, kX7_bells⟩, ⟨Or.inr ⟨rfl, kX7_loose⟩, ⟨Or.inr ⟨rfl, kX7_possible⟩, ⟨Or.inr ⟨rfl, kX7_thinks⟩, ⟨Or.inr ⟨rfl, kX7_then⟩, ⟨Or.inr ⟨rfl, kX7_thenPaid⟩, ⟨Or.inr ⟨rfl, kX7_when⟩, ⟨Or.inr ⟨rfl, kX7_silence⟩, ⟨Or.inr ⟨rfl, kX7_trick⟩, ⟨Or.inr ⟨rfl, kX7_longest⟩, ⟨Or.inr ⟨rfl, kX7_signal⟩, ⟨Or.inr ⟨rfl, kX7_bestSignal⟩, ⟨Or.inr ⟨rfl, kX7_look⟩, ⟨Or.inr ⟨rfl, kX7_odds⟩, ⟨Or.inr ⟨rfl, kX7_seed⟩, ⟨Or.inr ⟨rfl, kX7_voice⟩, ⟨Or.inr ⟨rfl, kX7_trace⟩, ⟨Or.inr ⟨rfl, kX7_sheet⟩, ⟨Or.inr ⟨rfl, kX7_put⟩, ⟨Or.inr ⟨rfl, kX7_move⟩, ⟨Or.inr ⟨rfl, kX7_worlds⟩, trivial⟩⟩⟩⟩⟩⟩⟩⟩⟩⟩⟩⟩⟩⟩⟩⟩⟩⟩⟩⟩⟩⟩⟩⟩⟩
theorem oh_a2_3 : oh_all2 oh_mi_3 oh_M_3 := ⟨Or.inr ⟨rfl, kX7_image⟩, ⟨Or.inr ⟨rfl, kX7_restore⟩, ⟨Or.inr ⟨rfl, kX7_tell⟩, ⟨Or.inr ⟨rfl, kX7_check⟩, ⟨Or.inr ⟨rfl, kX7_count⟩, ⟨Or.inr ⟨rfl, kX7_told⟩, ⟨Or.inr ⟨rfl, kX7_failed⟩, ⟨Or.inr ⟨rfl, kX7_isMan⟩, ⟨Or.inr ⟨rfl, kX7_isWorld⟩, ⟨Or.inr ⟨rfl, kX7_isKindWithNumber⟩, ⟨Or.inr ⟨rfl, kX7_isUse⟩, ⟨Or.inr ⟨rfl, kX7_isAhead⟩, ⟨Or.inr ⟨rfl, kX7_isSheet⟩, ⟨Or.inr ⟨rfl, kX7_isOfKind⟩, ⟨Or.inr ⟨rfl, kX7_lawOf⟩, ⟨Or.inr ⟨rfl, kX7_whyNoBells⟩, ⟨Or.inr ⟨rfl, kX7_startAhead⟩, ⟨Or.inr ⟨rfl, kX7_ringAhead⟩, ⟨Or.inr ⟨rfl, kX7_bellsTillSpoken⟩, ⟨Or.inr ⟨rfl, kX7_ranAlike⟩, ⟨Or.inr ⟨rfl, kX7_knowBySignal⟩, ⟨Or.inr ⟨rfl, kX7_commonDivisor⟩, ⟨Or.inr ⟨rfl, kX7_bit⟩, ⟨Or.inr ⟨rfl, kX7_held⟩, ⟨Or.inr ⟨rfl, kX7_holds⟩, trivial⟩⟩⟩⟩⟩⟩⟩⟩⟩⟩⟩⟩⟩⟩⟩⟩⟩⟩⟩⟩⟩⟩⟩⟩⟩
theorem oh_a2_4 : oh_all2 oh_mi_4 oh_M_4 := ⟨Or.inr ⟨rfl, kX7_blacks⟩, ⟨Or.inr ⟨rfl, kX7_whites⟩, ⟨Or.inr ⟨rfl, kX7_knows⟩, ⟨Or.inr ⟨rfl, kX7_wouldSay⟩, ⟨Or.inr ⟨rfl, kX7_allWhite⟩, ⟨Or.inr ⟨rfl, kX8_finds⟩, ⟨Or.inr ⟨rfl, kX8_in⟩, ⟨Or.inr ⟨rfl, kX8_held⟩, ⟨Or.inr ⟨rfl, kX8_copies⟩, ⟨Or.inr ⟨rfl, kX8_isMan⟩, ⟨Or.inr ⟨rfl, kX8_of⟩, ⟨Or.inr ⟨rfl, kX8_becomes⟩, ⟨Or.inr ⟨rfl, kX8_allMen⟩, ⟨Or.inr ⟨rfl, kX8_isOpen⟩, ⟨Or.inr ⟨rfl, kX8_here⟩, ⟨Or.inr ⟨rfl, kX8_wrong⟩, ⟨Or.inr ⟨rfl, kX8_takes⟩, ⟨Or.inr ⟨rfl, kX8_nameOf⟩, ⟨Or.inr ⟨rfl, kX8_either⟩, ⟨Or.inr ⟨rfl, kX8_both⟩, ⟨Or.inr ⟨rfl, kX8_compared⟩, ⟨Or.inr ⟨rfl, kX8_sum⟩, ⟨Or.inr ⟨rfl, kX8_product⟩, ⟨Or.inr ⟨rfl, kX8_unit⟩, ⟨Or.inr ⟨rfl, kX8_worked⟩, trivial⟩⟩⟩⟩⟩⟩⟩⟩⟩⟩⟩⟩⟩⟩⟩⟩⟩⟩⟩⟩⟩⟩⟩⟩⟩
theorem oh_a2_5 : oh_all2 oh_mi_5 oh_M_5 := ⟨Or.inr ⟨rfl, kX8_feed⟩, ⟨Or.inr ⟨rfl, kX8_text⟩, ⟨Or.inr ⟨rfl, kX8_gives⟩, ⟨Or.inr ⟨rfl, kX8_law⟩, ⟨Or.inr ⟨rfl, kX8_man⟩, ⟨Or.inr ⟨rfl, kX8_ofMan⟩, ⟨Or.inr ⟨rfl, kX8_tellMan⟩, ⟨Or.inr ⟨rfl, kX8_become⟩, ⟨Or.inr ⟨rfl, kX8_above⟩, ⟨Or.inr ⟨rfl, kX8_as⟩, ⟨Or.inr ⟨rfl, kX8_fine⟩, ⟨Or.inr ⟨rfl, kX8_ones⟩, ⟨Or.inr ⟨rfl, kX8_manyOf⟩, ⟨Or.inr ⟨rfl, kX8_isPossible⟩, ⟨Or.inr ⟨rfl, kX8_hats⟩, ⟨Or.inr ⟨rfl, kX8_think⟩, ⟨Or.inr ⟨rfl, kX8_blackOf⟩, ⟨Or.inr ⟨rfl, kX8_whiteOf⟩, ⟨Or.inr ⟨rfl, kX8_knows⟩, ⟨Or.inr ⟨rfl, kX8_wouldSay⟩, ⟨Or.inr ⟨rfl, kX8_isHasty⟩, ⟨Or.inr ⟨rfl, kX8_speaks⟩, ⟨Or.inr ⟨rfl, kX8_speakers⟩, ⟨Or.inr ⟨rfl, kX8_sayings⟩, ⟨Or.inr ⟨rfl, kX8_open⟩, trivial⟩⟩⟩⟩⟩⟩⟩⟩⟩⟩⟩⟩⟩⟩⟩⟩⟩⟩⟩⟩⟩⟩⟩⟩⟩
theorem oh_a2_6 : oh_all2 oh_mi_6 oh_M_6 := ⟨Or.inr ⟨rfl, kX8_close⟩, ⟨Or.inr ⟨rfl, kX8_drawn⟩, ⟨Or.inr ⟨rfl, kX8_pays⟩, ⟨Or.inr ⟨rfl, kX8_rings⟩, ⟨Or.inr ⟨rfl, kX8_goesOn⟩, ⟨Or.inr ⟨rfl, kX8_rung⟩, ⟨Or.inr ⟨rfl, kX8_bells⟩, ⟨Or.inr ⟨rfl, kX8_loose⟩, ⟨Or.inr ⟨rfl, kX8_why⟩, ⟨Or.inr ⟨rfl, kX8_possible⟩, ⟨Or.inr ⟨rfl, kX8_thinks⟩, ⟨Or.inr ⟨rfl, kX8_begins⟩, ⟨Or.inr ⟨rfl, kX8_ends⟩, ⟨Or.inr ⟨rfl, kX8_then⟩, ⟨Or.inr ⟨rfl, kX8_thenPaid⟩, ⟨Or.inr ⟨rfl, kX8_soonest⟩, ⟨Or.inr ⟨rfl, kX8_when⟩, ⟨Or.inr ⟨rfl, kX8_othersBy⟩, ⟨Or.inr ⟨rfl, kX8_silence⟩, ⟨Or.inr ⟨rfl, kX8_hatsBecome⟩, ⟨Or.inr ⟨rfl, kX8_trick⟩, ⟨Or.inr ⟨rfl, kX8_longest⟩, ⟨Or.inr ⟨rfl, kX8_whoKnowBy⟩, ⟨Or.inr ⟨rfl, kX8_signal⟩, ⟨Or.inr ⟨rfl, kX8_bestSignal⟩, trivial⟩⟩⟩⟩⟩⟩⟩⟩⟩⟩⟩⟩⟩⟩⟩⟩⟩⟩⟩⟩⟩⟩⟩⟩⟩
theorem oh_a2_7 : oh_all2 oh_mi_7 oh_M_7 := ⟨Or.inr ⟨rfl, kX8_look⟩, ⟨Or.inr ⟨rfl, kX8_common⟩, ⟨Or.inr ⟨rfl, kX8_odds⟩, ⟨Or.inr ⟨rfl, kX8_seed⟩, ⟨Or.inr ⟨rfl, kX8_ran⟩, ⟨Or.inr ⟨rfl, kX8_own⟩, ⟨Or.inr ⟨rfl, kX8_looks⟩, ⟨Or.inr ⟨rfl, kX8_thoughts⟩, ⟨Or.inr ⟨rfl, kX8_says⟩, ⟨Or.inr ⟨rfl, kX8_tells⟩, ⟨Or.inr ⟨rfl, kX8_voice⟩, ⟨Or.inr ⟨rfl, kX8_trace⟩, ⟨Or.inr ⟨rfl, kX8_isSheet⟩, ⟨Or.inr ⟨rfl, kX8_sheet⟩, ⟨Or.inr ⟨rfl, kX8_put⟩, ⟨Or.inr ⟨rfl, kX8_move⟩, ⟨Or.inr ⟨rfl, kX8_worlds⟩, ⟨Or.inr ⟨rfl, kX8_image⟩, ⟨Or.inr ⟨rfl, kX8_restore⟩, ⟨Or.inr ⟨rfl, kX8_tell⟩, ⟨Or.inr ⟨rfl, kX8_check⟩, ⟨Or.inr ⟨rfl, kX8_count⟩, ⟨Or.inr ⟨rfl, kX8_told⟩, ⟨Or.inr ⟨rfl, kJ6_bitCount_0f7a4⟩, ⟨Or.inr ⟨rfl, kJ13_bitCount_95d88⟩, trivial⟩⟩⟩⟩⟩⟩⟩⟩⟩⟩⟩⟩⟩⟩⟩⟩⟩⟩⟩⟩⟩⟩⟩⟩⟩
theorem oh_a2_8 : oh_all2 oh_mi_8 oh_M_8 := ⟨Or.inr ⟨rfl, kJ9_max_7cf53⟩, ⟨Or.inr ⟨rfl, kJ9_min_7cf53⟩, ⟨Or.inl rfl, trivial⟩⟩⟩
theorem oh_a2 : oh_all2 oh_mi oh_M := oh_all2_app oh_a2_0 (oh_all2_app oh_a2_1 (oh_all2_app oh_a2_2 (oh_all2_app oh_a2_3 (oh_all2_app oh_a2_4 (oh_all2_app oh_a2_5 (oh_all2_app oh_a2_6 (oh_all2_app oh_a2_7 (oh_a2_8))))))))
theorem oh_mi_ok_0 : oh_mi_0.all oh_ckM = true := by decide +kernel
theorem oh_mi_ok_1 : oh_mi_1.all oh_ckM = true := by decide +kernel
theorem oh_mi_ok_2 : oh_mi_2.all oh_ckM = true := by decide +kernel
theorem oh_mi_ok_3 : oh_mi_3.all oh_ckM = true := by decide +kernel
theorem oh_mi_ok_4 : oh_mi_4.all oh_ckM = true := by decide +kernel
theorem oh_mi_ok_5 : oh_mi_5.all oh_ckM = true := by decide +kernel
theorem oh_mi_ok_6 : oh_mi_6.all oh_ckM = true := by decide +kernel
theorem oh_mi_ok_7 : oh_mi_7.all oh_ckM = true := by decide +kernel
theorem oh_mi_ok_8 : oh_mi_8.all oh_ckM = true := by decide +kernel
theorem oh_mi_ok : ∀ j q, oh_nth oh_mi j = some q → oh_ckM q = true := by
  intro j q h
  rw [oh_nth_eq] at h
  have hm := List.mem_of_getElem? h
  simp only [oh_mi, List.mem_append] at hm
  rcases hm with hm | hm | hm | hm | hm | hm | hm | hm | hm
  · exact List.all_eq_true.mp oh_mi_ok_0 q hm
  · exact List.all_eq_true.mp oh_mi_ok_1 q hm
  · exact List.all_eq_true.mp oh_mi_ok_2 q hm
  · exact List.all_eq_true.mp oh_mi_ok_3 q hm
  · exact List.all_eq_true.mp oh_mi_ok_4 q hm
  · exact List.all_eq_true.mp oh_mi_ok_5 q hm
  · exact List.all_eq_true.mp oh_mi_ok_6 q hm
  · exact List.all_eq_true.mp oh_mi_ok_7 q hm
  · exact List.all_eq_true.mp oh_mi_ok_8 q hm
theorem oh_M_ok : ∀ j q, oh_nth oh_mi j = some q → ∃ nL T, oh_nth oh_M j = some (nL, T) ∧ (nL = 0 ∨ (nL = q.2.2.1 ∧ oh_ckT oh_mi q.1.cls q.2.2.2.1 q.2.1 T = true)) := oh_all2_at oh_a2

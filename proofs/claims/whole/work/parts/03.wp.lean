/-- one instruction: what must hold of the next states (P': go on, P: stop at a cut) -/
def oh_nx (G : List oh_Sh) (T : oh_T) (E : oh_E) (Q : oh_Q) (P' P : oh_P) (pc : Nat) (code : oh_C) (l : oh_L) (st : List Value) (h : oh_St) : Prop := match code with
  | [] => oh_J T P' P pc l st h
  | (i, n, a, b, c, e, _) :: r => match i with
    | .iconst _ => P' (pc + n) r l (.int (oh_num a b) :: st) h
    | .bipush _ => P' (pc + n) r l (.int (oh_num a b) :: st) h
    | .sipush _ => P' (pc + n) r l (.int (oh_num a b) :: st) h
    | .lconst _ => P' (pc + n) r l (.long (oh_numL a b) :: st) h
    | .ldc _ => match b with
      | 0 => P' (pc + n) r l (.int (oh_num a e) :: st) h
      | _ => P' (pc + n) r l (.ref a :: st) h
    | .ldc_w _ => P' (pc + n) r l (.int (oh_num a b) :: st) h
    | .ldc2_w _ => P' (pc + n) r l (.long (oh_numL a b) :: st) h
    | .iload_n _ => oh_ldI l a (fun v => P' (pc + n) r l (v :: st) h)
    | .iload _ => oh_ldI l a (fun v => P' (pc + n) r l (v :: st) h)
    | .lload_n _ => oh_ldL l a (fun v => P' (pc + n) r l (v :: st) h)
    | .lload _ => oh_ldL l a (fun v => P' (pc + n) r l (v :: st) h)
    | .aload_n _ => oh_ldA l a (fun v => P' (pc + n) r l (v :: st) h)
    | .aload _ => oh_ldA l a (fun v => P' (pc + n) r l (v :: st) h)
    | .istore_n _ => oh_I1 st (fun x st => oh_wr1 l a (.int x) (fun l => P' (pc + n) r l st h))
    | .istore _ => oh_I1 st (fun x st => oh_wr1 l a (.int x) (fun l => P' (pc + n) r l st h))
    | .lstore_n _ => oh_L1 st (fun x st => oh_wr2 l a (.long x) (fun l => P' (pc + n) r l st h))
    | .lstore _ => oh_L1 st (fun x st => oh_wr2 l a (.long x) (fun l => P' (pc + n) r l st h))
    | .astore_n _ => oh_R1 st (fun x st => oh_wr1 l a (.ref x) (fun l => P' (pc + n) r l st h))
    | .astore _ => oh_R1 st (fun x st => oh_wr1 l a (.ref x) (fun l => P' (pc + n) r l st h))
    | .iinc _ _ => oh_ldI l a (fun w => match w with
      | .int x => oh_wr1 l a (.int (x + oh_num b c)) (fun l => P' (pc + n) r l st h)
      | _ => False)
    | .iadd => oh_II st (fun x y st => P' (pc + n) r l (.int (x + y) :: st) h)
    | .isub => oh_II st (fun x y st => P' (pc + n) r l (.int (x - y) :: st) h)
    | .imul => oh_II st (fun x y st => P' (pc + n) r l (.int (x * y) :: st) h)
    | .iand => oh_II st (fun x y st => P' (pc + n) r l (.int (x &&& y) :: st) h)
    | .ior => oh_II st (fun x y st => P' (pc + n) r l (.int (x ||| y) :: st) h)
    | .ixor => oh_II st (fun x y st => P' (pc + n) r l (.int (x ^^^ y) :: st) h)
    | .ishl => oh_II st (fun x y st => P' (pc + n) r l (.int (x <<< (y &&& 31)) :: st) h)
    | .ishr => oh_II st (fun x y st => P' (pc + n) r l (.int (x >>> (y &&& 31)) :: st) h)
    | .iushr => oh_II st (fun x y st => P' (pc + n) r l (.int (x.toUInt32 >>> (y.toUInt32 &&& Int32.toUInt32 31)).toInt32 :: st) h)
    | .idiv => oh_II st (fun x y st => ¬ y = 0 ∧ P' (pc + n) r l (.int (x / y) :: st) h)
    | .irem => oh_II st (fun x y st => ¬ y = 0 ∧ P' (pc + n) r l (.int (x - x / y * y) :: st) h)
    | .ineg => oh_I1 st (fun x st => P' (pc + n) r l (.int (-x) :: st) h)
    | .ladd => oh_LL st (fun x y st => P' (pc + n) r l (.long (x + y) :: st) h)
    | .lsub => oh_LL st (fun x y st => P' (pc + n) r l (.long (x - y) :: st) h)
    | .land => oh_LL st (fun x y st => P' (pc + n) r l (.long (x &&& y) :: st) h)
    | .lor => oh_LL st (fun x y st => P' (pc + n) r l (.long (x ||| y) :: st) h)
    | .lxor => oh_LL st (fun x y st => P' (pc + n) r l (.long (x ^^^ y) :: st) h)
    | .lcmp => oh_LL st (fun x y st => P' (pc + n) r l (.int (lg_cmp x y) :: st) h)
    | .lshl => oh_LI st (fun x y st => P' (pc + n) r l (.long (x <<< (y.toInt64 &&& 63)) :: st) h)
    | .lshr => oh_LI st (fun x y st => P' (pc + n) r l (.long (x >>> (y.toInt64 &&& 63)) :: st) h)
    | .lushr => oh_LI st (fun x y st => P' (pc + n) r l (.long (x.toUInt64 >>> (y.toInt64.toUInt64 &&& Int64.toUInt64 63)).toInt64 :: st) h)
    | .i2l => oh_I1 st (fun x st => P' (pc + n) r l (.long x.toInt64 :: st) h)
    | .l2i => oh_L1 st (fun x st => P' (pc + n) r l (.int x.toInt32 :: st) h)
    | .i2b => oh_I1 st (fun x st => P' (pc + n) r l (.int x.toInt8.toInt32 :: st) h)
    | .i2s => oh_I1 st (fun x st => P' (pc + n) r l (.int x.toInt16.toInt32 :: st) h)
    | .i2c => oh_I1 st (fun x st => P' (pc + n) r l (.int (x.toUInt32 % 65536).toInt32 :: st) h)
    | .dup => oh_V1 st (fun v st => P' (pc + n) r l (v :: v :: st) h)
    | .pop => oh_V1 st (fun _ st => P' (pc + n) r l st h)
    | .dup2 => oh_V1 st (fun v st => oh_V1 st (fun w st => P' (pc + n) r l (v :: w :: v :: w :: st) h))
    | .goto _ => oh_J T P' P a l st h
    | .ifCond cd _ => oh_I1 st (fun x st => oh_br cd x 0 (oh_J T P' P a l st h) (P' (pc + n) r l st h))
    | .if_icmp cd _ => oh_II st (fun x y st => oh_br cd x y (oh_J T P' P a l st h) (P' (pc + n) r l st h))
    | .tableswitch d lo _ os => oh_I1 st (fun x st => oh_tab (fun q => oh_J T P' P q l st h) pc x lo.toNat os.toList d)
    | .lookupswitch d ps => oh_I1 st (fun x st => oh_lkp (fun q => oh_J T P' P q l st h) pc x d ps.toList)
    | .getfield _ => oh_R1 st (fun o st => oh_gf G a b o h (fun v => P' (pc + n) r l (v :: st) h))
    | .putfield _ => oh_RV st (fun o v st => oh_pf G a b o v h (fun h => P' (pc + n) r l st h))
    | .getstatic _ => P' (pc + n) r l (.ref a :: st) h
    | .iaload => oh_RI st (fun o i st => oh_ia G o i h (fun v => P' (pc + n) r l (.int v :: st) h))
    | .laload => oh_RI st (fun o i st => oh_la G o i (fun v => P' (pc + n) r l (.long v :: st) h))
    | .aaload => oh_RI st (fun o i st => oh_aal G o i (fun v => P' (pc + n) r l (.ref v :: st) h))
    | .iastore => oh_RII st (fun o i x st => oh_ias G o i x h (fun h => P' (pc + n) r l st h))
    | .arraylength => oh_R1 st (fun o st => oh_al G o (fun v => P' (pc + n) r l (.int v :: st) h))
    | .invokevirtual _ => oh_rcv G e b st (oh_call E a b c st h (fun st h => P' (pc + n) r l st h))
    | .invokestatic _ => match c with
      | 4 => oh_acp G st h (fun st h => P' (pc + n) r l st h)
      | c => oh_call E a b c st h (fun st h => P' (pc + n) r l st h)
    | .ireturn => oh_I1 st (fun x st => oh_Z st (match a with
      | 0 => Q (some (.int x)) h
      | _ => (x = 0 ∨ x = 1) ∧ Q (some (.int x)) h))
    | .lreturn => oh_L1 st (fun x st => oh_Z st (Q (some (.long x)) h))
    | .areturn => oh_R1 st (fun x st => oh_Z st (Q (some (.ref x)) h))
    | .return_ => oh_Z st (Q none h)
    | _ => False
set_option maxHeartbeats 4000000 in
theorem oh_nx_m {G : List oh_Sh} {T : oh_T} {E : oh_E} (hE : oh_Emono E) {Q : oh_Q} {P' P P2' P2 : oh_P} (h1 : ∀ pc c l st h, P' pc c l st h → P2' pc c l st h) (h2 : ∀ pc c l st h, P pc c l st h → P2 pc c l st h) {pc : Nat} {code : oh_C} {l : oh_L} {st : List Value} {h : oh_St} (q : oh_nx G T E Q P' P pc code l st h) : oh_nx G T E Q P2' P2 pc code l st h := by
  rcases code with _ | ⟨⟨i, n, a, b, c, e, ps⟩, r⟩
  · exact oh_J_m h1 h2 q
  · cases i
    all_goals dsimp only [oh_nx] at q ⊢
    all_goals first
      | exact h1 _ _ _ _ _ q
      | exact False.elim q
      | exact oh_J_m h1 h2 q
      | exact q
      | exact oh_ldI_m (fun v => h1 _ _ _ _ _) q
      | exact oh_ldL_m (fun v => h1 _ _ _ _ _) q
      | exact oh_ldA_m (fun v => h1 _ _ _ _ _) q
      | exact oh_I1_m (fun x st => oh_wr1_m (fun l => h1 _ _ _ _ _)) q
      | exact oh_L1_m (fun x st => oh_wr2_m (fun l => h1 _ _ _ _ _)) q
      | exact oh_R1_m (fun x st => oh_wr1_m (fun l => h1 _ _ _ _ _)) q
      | exact oh_II_m (fun x y st => h1 _ _ _ _ _) q
      | exact oh_II_m (fun x y st z => ⟨z.1, h1 _ _ _ _ _ z.2⟩) q
      | exact oh_I1_m (fun x st => h1 _ _ _ _ _) q
      | exact oh_LL_m (fun x y st => h1 _ _ _ _ _) q
      | exact oh_LI_m (fun x y st => h1 _ _ _ _ _) q
      | exact oh_L1_m (fun x st => h1 _ _ _ _ _) q
      | exact oh_V1_m (fun v st => h1 _ _ _ _ _) q
      | exact oh_V1_m (fun v st => oh_V1_m (fun w st => h1 _ _ _ _ _)) q
      | exact oh_I1_m (fun x st => oh_br_m (oh_J_m h1 h2) (h1 _ _ _ _ _)) q
      | exact oh_II_m (fun x y st => oh_br_m (oh_J_m h1 h2) (h1 _ _ _ _ _)) q
      | exact oh_I1_m (fun x st => oh_tab_m (fun q => oh_J_m h1 h2) _ _ _) q
      | exact oh_I1_m (fun x st => oh_lkp_m (fun q => oh_J_m h1 h2) _) q
      | exact oh_R1_m (fun o st => oh_gf_m (fun v => h1 _ _ _ _ _)) q
      | exact oh_RV_m (fun o v st => oh_pf_m (fun h => h1 _ _ _ _ _)) q
      | exact oh_RI_m (fun o i st => oh_ia_m (fun v => h1 _ _ _ _ _)) q
      | exact oh_RI_m (fun o i st => oh_la_m (fun v => h1 _ _ _ _ _)) q
      | exact oh_RI_m (fun o i st => oh_aal_m (fun v => h1 _ _ _ _ _)) q
      | exact oh_RII_m (fun o i x st => oh_ias_m (fun h => h1 _ _ _ _ _)) q
      | exact oh_R1_m (fun o st => oh_al_m (fun v => h1 _ _ _ _ _)) q
      | exact oh_rcv_m (oh_call_m hE (fun s h => h1 _ _ _ _ _)) q
      | (refine oh_ldI_m (fun w => ?_) q; cases w <;> first | exact False.elim | exact oh_wr1_m (fun l => h1 _ _ _ _ _))
      | (split at q <;> first | exact h1 _ _ _ _ _ q | exact oh_acp_m (fun s h => h1 _ _ _ _ _) q | exact oh_call_m hE (fun s h => h1 _ _ _ _ _) q)
/-- more locals are known -/
def oh_more : oh_L → oh_L → Prop
  | [], [] => True
  | o :: l, o' :: l' => (o = none ∨ o = o') ∧ oh_more l l'
  | _, _ => False
/-- from here the method comes to an end with Q: the least that is closed under the instructions, and under knowing more locals -/
def oh_wp (G : List oh_Sh) (T : oh_T) (E : oh_E) (Q : oh_Q) (pc : Nat) (code : oh_C) (l : oh_L) (st : List Value) (h : oh_St) : Prop :=
  ∀ P : oh_P, (∀ pc code l st h, oh_nx G T E Q P P pc code l st h → P pc code l st h) → (∀ pc code l l' st h, oh_more l l' → P pc code l st h → P pc code l' st h) → P pc code l st h
theorem oh_wp_1 {G : List oh_Sh} {T : oh_T} {E : oh_E} (hE : oh_Emono E) {Q : oh_Q} {pc : Nat} {code : oh_C} {l : oh_L} {st : List Value} {h : oh_St} (q : oh_nx G T E Q (oh_wp G T E Q) (oh_wp G T E Q) pc code l st h) : oh_wp G T E Q pc code l st h := by
  intro P hc hw
  exact hc _ _ _ _ _ (oh_nx_m hE (fun _ _ _ _ _ z => z P hc hw) (fun _ _ _ _ _ z => z P hc hw) q)
theorem oh_wp_w {G : List oh_Sh} {T : oh_T} {E : oh_E} {Q : oh_Q} {pc : Nat} {code : oh_C} {l l' : oh_L} {st : List Value} {h : oh_St} (hl : oh_more l l') (q : oh_wp G T E Q pc code l st h) : oh_wp G T E Q pc code l' st h := by
  intro P hc hw
  exact hw _ _ _ _ _ _ hl (q P hc hw)
theorem oh_nx_q {G : List oh_Sh} {T : oh_T} {E : oh_E} {Q Q' : oh_Q} (hQ : ∀ r h, Q r h → Q' r h) {P' P : oh_P} {pc : Nat} {code : oh_C} {l : oh_L} {st : List Value} {h : oh_St} (q : oh_nx G T E Q P' P pc code l st h) : oh_nx G T E Q' P' P pc code l st h := by
  rcases code with _ | ⟨⟨i, n, a, b, c, e, ps⟩, r⟩
  · exact q
  · cases i <;> first
      | exact q
      | exact oh_L1_m (fun x st => oh_Z_m (hQ _ _)) q
      | exact oh_R1_m (fun x st => oh_Z_m (hQ _ _)) q
      | exact oh_Z_m (hQ _ _) q
      | exact oh_I1_m (fun x st => oh_Z_m (by rcases a with _ | a; exact hQ _ _; exact fun z => ⟨z.1, hQ _ _ z.2⟩)) q
theorem oh_wp_m {G : List oh_Sh} {T : oh_T} {E : oh_E} {Q Q' : oh_Q} (hQ : ∀ r h, Q r h → Q' r h) {pc : Nat} {code : oh_C} {l : oh_L} {st : List Value} {h : oh_St} (q : oh_wp G T E Q pc code l st h) : oh_wp G T E Q' pc code l st h := by
  intro P hc hw
  exact q P (fun _ _ _ _ _ z => hc _ _ _ _ _ (oh_nx_q hQ z)) hw
/-- many instructions at once, up to the cuts -/
def oh_run (G : List oh_Sh) (T : oh_T) (E : oh_E) (Q : oh_Q) : Nat → oh_P
  | 0 => oh_wp G T E Q
  | k + 1 => oh_nx G T E Q (oh_run G T E Q k) (oh_wp G T E Q)
theorem oh_run_wp {G : List oh_Sh} {T : oh_T} {E : oh_E} (hE : oh_Emono E) {Q : oh_Q} : ∀ (k : Nat) {pc : Nat} {code : oh_C} {l : oh_L} {st : List Value} {h : oh_St}, oh_run G T E Q k pc code l st h → oh_wp G T E Q pc code l st h
  | 0, _, _, _, _, _, q => q
  | k + 1, _, _, _, _, _, q => oh_wp_1 hE (oh_nx_m hE (fun _ _ _ _ _ z => oh_run_wp hE k z) (fun _ _ _ _ _ z => z) q)
def oh_arg : List Value → oh_L
  | [] => []
  | .long x :: r => some (.long x) :: none :: oh_arg r
  | .double x :: r => some (.double x) :: none :: oh_arg r
  | v :: r => some v :: oh_arg r
def oh_pad : Nat → oh_L → oh_L
  | 0, l => l
  | n + 1, [] => none :: oh_pad n []
  | n + 1, o :: l => o :: oh_pad n l
/-- indexOf over the texts by number -/
def oh_tx : List (List Int32) := [[], [98, 110, 102, 108], [104, 116, 99]]
def oh_ixF (c : Int32) : List Int32 → Nat → Int32
  | [], _ => -1
  | b :: l, k => if b = c then nI k else oh_ixF c l (k + 1)
/-- a method by its number, so many calls deep -/
def oh_mwp (G : List oh_Sh) (M : List (Nat × oh_T)) : Nat → oh_E
  | 0 => fun _ _ _ _ => False
  | d + 1 => fun j a h Q => match oh_nth M j with
    | some (nL, T) => match nL with
      | 0 => match a with
        | [.ref k, .int c] => 5 ≤ d ∧ 2000 ≤ k ∧ k ≤ 2002 ∧ Q (some (.int (oh_ixF c (oh_tx.getD (k - 2000) []) 0))) h
        | _ => False
      | _ => Nat.ble (oh_arg a).length nL = true ∧ oh_J T (oh_wp G T (oh_mwp G M d) Q) (oh_wp G T (oh_mwp G M d) Q) 0 (oh_pad nL (oh_arg a)) [] h
    | none => False
theorem oh_mwp_m {G : List oh_Sh} {M : List (Nat × oh_T)} : ∀ d : Nat, oh_Emono (oh_mwp G M d)
  | 0 => fun _ _ _ _ _ _ q => q
  | d + 1 => fun j a h Q Q' hQ q => by
    unfold oh_mwp at q ⊢
    split at q
    · split at q
      · split at q
        · exact ⟨q.1, q.2.1, q.2.2.1, hQ _ _ q.2.2.2⟩
        · exact q
      · exact ⟨q.1, oh_J_m (fun _ _ _ _ _ => oh_wp_m hQ) (fun _ _ _ _ _ => oh_wp_m hQ) q.2⟩
    · exact q

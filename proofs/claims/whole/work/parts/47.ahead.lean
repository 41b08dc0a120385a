/-! AHEAD: bells that change nothing; runs of bells on a scene ahead, or on the model that is put back -/
def sAtB (S : oS) (b : Nat) : oS := (sN S, sK S, sM S, sE S, sW S, sP S, sQ S, b)
theorem sSp_B {S : oS} (hok : sOk S) {b p A : Nat} (hp : p < 6) (h9 : 9 ≤ sB S) (hb : 9 ≤ b) : sSp (sAtB S b) p A = sSp S p A := by
  have hm := (hok.2.1 p hp).2.1
  have e1 : decide (sM S p ≤ b) = true := decide_eq_true (by omega)
  have e2 : decide (sM S p ≤ sB S) = true := decide_eq_true (by omega)
  show (!(sQ S).testBit p && (match sK S p with
    | 1 => sHs S p A
    | 2 => decide (sM S p ≤ b) && oKn p A
    | 3 => false
    | 4 => decide (sM S p ≤ b) || sHs S p A
    | 5 => decide (sM S p ≤ b) && (decide (sE S p &&& sQ S = sE S p) && oKn p A)
    | 6 => oKn p (sP S)
    | _ => oKn p A)) = sSp S p A
  unfold sSp
  rw [e1, e2]
  rfl
theorem sWho_B {S : oS} (hok : sOk S) {b x : Nat} (h9 : 9 ≤ sB S) (hb : 9 ≤ b) : sWho (sAtB S b) x = sWho S x := ob_m_cong (fun p hp => sSp_B hok (by have := hok.1; have : p < sN S := hp; omega) h9 hb)
theorem sLf_B {S : oS} (hok : sOk S) {b who blk : Nat} (h9 : 9 ≤ sB S) (hb : 9 ≤ b) : sLf (sAtB S b) who blk (sN S) = sLf S who blk (sN S) := by
  apply ob_m_cong
  intro y hy
  have e : ∀ p, p < sN S → sFits (sAtB S b) who blk y p = sFits S who blk y p := by
    intro p hp
    unfold sFits sGood
    have := hok.1
    rw [show sSp (sAtB S b) p (sCell (sAtB S b) p y) = sSp S p (sCell S p y) from sSp_B hok (by omega) h9 hb]
    rfl
  have e2 : (List.range (sN S)).all (sFits (sAtB S b) who blk y) = (List.range (sN S)).all (sFits S who blk y) := by
    rw [Bool.eq_iff_iff, List.all_eq_true, List.all_eq_true]
    constructor
    · intro H p hp; rw [← e p (List.mem_range.mp hp)]; exact H p hp
    · intro H p hp; rw [e p (List.mem_range.mp hp)]; exact H p hp
  rw [e2]
  rfl
/-- a bell by which nothing changed, when all may speak -/
def quiet (S : oS) : Prop := sChg S (sWho S (sW S)) (sBlk S (sW S) (sWho S (sW S))) = false ∧ 9 ≤ sB S
theorem quiet_who {S : oS} (h : quiet S) : sWho S (sW S) = 0 ∧ (sLf S 0 (sBlk S (sW S) 0) (sN S) = 0 ∨ sLf S 0 (sBlk S (sW S) 0) (sN S) = sP S) := by
  have h1 := h.1
  unfold sChg at h1
  simp only [Bool.or_eq_false_iff, decide_eq_false_iff_not, Decidable.not_not, Bool.and_eq_false_iff] at h1
  obtain ⟨a, b⟩ := h1
  rw [a] at b
  refine ⟨a, ?_⟩
  rcases b with b | b
  · exact Or.inl b
  · exact Or.inr b
theorem quiet_st {fi : Int32} {c : List Nat} {x : oI} (hok : sOk x.1) (h : quiet x.1) : iSt false fi c x = (sAtB x.1 (sB x.1 + 1), x.2.1, x.2.2) := by
  obtain ⟨S, pd, z⟩ := x
  obtain ⟨w0, hl⟩ := quiet_who h
  show (sHear S (sWho S (sW S)) (sBlk S (sW S) (sWho S (sW S))), pdF S fi c (sWho S (sW S)) (sBlk S (sW S) (sWho S (sW S))) pd, z) = (sAtB S (sB S + 1), pd, z)
  have w0' : sWho S (sW S) = 0 := w0
  rw [w0']
  have e1 : sHear S 0 (sBlk S (sW S) 0) = sAtB S (sB S + 1) := by
    unfold sHear sAtB
    rw [Nat.or_zero]
    have hl' : sLf S 0 (sBlk S (sW S) 0) (sN S) = 0 ∨ sLf S 0 (sBlk S (sW S) 0) (sN S) = sP S := hl
    rcases hl' with e | e
    · rw [if_pos e]
    · by_cases z : sLf S 0 (sBlk S (sW S) 0) (sN S) = 0
      · rw [if_pos z]
      · rw [if_neg z, e]
  have e2 : pdF S fi c 0 (sBlk S (sW S) 0) pd = pd := by
    funext i
    rw [pdF, if_neg (by simp)]
  rw [e1, e2]
theorem quiet_B {S : oS} (hok : sOk S) (h : quiet S) {b : Nat} (hb : 9 ≤ b) : quiet (sAtB S b) := by
  have h9 := h.2
  refine ⟨?_, hb⟩
  have e1 : sWho (sAtB S b) (sW (sAtB S b)) = sWho S (sW S) := sWho_B hok h9 hb
  rw [e1]
  have := h.1
  unfold sChg at this ⊢
  have e2 : sLf (sAtB S b) (sWho S (sW S)) (sBlk (sAtB S b) (sW (sAtB S b)) (sWho S (sW S))) (sN (sAtB S b)) = sLf S (sWho S (sW S)) (sBlk S (sW S) (sWho S (sW S))) (sN S) := sLf_B hok h9 hb
  rw [e2]
  exact this
theorem quiet_it {fi : Int32} {c : List Nat} {x : oI} (hok : sOk x.1) (h : quiet x.1) : ∀ n, sB x.1 + n < 1000 → iT false fi c x n = (sAtB x.1 (sB x.1 + n), x.2.1, x.2.2)
  | 0, _ => rfl
  | n + 1, hb => by
    show iSt false fi c (iT false fi c x n) = _
    have h9 := h.2
    rw [quiet_it hok h n (by omega)]
    have ok2 : sOk (sAtB x.1 (sB x.1 + n)) := ⟨hok.1, hok.2.1, hok.2.2.1, hok.2.2.2.1, hok.2.2.2.2.1, by show sB x.1 + n < 1000; omega⟩
    rw [quiet_st (x := (sAtB x.1 (sB x.1 + n), x.2.1, x.2.2)) ok2 (quiet_B hok h (by omega))]
    rfl
theorem iT_add (l : Bool) (fi : Int32) (c : List Nat) (x : oI) (m : Nat) : ∀ n, iT l fi c x (m + n) = iT l fi c (iT l fi c x m) n
  | 0 => rfl
  | n + 1 => by
    show iSt l fi c (iT l fi c x (m + n)) = iSt l fi c (iT l fi c (iT l fi c x m) n)
    rw [iT_add l fi c x m n]
/-- once it is quiet -/
theorem quiet_to {fi : Int32} {c : List Nat} {x : oI} {m n : Nat} (hok : sOk x.1) (hb : sB x.1 + n < 1000) (hm : m ≤ n) (h : quiet (iT false fi c x m).1) : iT false fi c x n = (sAtB (iT false fi c x m).1 (sB x.1 + n), (iT false fi c x m).2.1, (iT false fi c x m).2.2) := by
  obtain ⟨e, rfl⟩ := Nat.exists_eq_add_of_le hm
  rw [iT_add, quiet_it (iT_ok hok m (by omega)) h e (by rw [iT_B]; omega), iT_B]
  rw [Nat.add_assoc]
/-- behind which of the bells somebody spoke last -/
def lastSp (fi : Int32) (c : List Nat) (x : oI) : Nat → Nat
  | 0 => 0
  | n + 1 => if sQ (iT false fi c x (n + 1)).1 = sQ (iT false fi c x n).1 then lastSp fi c x n else n + 1
theorem lastSp_le (fi : Int32) (c : List Nat) (x : oI) : ∀ n, lastSp fi c x n ≤ n
  | 0 => Nat.le_refl _
  | n + 1 => by
    unfold lastSp
    have := lastSp_le fi c x n
    split <;> omega
theorem lastSp_q {fi : Int32} {c : List Nat} {x : oI} {m : Nat} (h : ∀ j, m ≤ j → sQ (iT false fi c x j).1 = sQ (iT false fi c x m).1) : ∀ n, m ≤ n → lastSp fi c x n = lastSp fi c x m
  | 0, hm => by have : m = 0 := by omega
                rw [this]
  | n + 1, hm => by
    by_cases e : m = n + 1
    · rw [e]
    · unfold lastSp
      rw [if_pos (by rw [h (n + 1) hm, h n (by omega)]), lastSp_q h n (by omega)]
      cases m with
      | zero => rfl
      | succ m => rfl
theorem ahPast {d : Nat} {K : Int32 → oh_St → Prop} {h : oh_St} {b : Nat} (hb : h.1 37 10 = nI b) (h1 : b < 2000) (q : K (oh_b (decide (9 < b))) h) : CM (d + 1) jX4_isPastAllNumbers [.ref 37] h (oh_r1 K) := by
  refine mX4_isPastAllNumbers ?_
  rw [hb]
  by_cases c : b ≤ 9
  · rw [decide_eq_false (by omega)] at q
    exact br_t (nI_le (b := 9) c (by omega)) ⟨oh_i0, q⟩
  · rw [decide_eq_true (by omega)] at q
    exact br_f (nI_ge (a := 9) (by omega) (by omega)) ⟨oh_i1, q⟩
theorem sX7_ringAhead {d n : Nat} {K : Int32 → oh_St → Prop} {h : oh_St} {x : oI} {fi : Int32} {c : List Nat} (hc : cI h 37 x) (hf : h.1 37 6 = fi) (hl : lawIs h 11 1 c) (hbe : sB x.1 + n < 500)
    (q : ∀ h' b, cI h' 37 (sAtB (iT false fi c x n).1 b, (iT false fi c x n).2.1, (iT false fi c x n).2.2) → oFr h h' 37 → K (nI (lastSp fi c x n)) h') : CM (d + 8) jX7_ringAhead [.ref 0, .int (nI n)] h (oh_r1 K) := by
  have hok := hc.1.2.2.2.2.2.2
  refine mX7_ringAhead ?_
  have key : ∀ i, i ≤ n → ∀ h', cI h' 37 (iT false fi c x i) → oFr h h' 37 → wX7_ringAhead_4 (d + 7) (oh_r1 K) (nI n) (nI (lastSp fi c x i)) (nI (i + 1)) h' := by
    refine oh_up (fun i hi ih => ?_) ?_
    · intro h' c1 f
      have oki := iT_ok (l := false) (fi := fi) (c := c) hok i (by omega)
      have okj := iT_ok (l := false) (fi := fi) (c := c) hok (i + 1) (by omega)
      have hBi := iT_B false fi c x i
      refine bX7_ringAhead_4 (br_f (nI_nlt (by omega) (by omega)) (cRing (Or.inr rfl) c1 ((f.2.1 6 (by omega) (by omega)).trans hf) (lawIs_fr (Or.inr rfl) hl f) (by omega) (fun h2 c2 f2 => ?_)))
      have f3 := oFr_tr f f2
      have e9 : h'.1 37 9 = nI (sQ (iT false fi c x i).1) := c1.1.2.2.2.2.1
      have e9' : h2.1 37 9 = nI (sQ (iT false fi c x (i + 1)).1) := c2.1.2.2.2.2.1
      have e10 : h2.1 37 10 = nI (sB (iT false fi c x (i + 1)).1) := c2.1.2.2.2.2.2.1
      have hBj := iT_B false fi c x (i + 1)
      have q1 := sQ_lt oki
      have q2 := sQ_lt okj
      rw [e9, e9', nI_1]
      -- going on, or breaking off
      have tail : ∀ (L : Nat), L = lastSp fi c x (i + 1) → ((¬ oh_b (sChg (iT false fi c x i).1 (sWho (iT false fi c x i).1 (sW (iT false fi c x i).1)) (sBlk (iT false fi c x i).1 (sW (iT false fi c x i).1) (sWho (iT false fi c x i).1 (sW (iT false fi c x i).1)))) = 0 → wX7_ringAhead_4 (d + 7) (oh_r1 K) (nI n) (nI L) (nI (i + 1 + 1)) h2) ∧ (oh_b (sChg (iT false fi c x i).1 (sWho (iT false fi c x i).1 (sW (iT false fi c x i).1)) (sBlk (iT false fi c x i).1 (sW (iT false fi c x i).1) (sWho (iT false fi c x i).1 (sW (iT false fi c x i).1)))) = 0 → CM (d + 7) jX4_isPastAllNumbers [.ref 37] h2 (oh_r1 (fun x4 h3 => ((x4 = 0 → wX7_ringAhead_4 (d + 7) (oh_r1 K) (nI n) (nI L) (nI (i + 1 + 1)) h3) ∧ (¬ x4 = 0 → oh_r1 K (some (.int (nI L))) h3)))))) := by
        intro L hL
        subst hL
        refine oh_bn (fun _ => ih h2 c2 f3) (fun y => ahPast e10 (by omega) (oh_bz (fun _ => ih h2 c2 f3) (fun y2 => ?_)))
        have y2 : 9 < sB (iT false fi c x (i + 1)).1 := of_decide_eq_true y2
        have qu : quiet (iT false fi c x i).1 := ⟨y, by omega⟩
        have tn := quiet_to hok (by omega : sB x.1 + n < 1000) (show i ≤ n by omega) qu
        have tj := quiet_to hok (by omega : sB x.1 + (i + 1) < 1000) (show i ≤ i + 1 by omega) qu
        have Q : ∀ j, i ≤ j → j ≤ n → sQ (iT false fi c x j).1 = sQ (iT false fi c x i).1 := fun j hj hjn => by
          rw [quiet_to hok (by omega) hj qu]; rfl
        have lq : ∀ j, i ≤ j → j ≤ n → lastSp fi c x j = lastSp fi c x i := by
          intro j hj hjn
          induction j with
          | zero => have : i = 0 := by omega
                    rw [this]
          | succ j ihj =>
            by_cases e : i = j + 1
            · rw [e]
            · rw [lastSp, if_pos (by rw [Q (j + 1) hj hjn, Q j (by omega) (by omega)])]
              exact ihj (by omega) (by omega)
        show K _ h2
        rw [lq (i + 1) (by omega) (by omega), ← lq n (by omega) (Nat.le_refl n)]
        refine q h2 (sB x.1 + (i + 1)) ?_ f3
        have : (sAtB (iT false fi c x n).1 (sB x.1 + (i + 1)), (iT false fi c x n).2.1, (iT false fi c x n).2.2) = iT false fi c x (i + 1) := by
          rw [tn, tj]
          rfl
        rw [this]
        exact c2
      refine ⟨fun y => tail _ ?_, fun y => tail _ ?_⟩
      · have y := (nI_eq (by omega) (by omega)).mp y
        rw [lastSp, if_pos y]
      · have y : ¬ sQ (iT false fi c x (i + 1)).1 = sQ (iT false fi c x i).1 := fun e => y (by rw [e])
        rw [lastSp, if_neg y]
    · intro h' c1 f
      refine bX7_ringAhead_4 (br_t (nI_lt (by omega) (by omega)) (q h' (sB (iT false fi c x n).1) c1 f))
  exact key 0 (Nat.zero_le _) h hc (oFr_rf h 37)
/-- behind how many bells a man has spoken; 31 -/
def snF (fi : Int32) (c : List Nat) (x : oI) (p : Nat) : Nat → Nat → Nat
  | 0, _ => 31
  | f + 1, i => if (sQ (iT false fi c x i).1).testBit p then i else snF fi c x p f (i + 1)
def sn (fi : Int32) (c : List Nat) (x : oI) (p : Nat) : Nat := snF fi c x p 31 0
theorem snF_no {fi : Int32} {c : List Nat} {x : oI} {p : Nat} : ∀ f i, (∀ j, i ≤ j → j < i + f → (sQ (iT false fi c x j).1).testBit p = false) → snF fi c x p f i = 31
  | 0, i, _ => rfl
  | f + 1, i, h => by
    unfold snF
    rw [if_neg (by rw [h i (by omega) (by omega)]; decide)]
    exact snF_no f (i + 1) (fun j a b => h j (by omega) (by omega))
theorem snF_le {fi : Int32} {c : List Nat} {x : oI} {p : Nat} : ∀ f i, f + i = 31 → snF fi c x p f i ≤ 31
  | 0, i, _ => by unfold snF; omega
  | f + 1, i, h => by
    unfold snF
    have := snF_le (fi := fi) (c := c) (x := x) (p := p) f (i + 1) (by omega)
    split <;> omega
theorem sX7_bellsTillSpoken {d p : Nat} {K : Int32 → oh_St → Prop} {h : oh_St} {x : oI} {fi : Int32} {c : List Nat} (hc : cI h 37 x) (hf : h.1 37 6 = fi) (hl : lawIs h 11 1 c) (hbe : sB x.1 < 400) (hp : p < 6) (q : ∀ h', oFr h h' 37 → K (nI (sn fi c x p)) h') : CM (d + 8) jX7_bellsTillSpoken [.ref 0, .int (nI p)] h (oh_r1 K) := by
  have hok := hc.1.2.2.2.2.2.2
  refine mX7_bellsTillSpoken ?_
  have key : ∀ f i, f + i = 31 → ∀ h', snF fi c x p f i = sn fi c x p → cI h' 37 (iT false fi c x i) → oFr h h' 37 → wX7_bellsTillSpoken_2 (d + 7) (oh_r1 K) (nI p) (nI i) h' := by
    intro f
    induction f with
    | zero =>
      intro i hi h' e c1 fr
      have : i = 31 := by omega
      subst this
      unfold snF at e
      refine bX7_bellsTillSpoken_2 (br_t (nI_lt (a := 30) (by omega) (by omega)) ?_)
      have := q h' fr
      rw [← e] at this
      exact this
    | succ f ih =>
      intro i hi h' e c1 fr
      unfold snF at e
      have oki := iT_ok (l := false) (fi := fi) (c := c) hok i (by omega)
      have okj := iT_ok (l := false) (fi := fi) (c := c) hok (i + 1) (by omega)
      have hBi := iT_B false fi c x i
      have hBj := iT_B false fi c x (i + 1)
      have e9 : h'.1 37 9 = nI (sQ (iT false fi c x i).1) := c1.1.2.2.2.2.1
      have q1 := sQ_lt oki
      refine bX7_bellsTillSpoken_2 (br_f (nI_nlt (a := 30) (by omega) (by omega)) ?_)
      rw [e9]
      refine sX7_bit (by omega) (by omega) (oh_bo (fun y => ?_) (fun y => ?_))
      · rw [if_neg (by rw [y]; decide)] at e
        refine cRing (Or.inr rfl) c1 ((fr.2.1 6 (by omega) (by omega)).trans hf) (lawIs_fr (Or.inr rfl) hl fr) (by omega) (fun h2 c2 f2 => ?_)
        have f3 := oFr_tr fr f2
        have e10 : h2.1 37 10 = nI (sB (iT false fi c x (i + 1)).1) := c2.1.2.2.2.2.2.1
        rw [nI_1]
        refine oh_bn (fun _ => ih (i + 1) (by omega) h2 e c2 f3) (fun y1 => ahPast e10 (by omega) (oh_bz (fun _ => ih (i + 1) (by omega) h2 e c2 f3) (fun y2 => ?_)))
        have y2 : 9 < sB (iT false fi c x (i + 1)).1 := of_decide_eq_true y2
        have qu : quiet (iT false fi c x i).1 := ⟨y1, by omega⟩
        have n31 : snF fi c x p f (i + 1) = 31 := snF_no f (i + 1) (fun j a b => by
          rw [quiet_to hok (by omega) (show i ≤ j by omega) qu]
          exact y)
        have := q h2 f3
        rw [← e, n31] at this
        exact this
      · rw [if_pos y] at e
        have := q h' fr
        rw [← e] at this
        exact this
  exact key 31 0 rfl h rfl hc (oFr_rf h 37)

/-! what looking ahead leaves alone -/
def uq (s : Us) := ((Us.nw s, Us.kp s), (Us.k0 s, Us.k1 s, Us.k2 s, Us.k3 s, Us.k4 s, Us.k5 s, Us.k6 s), (Us.l0 s, Us.l1 s, Us.l2 s, Us.l3 s, Us.l4 s, Us.l5 s), (Us.b0 s, Us.b1 s, Us.b2 s, Us.b3 s, Us.b4 s, Us.b5 s, Us.b6 s), (Us.it s, Us.ac s))
def Uk (a b : Us) : Prop := uq b = uq a
theorem Uk.rf (a : Us) : Uk a a := rfl
theorem Uk.tr {a b c : Us} (h : Uk a b) (g : Uk b c) : Uk a c := Eq.trans g h
def Uv (a b : Us) : Prop := Uk a b ∧ Sc.kd (Sf.c (Us.ah b)) = Sc.kd (Sf.c (Us.ah a)) ∧ Sc.vv (Sf.c (Us.ah b)) = Sc.vv (Sf.c (Us.ah a)) ∧ Sc.rw (Sf.c (Us.ah b)) = Sc.rw (Sf.c (Us.ah a))
theorem Uv.rf (a : Us) : Uv a a := ⟨rfl, rfl, rfl, rfl⟩
theorem Uk.g {s m1 : Us} {L : Lg} {le : Int32} {r : Wt} (e : m_X7_goTide (wtA m1 L) le = r) (h : Uk s m1) : Uk s (Us.nw m1, Us.kp m1, (Wt.c r, Sf.tp (Us.ah m1), Sf.se (Us.ah m1), Sf.pl (Us.ah m1), Sf.bk (Us.ah m1)), Wt.h r, Wt.k0 r, Wt.k1 r, Wt.k2 r, Wt.k3 r, Wt.k4 r, Wt.k5 r, Wt.k6 r, Wt.st r, Us.l0 m1, Us.l1 m1, Us.l2 m1, Us.l3 m1, Us.l4 m1, Us.l5 m1, Us.b0 m1, Us.b1 m1, Us.b2 m1, Us.b3 m1, Us.b4 m1, Us.b5 m1, Us.b6 m1, Us.it m1, Us.ac m1) := by
  have wk := wk_goTide (wtA m1 L) le
  rw [e] at wk
  obtain ⟨b0, b1, b2, b3, b4, b5, b6⟩ := wk
  unfold Uk at h ⊢
  rw [← h]
  show ((Us.nw m1, Us.kp m1), (Wt.k0 r, Wt.k1 r, Wt.k2 r, Wt.k3 r, Wt.k4 r, Wt.k5 r, Wt.k6 r), _, _, _) = _
  rw [b0, b1, b2, b3, b4, b5, b6]
  rfl
theorem Uv.g {s m1 : Us} {L : Lg} {le : Int32} {r : Wt} (e : m_X7_goTide (wtA m1 L) le = r) (h : Uv s m1) : Uv s (Us.nw m1, Us.kp m1, (Wt.c r, Sf.tp (Us.ah m1), Sf.se (Us.ah m1), Sf.pl (Us.ah m1), Sf.bk (Us.ah m1)), Wt.h r, Wt.k0 r, Wt.k1 r, Wt.k2 r, Wt.k3 r, Wt.k4 r, Wt.k5 r, Wt.k6 r, Wt.st r, Us.l0 m1, Us.l1 m1, Us.l2 m1, Us.l3 m1, Us.l4 m1, Us.l5 m1, Us.b0 m1, Us.b1 m1, Us.b2 m1, Us.b3 m1, Us.b4 m1, Us.b5 m1, Us.b6 m1, Us.it m1, Us.ac m1) := by
  obtain ⟨-, w2, w3, w4, -⟩ := (gl_goTide e).2.1
  exact ⟨Uk.g e h.1, w2.trans h.2.1, w3.trans h.2.2.1, w4.trans h.2.2.2⟩
theorem ut_tides_l (s : Us) (f : Int32) (L : Lg) : ∀ (n : Nat) (i : Int32) (m1 : Us), Uv s m1 → Uv s (l_X11_tidesAheadWith_7 s f L n i m1).2 := by
  intro n
  induction n with
  | zero => intro i m1 h; exact Uv.rf s
  | succ n ih =>
    intro i m1 h
    rw [q_X11_tidesAheadWith_7]
    simp only [bindv]
    (repeat' split) <;> first | exact h | exact ih _ _ (Uv.g rfl h)
theorem ut_tides (s : Us) (f : Int32) : Uv s (m_X11_tidesAheadWith s f).2 := ut_tides_l s f _ _ _ _ (Uv.rf s)
theorem ut_go_l (s : Us) (n : Int32) (L : Lg) : ∀ (x : Nat) (i : Int32) (m1 : Us), Uv s m1 → Uv s (l_X11_go_p13_8 s n L x i m1) := by
  intro x
  induction x with
  | zero => intro i m1 h; exact Uv.rf s
  | succ x ih =>
    intro i m1 h
    rw [q_X11_go_p13_8]
    simp only [bindv]
    (repeat' split) <;> first | exact h | exact ih _ _ (Uv.g rfl h)
theorem ut_go (s : Us) (n : Int32) : Uv s (m_X11_go_p13 s n) := by
  unfold m_X11_go_p13
  rw [bindv]
  exact ut_go_l s n _ _ _ _ (Uv.rf s)
theorem ut_taught_l (s s0 : Us) (row n : Int32) (L : Lg) (h0 : Uv s s0) : ∀ (x : Nat) (k : Int32) (m1 : Us), Uv s m1 → Uv s (l_X11_heldIfTaught_19 s0 row n L x k m1).2 := by
  intro x
  induction x with
  | zero => intro k m1 h; exact h0
  | succ x ih =>
    intro k m1 h
    rw [q_X11_heldIfTaught_19]
    simp only [bindv]
    (repeat' split) <;> first | exact h | exact ih _ _ (Uv.g rfl h)
theorem ut_seen_l (s : Us) (L : Lg) : ∀ (x : Nat) (n : Int32) (m1 : Us), Uv s m1 → Uv s (l_X11_seenIsSo_15 s L x n m1).2 := by
  intro x
  induction x with
  | zero => intro n m1 h; exact Uv.rf s
  | succ x ih =>
    intro n m1 h
    rw [q_X11_seenIsSo_15]
    simp only [bindv]
    (repeat' split) <;> first | exact h | exact ih _ _ h | exact Uv.g rfl h | exact ih _ _ (Uv.g rfl h)
theorem ut_seen (s : Us) : Uv s (m_X11_seenIsSo s).2 := by
  unfold m_X11_seenIsSo
  rw [bindv]
  exact ut_seen_l s _ _ _ _ (Uv.rf s)
/-! what was looked for, of the check -/
def Lf (m m' : Ms) : Prop := Ms.lk m' = Ms.lk m ∧ ∀ j, Ms.lf m' j = Ms.lf m j ∨ Ms.lf m' j = Ms.lk m
theorem Lf.rf (m : Ms) : Lf m m := ⟨rfl, fun j => Or.inl rfl⟩
theorem Lf.tr {a b c : Ms} (h : Lf a b) (g : Lf b c) : Lf a c := by
  refine ⟨g.1.trans h.1, fun j => ?_⟩
  rcases g.2 j with q | q
  · rw [q]; exact h.2 j
  · rw [q, h.1]; exact Or.inr rfl
theorem LK.lf {m m' : Ms} {K : Nat} (h : LK m K) (q : Lf m m') : LK m' K := by
  refine ⟨q.1.trans h.1, fun j hj => ?_⟩
  rcases q.2 j with e | e
  · rw [e]; exact h.2 j hj
  · rw [e, h.1]; exact ⟨K, Nat.le_refl K, rfl⟩
theorem LK.up {m m' : Ms} {K : Nat} (h : LK m K) (e1 : Ms.lf m' = Ms.lf m) (e2 : Ms.lk m' = Ms.lk m + nI 1) : LK m' (K + 1) := by
  refine ⟨by rw [e2, h.1, nI_add], fun j hj => ?_⟩
  obtain ⟨a, ha, e⟩ := h.2 j hj
  exact ⟨a, by omega, by rw [e1]; exact e⟩
theorem lf_sumOf (m : Ms) (p f : Int32) : Lf m (m_X12_sumOf m p f).2 := by
  unfold m_X12_sumOf
  generalize ((nI 9 * ((nI 8 * ((nI 6 * ((Ms.s m (nI 0).toNatClampNeg) - (Ms.s m (nI 0).toNatClampNeg) / nI 10 * nI 10)) + p)) + f)) + (m_X12_countOf (Ms.s m (nI 1 + p).toNatClampNeg))).toNatClampNeg = ii
  by_cases c : Ms.lf m ii = Ms.lk m
  · rw [if_pos c]; exact Lf.rf m
  · rw [if_neg c]
    generalize hm1 : (Ms.th m, Ms.s m, Ms.im m, Ms.fr m, Ms.hi m, Ms.ac m, Ms.sp m, Ms.en m, Ms.wr m, Ms.op m, Ms.bb m, Ms.tr m, Ms.su m, (upd (Ms.lf m) ii (Ms.lk m)), Ms.lk m, Ms.nx m, Ms.bo m, Ms.ra m, Ms.ki m, Ms.nu m, Ms.tv m) = m1
    have lf1 : Ms.lf m1 = upd (Ms.lf m) ii (Ms.lk m) := by rw [← hm1]; rfl
    have lk1 : Ms.lk m1 = Ms.lk m := by rw [← hm1]; rfl
    have q := cq_clausesOf m1 p f (m_X12_countOf (Ms.s m (nI 1 + p).toNatClampNeg)) ((Ms.s m (nI 0).toNatClampNeg) - (Ms.s m (nI 0).toNatClampNeg) / nI 10 * nI 10)
    have w := cs_clausesOf m1 p f (m_X12_countOf (Ms.s m (nI 1 + p).toNatClampNeg)) ((Ms.s m (nI 0).toNatClampNeg) - (Ms.s m (nI 0).toNatClampNeg) / nI 10 * nI 10)
    generalize m_X12_clausesOf m1 p f (m_X12_countOf (Ms.s m (nI 1 + p).toNatClampNeg)) ((Ms.s m (nI 0).toNatClampNeg) - (Ms.s m (nI 0).toNatClampNeg) / nI 10 * nI 10) = r at q w ⊢
    dsimp only [bindv]
    refine ⟨q.2.2.2.2.1.trans lk1, fun j => ?_⟩
    show Ms.lf r.2 j = Ms.lf m j ∨ Ms.lf r.2 j = Ms.lk m
    rw [w.2, lf1]
    by_cases z : j = ii
    · rw [z, pk_us]; exact Or.inr rfl
    · rw [pk_un z]; exact Or.inl rfl
theorem lf_heedOf (m : Ms) (p f : Int32) : Lf m (m_X12_heedOf m p f).2 := by
  have : (m_X12_heedOf m p f).2 = (m_X12_sumOf m p f).2 := by
    unfold m_X12_heedOf
    generalize m_X12_sumOf m p f = r
    simp only [bindv]
    (repeat' split) <;> rfl
  rw [this]; exact lf_sumOf m p f
theorem lf_bind {x : Int32} {g : Int32 → Int32 × Ms} {m : Ms} (h : ∀ x, Lf m (g x).2) : Lf m (bindv x g).2 := h x
theorem lf_isKnownNext (m : Ms) (p f le : Int32) : Lf m (m_X12_isKnownNext m p f le).2 := by
  unfold m_X12_isKnownNext
  refine lf_bind fun x => ?_
  have q := lf_heedOf m p f
  generalize m_X12_heedOf m p f = r at q ⊢
  simp only [bindv]
  (repeat' split) <;> first | exact q | exact Lf.rf m
theorem lf_knownNext_l (m : Ms) (p le : Int32) : ∀ (n : Nat) (a room f : Int32) (m1 : Ms), Lf m m1 → Lf m (l_X12_knownNext_15 m p le n a room f m1).2 := by
  intro n
  induction n with
  | zero => intro a room f m1 h; exact Lf.rf m
  | succ n ih =>
    intro a room f m1 h
    rw [q_X12_knownNext_15]
    have h2 := h.tr (lf_isKnownNext m1 p f le)
    simp only [bindv]
    (repeat' split) <;> first | exact h | exact ih _ _ _ _ h2
theorem lf_knownNext (m : Ms) (p le : Int32) : Lf m (m_X12_knownNext m p le).2 := lf_knownNext_l m p le _ _ _ _ _ (Lf.rf m)
theorem lf_goesBy_57 (m : Ms) (le p : Int32) (m0 m1 : Ms) (h0 : Lf m0 m) (h : Lf m0 m1) : ∀ (n : Nat) (b : Int32) (s1 : Fn), Lf m0 (l_X12_goesBy_57 m le p m1 n b s1) := by
  intro n
  induction n with
  | zero => intro b s1; exact h0
  | succ n ih =>
    intro b s1
    rw [q_X12_goesBy_57]
    split
    · exact h
    · exact ih _ _
theorem lf_goesBy_2 (m : Ms) (le : Int32) : ∀ (n : Nat) (p : Int32) (m1 : Ms), Lf m m1 → Lf m (l_X12_goesBy_2 m le n p m1) := by
  intro n
  induction n with
  | zero => intro p m1 h; exact Lf.rf m
  | succ n ih =>
    intro p m1 h
    rw [q_X12_goesBy_2]
    have h2 := h.tr (lf_knownNext m1 p le)
    generalize m_X12_knownNext m1 p le = r at h2 ⊢
    simp only [bindv]
    split
    · exact lf_goesBy_57 m le p m m1 (Lf.rf m) h _ _ _
    · split
      · exact ih _ _ h
      · exact ih _ _ h2
theorem lf_goesBy (m : Ms) (le : Int32) : Lf m (m_X12_goesBy m le) := lf_goesBy_2 m le _ _ _ (Lf.rf m)
theorem lf_goes (m : Ms) : Lf m (m_X12_goes m) := lf_goesBy m _
theorem lf_goesOn_l (m : Ms) (n : Int32) : ∀ (x : Nat) (k : Int32) (m1 : Ms), Lf m m1 → Lf m (l_X12_goesOn_2 m n x k m1) := by
  intro x
  induction x with
  | zero => intro k m1 h; exact Lf.rf m
  | succ x ih =>
    intro k m1 h
    rw [q_X12_goesOn_2]
    simp only [bindv]
    split
    · exact h
    · exact ih _ _ (h.tr (lf_goes m1))
theorem lf_goesOn (m : Ms) (n : Int32) : Lf m (m_X12_goesOn m n) := lf_goesOn_l m n _ _ _ (Lf.rf m)
/-- sums and what was looked for: the same -/
def Cm (m m' : Ms) : Prop := Ms.su m' = Ms.su m ∧ Ms.lf m' = Ms.lf m ∧ Ms.lk m' = Ms.lk m
theorem cm_back_l (m : Ms) : ∀ (n : Nat) (i : Int32) (s : Fn), Cm m (l_X12_goesBack_2 m n i s) := by
  intro n
  induction n with
  | zero => intro i s; exact ⟨rfl, rfl, rfl⟩
  | succ n ih =>
    intro i s
    rw [q_X12_goesBack_2]
    split
    · exact ⟨rfl, rfl, rfl⟩
    · exact ih _ _
theorem cm_back (m : Ms) : Cm m (m_X12_goesBack m) := cm_back_l m _ _ _
theorem cm_keeps_l (m : Ms) : ∀ (n : Nat) (i : Int32) (s : Fn), Cm m (l_X12_keeps_2 m n i s) := by
  intro n
  induction n with
  | zero => intro i s; exact ⟨rfl, rfl, rfl⟩
  | succ n ih =>
    intro i s
    rw [q_X12_keeps_2]
    split
    · exact ⟨rfl, rfl, rfl⟩
    · exact ih _ _
theorem cm_keeps (m : Ms) : Cm m (m_X12_keeps m) := cm_keeps_l m _ _ _
theorem Cm.lf {m m' : Ms} (h : Cm m m') : Lf m m' := ⟨h.2.2, fun j => Or.inl (by rw [h.2.1])⟩
/-! what is kept of weighing, told by numbers that don't change -/
def SKc (c : Sc) (st : Fn) (l : Lg) : Prop := ∀ i c' t, i < 6 → c' ≤ 8 → t < 10 → st (iy i c' t) = (-nI 1) ∨ WB c l i (nI c') (nI t) (st (iy i c' t))
def Sce (c c' : Sc) : Prop := (∀ p, p < 6 → Sc.kd c' p = Sc.kd c p) ∧ (∀ p, p < 6 → Sc.vv c' p = Sc.vv c p) ∧ ∀ j, j < 24 → Sc.rw c' j = Sc.rw c j
theorem Sce.rf (c : Sc) : Sce c c := ⟨fun _ _ => rfl, fun _ _ => rfl, fun _ _ => rfl⟩
theorem Sce.sy {a b : Sc} (h : Sce a b) : Sce b a := ⟨fun p hp => (h.1 p hp).symm, fun p hp => (h.2.1 p hp).symm, fun j hj => (h.2.2 j hj).symm⟩
theorem Sce.tr {a b c : Sc} (h : Sce a b) (g : Sce b c) : Sce a c := ⟨fun p hp => (g.1 p hp).trans (h.1 p hp), fun p hp => (g.2.1 p hp).trans (h.2.1 p hp), fun j hj => (g.2.2 j hj).trans (h.2.2 j hj)⟩
theorem SKc.ch {c c' : Sc} {st : Fn} {l : Lg} (h : SKc c st l) (e : Sce c c') : SKc c' st l := by
  intro i cc t hi hc ht
  rcases h i cc t hi hc ht with q | q
  · exact Or.inl q
  · refine Or.inr ?_
    intro b hb
    rw [q b hb]
    have hm : ∀ f, i * 4 + f % 4 < 24 := fun f => by
      have := Nat.mod_lt f (show 0 < 4 by decide)
      omega
    unfold tb oc
    rw [e.1 i hi, e.2.1 i hi, e.2.2 _ (hm _), e.2.2 _ (hm _), e.2.2 _ (hm _)]
theorem SKc.fgt (c : Sc) (h : Hh) (st : Fn) (l : Lg) : SKc c (fgt h st) l := by
  intro i cc t hi hc ht
  exact Or.inl (fgt_eq h st _ (by unfold iy; omega))
theorem Uv.sce {a b : Us} (h : Uv a b) : Sce (Sf.c (Us.ah a)) (Sf.c (Us.ah b)) := ⟨fun p _ => by rw [h.2.1], fun p _ => by rw [h.2.2.1], fun j _ => by rw [h.2.2.2]⟩
theorem Sce.bec (a b : Sc) : Sce b (becR a b) := ⟨(becR_f a b).2.2.2.2.1, (becR_f a b).2.2.2.2.2.1, (becR_f a b).2.2.2.2.2.2.1⟩
theorem Uk.nw {a b : Us} (h : Uk a b) : Us.nw b = Us.nw a := congrArg (fun q => q.1.1) h
theorem Uk.kp {a b : Us} (h : Uk a b) : Us.kp b = Us.kp a := congrArg (fun q => q.1.2) h
theorem Uk.k0 {a b : Us} (h : Uk a b) : Us.k0 b = Us.k0 a := congrArg (fun q => q.2.1.1) h
theorem Uk.k1 {a b : Us} (h : Uk a b) : Us.k1 b = Us.k1 a := congrArg (fun q => q.2.1.2.1) h
theorem Uk.k2 {a b : Us} (h : Uk a b) : Us.k2 b = Us.k2 a := congrArg (fun q => q.2.1.2.2.1) h
theorem Uk.k3 {a b : Us} (h : Uk a b) : Us.k3 b = Us.k3 a := congrArg (fun q => q.2.1.2.2.2.1) h
theorem Uk.k4 {a b : Us} (h : Uk a b) : Us.k4 b = Us.k4 a := congrArg (fun q => q.2.1.2.2.2.2.1) h
theorem Uk.k5 {a b : Us} (h : Uk a b) : Us.k5 b = Us.k5 a := congrArg (fun q => q.2.1.2.2.2.2.2.1) h
theorem Uk.k6 {a b : Us} (h : Uk a b) : Us.k6 b = Us.k6 a := congrArg (fun q => q.2.1.2.2.2.2.2.2) h
theorem Uk.l0 {a b : Us} (h : Uk a b) : Us.l0 b = Us.l0 a := congrArg (fun q => q.2.2.1.1) h
theorem Uk.l1 {a b : Us} (h : Uk a b) : Us.l1 b = Us.l1 a := congrArg (fun q => q.2.2.1.2.1) h
theorem Uk.l2 {a b : Us} (h : Uk a b) : Us.l2 b = Us.l2 a := congrArg (fun q => q.2.2.1.2.2.1) h
theorem Uk.l3 {a b : Us} (h : Uk a b) : Us.l3 b = Us.l3 a := congrArg (fun q => q.2.2.1.2.2.2.1) h
theorem Uk.l4 {a b : Us} (h : Uk a b) : Us.l4 b = Us.l4 a := congrArg (fun q => q.2.2.1.2.2.2.2.1) h
theorem Uk.l5 {a b : Us} (h : Uk a b) : Us.l5 b = Us.l5 a := congrArg (fun q => q.2.2.1.2.2.2.2.2) h
theorem Uk.b0 {a b : Us} (h : Uk a b) : Us.b0 b = Us.b0 a := congrArg (fun q => q.2.2.2.1.1) h
theorem Uk.b1 {a b : Us} (h : Uk a b) : Us.b1 b = Us.b1 a := congrArg (fun q => q.2.2.2.1.2.1) h
theorem Uk.b2 {a b : Us} (h : Uk a b) : Us.b2 b = Us.b2 a := congrArg (fun q => q.2.2.2.1.2.2.1) h
theorem Uk.b3 {a b : Us} (h : Uk a b) : Us.b3 b = Us.b3 a := congrArg (fun q => q.2.2.2.1.2.2.2.1) h
theorem Uk.b4 {a b : Us} (h : Uk a b) : Us.b4 b = Us.b4 a := congrArg (fun q => q.2.2.2.1.2.2.2.2.1) h
theorem Uk.b5 {a b : Us} (h : Uk a b) : Us.b5 b = Us.b5 a := congrArg (fun q => q.2.2.2.1.2.2.2.2.2.1) h
theorem Uk.b6 {a b : Us} (h : Uk a b) : Us.b6 b = Us.b6 a := congrArg (fun q => q.2.2.2.1.2.2.2.2.2.2) h
theorem Uk.it {a b : Us} (h : Uk a b) : Us.it b = Us.it a := congrArg (fun q => q.2.2.2.2.1) h
theorem Uk.ac {a b : Us} (h : Uk a b) : Us.ac b = Us.ac a := congrArg (fun q => q.2.2.2.2.2) h
theorem Uk.hd {a b : Us} (h : Uk a b) (G : Nat) : hold b G = hold a G := by
  unfold hold
  rw [h.l0, h.l1, h.l2, h.l3, h.l4, h.l5]
theorem Uk.slots {a b : Us} (h : Uk a b) : slots b = slots a := funext fun k => h.hd (k + 1)

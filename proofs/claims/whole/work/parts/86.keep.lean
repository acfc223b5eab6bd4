/-! what tides leave alone: kinds' own numbers; all of now but what is known and the tide -/
def Wk (a b : Wt) : Prop := Wt.k0 b = Wt.k0 a ∧ Wt.k1 b = Wt.k1 a ∧ Wt.k2 b = Wt.k2 a ∧ Wt.k3 b = Wt.k3 a ∧ Wt.k4 b = Wt.k4 a ∧ Wt.k5 b = Wt.k5 a ∧ Wt.k6 b = Wt.k6 a
theorem Wk.rf (a : Wt) : Wk a a := ⟨rfl, rfl, rfl, rfl, rfl, rfl, rfl⟩
theorem Wk.tr {a b c : Wt} (h : Wk a b) (g : Wk b c) : Wk a c := by
  obtain ⟨h0, h1, h2, h3, h4, h5, h6⟩ := h
  obtain ⟨g0, g1, g2, g3, g4, g5, g6⟩ := g
  exact ⟨g0.trans h0, g1.trans h1, g2.trans h2, g3.trans h3, g4.trans h4, g5.trans h5, g6.trans h6⟩
theorem wk_look (s : Wt) (i f : Int32) : Wk s (m_X1_look s i f) := by
  unfold m_X1_look
  split
  · exact Wk.rf s
  · split <;> exact ⟨rfl, rfl, rfl, rfl, rfl, rfl, rfl⟩
theorem wk_weigh_l (s : Wt) (i : Int32) : ∀ (n : Nat) (fo fa : Int32) (m1 : Wt), Wk s m1 → Wk s (l_X1_weigh_6 s i n fo fa m1).2 := by
  intro n
  induction n with
  | zero => intro fo fa m1 h; exact Wk.rf s
  | succ n ih =>
    intro fo fa m1 h
    rw [q_X1_weigh_6]
    by_cases c : nI 8 ≤ fa
    · rw [if_pos c]; exact h
    · rw [if_neg c]
      have e := wk_look m1 i fa
      generalize m_X1_look m1 i fa = r at e ⊢
      simp only [bindv]
      have g := h.tr e
      exact ih _ _ _ g
theorem wk_setsOf (s : Wt) (i : Int32) : Wk s (m_X1_setsOf s i).2 := by
  have w : Wk s (m_X1_weigh s i).2 := wk_weigh_l s i _ _ _ _ (Wk.rf s)
  unfold m_X1_setsOf
  generalize m_X1_weigh s i = r at w ⊢
  simp only [bindv]
  (repeat' split) <;> first | exact Wk.rf s | exact w
theorem wk_goTide_l (s : Wt) (le : Int32) : ∀ (n : Nat) (a i : Int32) (m1 : Wt), Wk s m1 → Wk s (l_X7_goTide_6 s le n a i m1) := by
  intro n
  induction n with
  | zero => intro a i m1 h; exact Wk.rf s
  | succ n ih =>
    intro a i m1 h
    rw [q_X7_goTide_6]
    have e := wk_setsOf m1 i
    generalize m_X1_setsOf m1 i = r at e ⊢
    have g := h.tr e
    simp only [bindv]
    (repeat' split) <;> first | exact h | exact ih _ _ _ g | exact ih _ _ _ h
theorem wk_goTide (s : Wt) (le : Int32) : Wk s (m_X7_goTide s le) := wk_goTide_l s le _ _ _ _ (Wk.rf s)
/-- all the same but what tides change in now -/
def Nk (a b : Us) : Prop := (Us.kp b = Us.kp a ∧ Us.ah b = Us.ah a ∧ Us.it b = Us.it a ∧ Us.ac b = Us.ac a) ∧ (Us.l0 b = Us.l0 a ∧ Us.l1 b = Us.l1 a ∧ Us.l2 b = Us.l2 a ∧ Us.l3 b = Us.l3 a ∧ Us.l4 b = Us.l4 a ∧ Us.l5 b = Us.l5 a) ∧
  (Us.k0 b = Us.k0 a ∧ Us.k1 b = Us.k1 a ∧ Us.k2 b = Us.k2 a ∧ Us.k3 b = Us.k3 a ∧ Us.k4 b = Us.k4 a ∧ Us.k5 b = Us.k5 a ∧ Us.k6 b = Us.k6 a) ∧ (Us.b0 b = Us.b0 a ∧ Us.b1 b = Us.b1 a ∧ Us.b2 b = Us.b2 a ∧ Us.b3 b = Us.b3 a ∧ Us.b4 b = Us.b4 a ∧ Us.b5 b = Us.b5 a ∧ Us.b6 b = Us.b6 a) ∧
  (Sf.tp (Us.nw b) = Sf.tp (Us.nw a) ∧ Sf.se (Us.nw b) = Sf.se (Us.nw a) ∧ Sf.pl (Us.nw b) = Sf.pl (Us.nw a) ∧ Sf.bk (Us.nw b) = Sf.bk (Us.nw a)) ∧
  (Sc.kd (Sf.c (Us.nw b)) = Sc.kd (Sf.c (Us.nw a)) ∧ Sc.vv (Sf.c (Us.nw b)) = Sc.vv (Sf.c (Us.nw a)) ∧ Sc.rw (Sf.c (Us.nw b)) = Sc.rw (Sf.c (Us.nw a)) ∧ Sc.le (Sf.c (Us.nw b)) = Sc.le (Sf.c (Us.nw a)) ∧ Sc.sz (Sf.c (Us.nw b)) = Sc.sz (Sf.c (Us.nw a)) ∧ Sc.ou (Sf.c (Us.nw b)) = Sc.ou (Sf.c (Us.nw a)) ∧ Sc.sg (Sf.c (Us.nw b)) = Sc.sg (Sf.c (Us.nw a)) ∧ Sc.lg (Sf.c (Us.nw b)) = Sc.lg (Sf.c (Us.nw a)))
theorem Nk.rf (a : Us) : Nk a a := ⟨⟨rfl, rfl, rfl, rfl⟩, ⟨rfl, rfl, rfl, rfl, rfl, rfl⟩, ⟨rfl, rfl, rfl, rfl, rfl, rfl, rfl⟩, ⟨rfl, rfl, rfl, rfl, rfl, rfl, rfl⟩, ⟨rfl, rfl, rfl, rfl⟩, ⟨rfl, rfl, rfl, rfl, rfl, rfl, rfl, rfl⟩⟩
theorem nk_go_l (s : Us) (n : Int32) (L : Lg) : ∀ (x : Nat) (i : Int32) (m1 : Us), Nk s m1 → Nk s (l_X11_go_p1_8 s n L x i m1) := by
  intro x
  induction x with
  | zero => intro i m1 h; exact Nk.rf s
  | succ x ih =>
    intro i m1 h
    rw [q_X11_go_p1_8]
    by_cases c : n ≤ i
    · rw [if_pos c]; exact h
    · rw [if_neg c]
      have tw := (gl_goTide (s := wtN m1 L) (le := m_X7_lessonNow (Sc.le (Wt.c (wtN m1 L))) (Sc.ti (Wt.c (wtN m1 L)))) rfl).2.1
      have wk := wk_goTide (wtN m1 L) (m_X7_lessonNow (Sc.le (Wt.c (wtN m1 L))) (Sc.ti (Wt.c (wtN m1 L))))
      have key : ∀ r : Wt, Tw (wtN m1 L) r → Wk (wtN m1 L) r → Nk s (Us.kp m1 |> fun _ => ((Wt.c r, Sf.tp (Us.nw m1), Sf.se (Us.nw m1), Sf.pl (Us.nw m1), Sf.bk (Us.nw m1)), Us.kp m1, Us.ah m1, Wt.h r, Wt.k0 r, Wt.k1 r, Wt.k2 r, Wt.k3 r, Wt.k4 r, Wt.k5 r, Wt.k6 r, Wt.st r, Us.l0 m1, Us.l1 m1, Us.l2 m1, Us.l3 m1, Us.l4 m1, Us.l5 m1, Us.b0 m1, Us.b1 m1, Us.b2 m1, Us.b3 m1, Us.b4 m1, Us.b5 m1, Us.b6 m1, Us.it m1, Us.ac m1)) := by
        intro r a b
        obtain ⟨a1, a2, a3, a4, a5, a6, a7, a8, a9⟩ := a
        obtain ⟨b0, b1, b2, b3, b4, b5, b6⟩ := b
        obtain ⟨h1, h2, ⟨k0, k1, k2, k3, k4, k5, k6⟩, h4, h5, ⟨c1, c2, c3, c4, c5, c6, c7, c8⟩⟩ := h
        exact ⟨h1, h2, ⟨b0.trans k0, b1.trans k1, b2.trans k2, b3.trans k3, b4.trans k4, b5.trans k5, b6.trans k6⟩, h4, h5, ⟨a2.trans c1, a3.trans c2, a4.trans c3, a5.trans c4, a6.trans c5, a7.trans c6, a8.trans c7, a9.trans c8⟩⟩
      rw [bindv]
      exact ih _ _ (key _ tw wk)
theorem nk_go (s : Us) (n : Int32) : Nk s (m_X11_go_p1 s n) := by
  unfold m_X11_go_p1
  rw [bindv]
  exact nk_go_l s n _ _ _ _ (Nk.rf s)

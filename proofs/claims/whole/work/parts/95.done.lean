/-! plans done; what to teach -/
theorem Uv.tr {a b c : Us} (h : Uv a b) (g : Uv b c) : Uv a c := ⟨h.1.tr g.1, g.2.1.trans h.2.1, g.2.2.1.trans h.2.2.1, g.2.2.2.trans h.2.2.2⟩
theorem outB_g (o : Int32) {p : Nat} (hp : p < 8) : outB o p = o.toBitVec.getLsbD p := by
  unfold outB m_X7_isOut
  rw [and1, gb_shrg o hp]
  cases o.toBitVec.getLsbD p <;> rfl
theorem pog_0 : ∀ i, i < 6 → ∀ p, p < 8 → ((nI 1 <<< (nI i &&& 31)) ^^^ (-nI 1)).toBitVec.getLsbD p = decide (p ≠ i) := by decide +kernel
theorem pog_1 : ∀ i, i < 6 → ∀ p, p < 8 → (nI 1 <<< (nI i &&& 31)).toBitVec.getLsbD p = decide (p = i) := by decide +kernel
theorem pot_eq (c : Sc) {i : Nat} (hi : i < 6) (d : Bool) : ∃ o, m_X7_putOut c (nI i) (b2i d) = (Sc.kd c, Sc.vv c, Sc.kn c, Sc.rw c, Sc.le c, Sc.sz c, o, Sc.ti c, Sc.sg c, Sc.lg c) ∧ ∀ p, p < 6 → outB o p = if p = i then d else outB (Sc.ou c) p := by
  unfold m_X7_putOut
  dsimp only [bindv]
  cases d
  · refine ⟨_, rfl, fun p hp => ?_⟩
    rw [if_pos (show b2i false = 0 from rfl), outB_g _ (by omega), outB_g _ (by omega), gb_and, pog_0 i hi p (by omega)]
    by_cases z : p = i <;> simp [z]
  · refine ⟨_, rfl, fun p hp => ?_⟩
    rw [if_neg (show ¬ b2i true = 0 by decide), outB_g _ (by omega), outB_g _ (by omega), gb_or, pog_1 i hi p (by omega)]
    by_cases z : p = i <;> simp [z]
/-- one is out, or in -/
theorem Sy.ou {W W' : Wt} {m m' : Ms} {U T : Nat} {X : Nat → Nat} (h : Sy W m U T X) {i : Nat} {d : Bool} (hi : i < U) (o1 : ∀ p, p < 6 → outB (Sc.ou (Wt.c W')) p = if p = i then d else outB (Sc.ou (Wt.c W)) p) (c1 : Sc.kn (Wt.c W') = Sc.kn (Wt.c W)) (c2 : Sc.kd (Wt.c W') = Sc.kd (Wt.c W)) (c3 : Sc.vv (Wt.c W') = Sc.vv (Wt.c W)) (c4 : Sc.rw (Wt.c W') = Sc.rw (Wt.c W)) (c5 : Sc.le (Wt.c W') = Sc.le (Wt.c W)) (c6 : Sc.sz (Wt.c W') = Sc.sz (Wt.c W)) (c8 : Sc.ti (Wt.c W') = Sc.ti (Wt.c W)) (e2 : Wt.l W' = Wt.l W) (e3 : Wt.st W' = Wt.st W) (f1 : Ms.s m' = upd (Ms.s m) (7 + i) (b2i d)) (f2 : Ms.su m' = Ms.su m) (f3 : Ms.lf m' = Ms.lf m) (f4 : Ms.lk m' = Ms.lk m) : Sy W' m' U T X := by
  obtain ⟨⟨u1, u2, u3⟩, ⟨t1, t2, t3⟩, hX, sr, so, ck, sk, ⟨R, r1, r2, r3⟩, ⟨p1, p2⟩, hh, hk, les⟩ := h
  have s13 : ∀ j, 13 ≤ j → Ms.s m' j = Ms.s m j := fun j hj => by rw [f1, pk_un (by omega)]
  have e23 : Ms.s m' (nI 23).toNatClampNeg = Ms.s m (nI 23).toNatClampNeg := s13 _ (by rw [c23]; decide)
  have tl : ∀ (b : Nat) (z : Int32), 13 ≤ b → b < 900 → m_X12_tellsOf (Ms.s m') (nI b) z = m_X12_tellsOf (Ms.s m) (nI b) z := by
    intro b z hb hb2
    unfold m_X12_tellsOf
    rw [e23]
    by_cases c : Ms.s m (nI 23).toNatClampNeg = (-nI 1)
    · rw [if_pos c, if_pos c]
    · rw [if_neg c, if_neg c]
      apply s13
      obtain ⟨q, hq, e⟩ := vp_in_of (hh c) (by decide)
      rw [e, nI_add, nI_clamp (by omega)]
      omega
  refine ⟨⟨u1, by rw [c6]; exact u2, by rw [s13 17 (by decide)]; exact u3⟩, ⟨t1, by rw [c8]; exact t2, by rw [f1, pk_un (by omega)]; exact t3⟩, fun j hj => ?_, ?_, ?_, ?_, ?_, ⟨R, r1, by rw [e2]; exact r2, by rw [tl 212 _ (by decide) (by decide)]; exact r3⟩, ⟨by rw [tl 217 _ (by decide) (by decide), e2]; exact p1, by rw [e2]; exact p2⟩, ?_, by rw [c6, c2]; exact hk, fun k hk4 => ?_⟩
  · rw [c1, f1, pk_un (by omega)]
    exact hX j hj
  · intro j hj
    obtain ⟨a1, a2, a3, a4, a5, a6, a7⟩ := sr j hj
    rw [s13 (24 + j) (by omega), s13 (30 + j) (by omega), c2, c3, c4]
    refine ⟨a1, a2, fun k hk4 => by rw [s13 _ (by omega)]; exact a3 k hk4, ?_, a5, a6, a7⟩
    rw [f1, o1 j (by omega)]
    by_cases z : j = i
    · subst z; rw [pk_us, if_pos rfl]
    · rw [pk_un (by omega), if_neg z]; exact a4
  · rw [e2]; exact so.kp (a := 13) hh s13 (by decide)
  · rw [e2]; exact ck.kp (fun j hj => s13 j (by omega)) f2 f3 f4
  · intro j c t hj hc ht
    rw [e3]
    rcases sk j c t hj hc ht with q | q
    · exact Or.inl q
    · exact Or.inr (by rw [e2]; exact q.ch c2 c3 c4)
  · unfold hH at *
    rw [e23]; exact hh
  · obtain ⟨j, j1, j2, j3⟩ := les k hk4
    exact ⟨j, j1, by rw [c5]; exact j2, by rw [s13 (13 + k) (by omega)]; exact j3⟩
theorem goes1 (m : Ms) : m_X12_goesOn m (nI 1) = m_X12_goes m := by
  unfold m_X12_goesOn
  rw [show (nI 1).toNatClampNeg + 1 = 1 + 1 by rw [nI_clamp (by decide)], q_X12_goesOn_2, if_neg (by decide)]
  dsimp only [bindv]
  rw [q_X12_goesOn_2, if_pos (by decide)]
/-- what a row of a plan may be -/
theorem plan_is {f : Fn} {U : Nat} (hU : U ≤ 6) (h : f 17 = nI U) {w n : Int32} (q : ¬ m_X12_isPlan f w n = 0) : w = 0 ∨ (∃ i, i < U ∧ n = nI i ∧ (w = nI 1 ∨ w = nI 2)) ∨ (w = nI 3 ∧ ∃ i g, i < U ∧ g < 8 ∧ n / nI 10 = nI i ∧ n - n / nI 10 * nI 10 = nI g) := by
  have arm : ¬ (if w = nI 3 then (if n < 0 then nI 0 else (if m_X12_isUrchin f (n / nI 10) = 0 then nI 0 else (if m_X12_isFact (n - n / nI 10 * nI 10) = 0 then nI 0 else nI 1))) else nI 0) = 0 → (w = nI 3 ∧ ∃ i g, i < U ∧ g < 8 ∧ n / nI 10 = nI i ∧ n - n / nI 10 * nI 10 = nI g) := by
    intro a
    by_cases b0 : w = nI 3
    · rw [if_pos b0] at a
      by_cases b1 : n < 0
      · rw [if_pos b1] at a; exact absurd rfl a
      rw [if_neg b1] at a
      by_cases b2 : m_X12_isUrchin f (n / nI 10) = 0
      · rw [if_pos b2] at a; exact absurd rfl a
      rw [if_neg b2] at a
      by_cases b3 : m_X12_isFact (n - n / nI 10 * nI 10) = 0
      · rw [if_pos b3] at a; exact absurd rfl a
      rw [isU hU h] at b2
      obtain ⟨i, hi, ei⟩ := has_ex b2 hU
      obtain ⟨g, hg, eg⟩ := fact_ex b3
      exact ⟨b0, i, g, hi, hg, ei, eg⟩
    · rw [if_neg b0] at a; exact absurd rfl a
  unfold m_X12_isPlan at q
  by_cases a1 : w = 0
  · exact Or.inl a1
  rw [if_neg a1] at q
  by_cases a2 : m_X12_in w (nI 1) (nI 2) = 0
  · rw [if_pos a2] at q; exact Or.inr (Or.inr (arm q))
  rw [if_neg a2] at q
  by_cases a4 : m_X12_isUrchin f n = 0
  · rw [if_pos a4] at q; exact Or.inr (Or.inr (arm q))
  rw [isU hU h] at a4
  obtain ⟨i, hi, ei⟩ := has_ex a4 hU
  refine Or.inr (Or.inl ⟨i, hi, ei, ?_⟩)
  unfold m_X12_in at a2
  by_cases b1 : w < nI 1
  · rw [if_pos b1] at a2; exact absurd rfl a2
  rw [if_neg b1] at a2
  by_cases b2 : nI 2 < w
  · rw [if_pos b2] at a2; exact absurd rfl a2
  rw [Int32.lt_iff_toInt_lt] at b1 b2
  have t1 : (nI 1).toInt = 1 := rfl
  have t2 : (nI 2).toInt = 2 := rfl
  by_cases y : w.toInt = 1
  · exact Or.inl (Int32.toInt_inj.mp (by rw [y, t1]))
  · exact Or.inr (Int32.toInt_inj.mp (by rw [t2]; omega))
/-- a row of a plan is done, by both -/
theorem does_x {s : Us} {m : Ms} {L : Lg} {U T : Nat} {X : Nat → Nat} {w n : Int32} (hL : holdL (Sc.lg (Sf.c (Us.nw s))) (Us.l0 s) (Us.l1 s) (Us.l2 s) (Us.l3 s) (Us.l4 s) (Us.l5 s) = L) (h : Sy (wtA s L) m U T X) (hT : T + 1 ≤ 1000000) (q : w = 0 ∨ (∃ i, i < U ∧ n = nI i ∧ (w = nI 1 ∨ w = nI 2)) ∨ (w = nI 3 ∧ ∃ i g, i < U ∧ g < 8 ∧ n / nI 10 = nI i ∧ n - n / nI 10 * nI 10 = nI g)) : (∃ T' X', T' ≤ T + 1 ∧ Sy (wtA (m_X11_doPlanned s w n) L) (m_X12_does m w n) U T' X') ∧ Uv s (m_X11_doPlanned s w n) ∧ Ru m (m_X12_does m w n) := by
  have u6 := h.1.1
  rcases q with rfl | ⟨i, hi, rfl, hw⟩ | ⟨rfl, i, g, hi, hg, e1, e2⟩
  · obtain ⟨X', gy⟩ := goA (s := s) (n := nI 1) rfl (by decide) hL h hT
    rw [goes1] at gy
    have a1 : m_X11_doPlanned s 0 n = m_X11_go_p13 s (nI 1) := by
      unfold m_X11_doPlanned
      rw [if_pos rfl]
      rfl
    have a2 : m_X12_does m 0 n = m_X12_goes m := by
      unfold m_X12_does
      rw [if_pos (show (0 : Int32) = nI 0 from rfl)]
      rfl
    rw [a1, a2]
    exact ⟨⟨T + 1, X', Nat.le_refl _, gy⟩, ut_go s _, h.rgo⟩
  · have e7 : (nI 7 + nI i).toNatClampNeg = 7 + i := ck2 (by omega)
    rcases hw with rfl | rfl
    · obtain ⟨o, o1, o2⟩ := pot_eq (Sf.c (Us.ah s)) (i := i) (by omega) true
      have a1 : m_X11_doPlanned s (nI 1) (nI i) = (Us.nw s, Us.kp s, ((Sc.kd (Sf.c (Us.ah s)), Sc.vv (Sf.c (Us.ah s)), Sc.kn (Sf.c (Us.ah s)), Sc.rw (Sf.c (Us.ah s)), Sc.le (Sf.c (Us.ah s)), Sc.sz (Sf.c (Us.ah s)), o, Sc.ti (Sf.c (Us.ah s)), Sc.sg (Sf.c (Us.ah s)), Sc.lg (Sf.c (Us.ah s))), Sf.tp (Us.ah s), Sf.se (Us.ah s), Sf.pl (Us.ah s), Sf.bk (Us.ah s)), Us.h s, Us.k0 s, Us.k1 s, Us.k2 s, Us.k3 s, Us.k4 s, Us.k5 s, Us.k6 s, Us.st s, Us.l0 s, Us.l1 s, Us.l2 s, Us.l3 s, Us.l4 s, Us.l5 s, Us.b0 s, Us.b1 s, Us.b2 s, Us.b3 s, Us.b4 s, Us.b5 s, Us.b6 s, Us.it s, Us.ac s) := by
        unfold m_X11_doPlanned
        rw [if_neg (show ¬ nI 1 = 0 by decide), if_neg (show ¬ nI 1 = nI 3 by decide), if_pos rfl, show nI 1 = b2i true from rfl, o1]
        rfl
      have a2 : m_X12_does m (nI 1) (nI i) = (Ms.th m, (upd (Ms.s m) (7 + i) (b2i true)), Ms.im m, Ms.fr m, Ms.hi m, Ms.ac m, Ms.sp m, Ms.en m, Ms.wr m, Ms.op m, Ms.bb m, Ms.tr m, Ms.su m, Ms.lf m, Ms.lk m, Ms.nx m, Ms.bo m, Ms.ra m, Ms.ki m, Ms.nu m, Ms.tv m) := by
        unfold m_X12_does
        rw [if_neg (show ¬ nI 1 = nI 0 by decide), if_pos rfl, e7]
        rfl
      rw [a1, a2]
      exact ⟨⟨T, X, Nat.le_succ T, h.ou hi o2 rfl rfl rfl rfl rfl rfl rfl rfl rfl rfl rfl rfl rfl⟩, ⟨rfl, rfl, rfl, rfl⟩, Ru.up (Ru.rf m) (fun j hj => by rw [pk_un (by omega)])⟩
    · obtain ⟨o, o1, o2⟩ := pot_eq (Sf.c (Us.ah s)) (i := i) (by omega) false
      have a1 : m_X11_doPlanned s (nI 2) (nI i) = (Us.nw s, Us.kp s, ((Sc.kd (Sf.c (Us.ah s)), Sc.vv (Sf.c (Us.ah s)), Sc.kn (Sf.c (Us.ah s)), Sc.rw (Sf.c (Us.ah s)), Sc.le (Sf.c (Us.ah s)), Sc.sz (Sf.c (Us.ah s)), o, Sc.ti (Sf.c (Us.ah s)), Sc.sg (Sf.c (Us.ah s)), Sc.lg (Sf.c (Us.ah s))), Sf.tp (Us.ah s), Sf.se (Us.ah s), Sf.pl (Us.ah s), Sf.bk (Us.ah s)), Us.h s, Us.k0 s, Us.k1 s, Us.k2 s, Us.k3 s, Us.k4 s, Us.k5 s, Us.k6 s, Us.st s, Us.l0 s, Us.l1 s, Us.l2 s, Us.l3 s, Us.l4 s, Us.l5 s, Us.b0 s, Us.b1 s, Us.b2 s, Us.b3 s, Us.b4 s, Us.b5 s, Us.b6 s, Us.it s, Us.ac s) := by
        unfold m_X11_doPlanned
        rw [if_neg (show ¬ nI 2 = 0 by decide), if_neg (show ¬ nI 2 = nI 3 by decide), if_neg (show ¬ nI 2 = nI 1 by decide), show nI 0 = b2i false from rfl, o1]
        rfl
      have a2 : m_X12_does m (nI 2) (nI i) = (Ms.th m, (upd (Ms.s m) (7 + i) (b2i false)), Ms.im m, Ms.fr m, Ms.hi m, Ms.ac m, Ms.sp m, Ms.en m, Ms.wr m, Ms.op m, Ms.bb m, Ms.tr m, Ms.su m, Ms.lf m, Ms.lk m, Ms.nx m, Ms.bo m, Ms.ra m, Ms.ki m, Ms.nu m, Ms.tv m) := by
        unfold m_X12_does
        rw [if_neg (show ¬ nI 2 = nI 0 by decide), if_neg (show ¬ nI 2 = nI 1 by decide), if_pos rfl, e7]
        rfl
      rw [a1, a2]
      exact ⟨⟨T, X, Nat.le_succ T, h.ou hi o2 rfl rfl rfl rfl rfl rfl rfl rfl rfl rfl rfl rfl rfl⟩, ⟨rfl, rfl, rfl, rfl⟩, Ru.up (Ru.rf m) (fun j hj => by rw [pk_un (by omega)])⟩
  · obtain ⟨x1, x2, x3⟩ := h.2.2.1 i hi
    obtain ⟨y1, y2⟩ := or_256 (X i) x1 g hg
    generalize (if (X i).testBit g then X i else X i + 2 ^ g) = y at y1 y2
    have x2' : Sc.kn (Sf.c (Us.ah s)) i = nI (X i) := x2
    have hz : Sc.sz (Sf.c (Us.ah s)) = nI U := h.1.2.1
    have e1' : (nI 1 + nI i).toNatClampNeg = 1 + i := ck2 (by omega)
    have tf : m_X7_tellFact (Sf.c (Us.ah s)) (nI i) (nI g) = (Sc.kd (Sf.c (Us.ah s)), Sc.vv (Sf.c (Us.ah s)), upd (Sc.kn (Sf.c (Us.ah s))) i (nI y), Sc.rw (Sf.c (Us.ah s)), Sc.le (Sf.c (Us.ah s)), Sc.sz (Sf.c (Us.ah s)), Sc.ou (Sf.c (Us.ah s)), Sc.ti (Sf.c (Us.ah s)), Sc.sg (Sf.c (Us.ah s)), Sc.lg (Sf.c (Us.ah s))) := by
      unfold m_X7_tellFact
      rw [hz, if_neg (has_1 hi u6), nI_clamp (by omega), x2', y2, ← hz]
    have a1 : m_X11_doPlanned s (nI 3) n = (Us.nw s, Us.kp s, ((Sc.kd (Sf.c (Us.ah s)), Sc.vv (Sf.c (Us.ah s)), upd (Sc.kn (Sf.c (Us.ah s))) i (nI y), Sc.rw (Sf.c (Us.ah s)), Sc.le (Sf.c (Us.ah s)), Sc.sz (Sf.c (Us.ah s)), Sc.ou (Sf.c (Us.ah s)), Sc.ti (Sf.c (Us.ah s)), Sc.sg (Sf.c (Us.ah s)), Sc.lg (Sf.c (Us.ah s))), Sf.tp (Us.ah s), Sf.se (Us.ah s), Sf.pl (Us.ah s), Sf.bk (Us.ah s)), Us.h s, Us.k0 s, Us.k1 s, Us.k2 s, Us.k3 s, Us.k4 s, Us.k5 s, Us.k6 s, Us.st s, Us.l0 s, Us.l1 s, Us.l2 s, Us.l3 s, Us.l4 s, Us.l5 s, Us.b0 s, Us.b1 s, Us.b2 s, Us.b3 s, Us.b4 s, Us.b5 s, Us.b6 s, Us.it s, Us.ac s) := by
      unfold m_X11_doPlanned
      rw [if_neg (show ¬ nI 3 = 0 by decide), if_pos rfl, e2, e1, tf]
      rfl
    have a2 : m_X12_does m (nI 3) n = (Ms.th m, (upd (Ms.s m) (1 + i) (nI y)), Ms.im m, Ms.fr m, Ms.hi m, Ms.ac m, Ms.sp m, Ms.en m, Ms.wr m, Ms.op m, Ms.bb m, Ms.tr m, Ms.su m, Ms.lf m, Ms.lk m, Ms.nx m, Ms.bo m, Ms.ra m, Ms.ki m, Ms.nu m, Ms.tv m) := by
      unfold m_X12_does
      rw [if_neg (show ¬ nI 3 = nI 0 by decide), if_neg (show ¬ nI 3 = nI 1 by decide), if_neg (show ¬ nI 3 = nI 2 by decide), e2, e1, e1', x3, y2]
    rw [a1, a2]
    exact ⟨⟨T, _, Nat.le_succ T, h.kn hi y1 rfl rfl rfl rfl rfl rfl rfl rfl rfl rfl rfl rfl rfl rfl⟩, ⟨rfl, rfl, rfl, rfl⟩, Ru.up (Ru.rf m) (fun j hj => by rw [pk_un (by omega)])⟩
theorem done_l {s0 : Us} {m0 : Ms} {G U T : Nat} (hs : RelS (Ms.s m0) (Us.nw s0) (slots s0) U T G) {w : Int32} (hp : ¬ m_X12_in w (nI 0) (nI 1) = 0) {N : Nat} (n1 : N ≤ 8) (n2 : Tb.n (Sf.pl (Us.nw s0)) = nI N) (n3 : Ms.s m0 20 = nI N) (n5 : ∀ j, j < N → ∃ w n, Tb.ce (Sf.pl (Us.nw s0)) (4 * j) = w ∧ Tb.ce (Sf.pl (Us.nw s0)) (4 * j + 1) = n ∧ Ms.s m0 (80 + j) = w ∧ Ms.s m0 (88 + j) = n ∧ ¬ m_X12_isPlan (Ms.s m0) w n = 0) (ss s1 : Us) (mm r2 r3 mk : Ms) (us : Uk s0 s1) (ek : Ms.s mk = Ms.s m0) : ∀ (x k : Nat) (i : Int32) (sa : Us) (ma : Ms) (T' : Nat) (X : Nat → Nat), k ≤ N → x + k = 9 → i = nI k → Uv s1 sa → Ru mk ma → Sy (wtA sa (hold s0 G)) ma U T' X → T' ≤ T + k → (l_X11_done_29 ss w x i sa).1 = (l_X12_done_21 mm w r2 r3 x i ma).1 ∧ Uv s1 (l_X11_done_29 ss w x i sa).2 ∧ SK (wtA (l_X11_done_29 ss w x i sa).2 (hold s0 G)) ∧ ∃ m2, (l_X12_done_21 mm w r2 r3 x i ma).2 = m_X12_goesBack m2 ∧ CK m2 (Lg.st (hold s0 G)) (Lg.sz (hold s0 G)) ∧ Ru mk m2 := by
  have u6 := hs.1.1
  have t9 := hs.2.1.1
  intro x
  induction x with
  | zero => intro k i sa ma T' X h1 h2; omega
  | succ x ih =>
    intro k i sa ma T' X h1 h2 h3 uv ru sy hT
    have ua := us.tr uv.1
    have eq : ∀ j, 17 ≤ j → Ms.s ma j = Ms.s m0 j := fun j hj => (ru.1.1 j hj).trans (by rw [ek])
    rw [q_X11_done_29, q_X12_done_21, ua.nw, n2, c20, eq 20 (by decide), n3]
    by_cases c : nI N ≤ i
    · rw [if_pos c, if_pos c]
      have al := sy.all
      have he := sy.held
      have al' : m_X7_all (Sc.kn (Sf.c (Us.ah sa))) (Sc.sz (Sf.c (Us.ah sa))) (Sc.ou (Sf.c (Us.ah sa))) = m_X12_knownByAny (Ms.s ma) := al
      have he' : m_X7_held (Sc.kn (Sf.c (Us.ah sa))) (Sc.sz (Sf.c (Us.ah sa))) (Sc.ou (Sf.c (Us.ah sa))) = m_X12_heldByAll (Ms.s ma) := he
      by_cases z : w = 0
      · rw [if_pos z, if_pos z]
        exact ⟨al', uv, sy.sk, ma, rfl, sy.ck, ru⟩
      · rw [if_neg z, if_neg z]
        exact ⟨he', uv, sy.sk, ma, rfl, sy.ck, ru⟩
    · rw [if_neg c, if_neg c]
      rw [h3, nI_leI (by omega) (by omega)] at c
      obtain ⟨a, b, p1, p2, p3, p4, p5⟩ := n5 k (by omega)
      have cl0 : m_X8_cell (Tb.ce (Sf.pl (Us.nw s0))) (nI N) i (nI 0) = a := by rw [h3, cell_at (by omega) (by omega) (by omega)]; exact p1
      have cl1 : m_X8_cell (Tb.ce (Sf.pl (Us.nw s0))) (nI N) i (nI 1) = b := by rw [h3, cell_at (by omega) (by omega) (by omega)]; exact p2
      have e80 : (nI 80 + i).toNatClampNeg = 80 + k := by rw [h3]; exact ck2 (by omega)
      have e88 : (nI 88 + i).toNatClampNeg = 88 + k := by rw [h3]; exact ck2 (by omega)
      rw [cl0, cl1, e80, e88, eq _ (by omega), eq _ (by omega), p3, p4]
      obtain ⟨⟨T2, X2, hT2, sy2⟩, uv2, ru2⟩ := does_x (w := a) (n := b) (by rw [Uk.hL ua, hs.2.2.1.2.1]; exact holdL_eq hs.G5) sy (by omega) (plan_is u6 hs.1.2.2 p5)
      rw [bindv, bindv]
      exact ih (k + 1) _ _ _ T2 X2 (by omega) (by omega) (by rw [h3]; exact nI_add k 1) (uv.tr uv2) (ru.tr ru2) sy2 (by omega)
theorem a_done {s : Us} {m : Ms} {K : Nat} (h : Rel s m K) (hK : K < 2 ^ 30) (w : Int32) : Ans (m_X11_done s w).1 (m_X12_done m w).1 (m_X11_done s w).2 (m_X12_done m w).2 K := by
  have hh := h
  obtain ⟨lk, U, T, G, hs, h0, ht, hi, ha⟩ := h
  obtain ⟨e1, e2, e3, e4⟩ := hh.start hK (Lg.st (hold s G)) (Lg.sz (hold s G))
  unfold m_X11_done m_X12_done
  rw [isP]
  by_cases c : m_X12_in w (nI 0) (nI 1) = 0
  · rw [if_pos c, if_pos c]; exact ⟨rfl, K, by omega, hh⟩
  rw [if_neg c, if_neg c]
  generalize m_X12_looksAnew m = m1 at e1 e2 e3 e4 ⊢
  rw [bindv, bindv]
  have hs1 : RelS (Ms.s m1) (Us.nw s) (slots s) U T G := by rw [e1]; exact hs
  have sy : Sy (wtA (aheadS s) (hold s G)) (m_X12_keeps m1) U T (fun p => (Sc.kn (Sf.c (Us.nw s)) p).toNatClampNeg) := Sy.ah hs h0 (by rw [keeps_s]; exact e1) e2.keeps rfl (aheadS_c s _) (by rw [wtA_st, aheadS_st]; exact SKc.fgt _ _ _ _)
  obtain ⟨N, p1, p2, p3, p4, p5⟩ := hs1.2.2.2.2.2.2.2.2.1
  have key := done_l hs1 c p1 p2 p3 p5 s (aheadS s) m m1 (m_X12_keeps m1) (m_X12_keeps m1) (Uk.ahead s) (keeps_s m1) 9 0 (nI 0) (aheadS s) (m_X12_keeps m1) T _ (Nat.zero_le _) rfl rfl (Uv.rf _) (Ru.rf _) sy (Nat.le_refl T)
  obtain ⟨k1, k2, k3, m2, k4, k5, k6⟩ := key
  obtain ⟨b1, b2, b3⟩ := k6.back k5
  rw [← k4] at b1 b3
  unfold aheadS at k1 k2
  exact ⟨k1, K + 1, by omega, hh.same ((Uk.ahead s).tr (by unfold aheadS; exact k2.1)) (e4.tr b1) (e3.lf b3)⟩

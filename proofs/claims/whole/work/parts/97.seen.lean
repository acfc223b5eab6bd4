/-! what one can have known; how firm -/
def SeR (f : Fn) (ce : Fn) (z : Int32) (U N : Nat) : Prop := N ≤ 5 ∧ z = nI N ∧ f 19 = nI N ∧ ∀ j, j < N → ∃ u t g b, u < U ∧ t ≤ 12 ∧ g < 8 ∧ b ≤ 1 ∧ ce (4 * j) = nI u ∧ ce (4 * j + 1) = nI t ∧ ce (4 * j + 2) = nI g ∧ ce (4 * j + 3) = nI b ∧ f (60 + j) = nI u ∧ f (65 + j) = nI t ∧ f (70 + j) = nI g ∧ f (75 + j) = nI b
theorem asn_0 (f : Fn) (n : Int32) : ∀ (y : Nat) (i : Int32), l_X12_isAsSeen_4 f n y (nI 0) i = nI 0 := by
  intro y
  induction y with
  | zero => intro i; rfl
  | succ y ih =>
    intro i
    rw [q_X12_isAsSeen_4]
    split
    · rfl
    · rw [if_pos (show nI 0 = 0 from rfl)]
      unfold bindv
      exact ih _
theorem as_seen_l {c : Sc} {f f0 ce : Fn} {z : Int32} {U N : Nat} (hU : U ≤ 6) (se : SeR f0 ce z U N) (hf : ∀ j, 17 ≤ j → f j = f0 j) (hz : Sc.sz c = nI U) (hk : ∀ p, p < U → f (1 + p) = Sc.kn c p) (n : Int32) : ∀ (x y k : Nat) (i : Int32), k ≤ N → x + k = 9 → y + k = 6 → i = nI k → l_X7_isAsSeen_2 (Sc.kn c) (Sc.sz c) ce z n x i = l_X12_isAsSeen_4 f n y (nI 1) i := by
  obtain ⟨n1, n2, n3, n5⟩ := se
  intro x
  induction x with
  | zero => intro y k i h1 h2; omega
  | succ x ih =>
    intro y k i h1 h2 h3 h4
    obtain ⟨y, rfl⟩ : ∃ w, y = w + 1 := ⟨y - 1, by omega⟩
    rw [q_X7_isAsSeen_2, q_X12_isAsSeen_4, n2, c19, hf 19 (by decide), n3]
    by_cases c0 : nI N ≤ i
    · rw [if_pos c0, if_pos c0]
    rw [if_neg c0, if_neg c0]
    rw [h4, nI_leI (by omega) (by omega)] at c0
    obtain ⟨u, t, g, b, a1, a2, a3, a4, b1, b2, b3, b4, d1, d2, d3, d4⟩ := n5 k (by omega)
    have cl0 : m_X8_cell ce (nI N) i (nI 0) = nI u := by rw [h4, cell_at (by omega) (by omega) (by omega)]; exact b1
    have cl1 : m_X8_cell ce (nI N) i (nI 1) = nI t := by rw [h4, cell_at (by omega) (by omega) (by omega)]; exact b2
    have cl2 : m_X8_cell ce (nI N) i (nI 2) = nI g := by rw [h4, cell_at (by omega) (by omega) (by omega)]; exact b3
    have cl3 : m_X8_cell ce (nI N) i (nI 3) = nI b := by rw [h4, cell_at (by omega) (by omega) (by omega)]; exact b4
    have e60 : (nI 60 + i).toNatClampNeg = 60 + k := by rw [h4]; exact ck2 (by omega)
    have e65 : (nI 65 + i).toNatClampNeg = 65 + k := by rw [h4]; exact ck2 (by omega)
    have e70 : (nI 70 + i).toNatClampNeg = 70 + k := by rw [h4]; exact ck2 (by omega)
    have e75 : (nI 75 + i).toNatClampNeg = 75 + k := by rw [h4]; exact ck2 (by omega)
    have nx := ih y (k + 1) (i + nI 1) (by omega) (by omega) (by omega) (by rw [h4]; exact nI_add k 1)
    rw [n2] at nx
    rw [cl0, cl1, cl2, cl3, e60, e65, e70, e75, hf (60 + k) (by omega), hf (65 + k) (by omega), hf (70 + k) (by omega), hf (75 + k) (by omega), d1, d2, d3, d4, ck2 (by omega), hk u a1, nI_clamp (by omega), if_neg (show ¬ nI 1 = 0 by decide)]
    rw [show m_X7_has (Sc.sz c) (nI u) = m_X7_has (nI U) (nI u) by rw [hz], if_neg (has_1 a1 hU)]
    by_cases e : nI t = n
    · rw [if_pos e, if_pos e]
      by_cases w : (Sc.kn c u >>> (nI g &&& 31)) &&& nI 1 = nI b
      · rw [if_pos w, if_pos w]
        exact nx
      · rw [if_neg w, if_neg w]
        unfold bindv
        exact (asn_0 f n y _).symm
    · rw [if_neg e, if_neg e]
      exact nx
theorem as_seen {W : Wt} {m : Ms} {f0 ce : Fn} {z : Int32} {U T N : Nat} {X : Nat → Nat} (h : Sy W m U T X) (se : SeR f0 ce z U N) (hf : ∀ j, 17 ≤ j → Ms.s m j = f0 j) (n : Int32) : m_X7_isAsSeen (Sc.kn (Wt.c W)) (Sc.sz (Wt.c W)) ce z n = m_X12_isAsSeen (Ms.s m) n :=
  as_seen_l h.1.1 se hf h.1.2.1 (fun p hp => (h.2.2.1 p hp).2.2.trans (h.2.2.1 p hp).2.1.symm) n 9 6 0 (nI 0) (Nat.zero_le _) rfl rfl rfl
theorem as_bl {a b : Fn} {z y n : Int32} : ∀ (x : Nat) (i : Int32), l_X7_isAsSeen_2 a z b y n x i = nI 0 ∨ l_X7_isAsSeen_2 a z b y n x i = nI 1 := by
  intro x
  induction x with
  | zero => intro i; exact Or.inl rfl
  | succ x ih =>
    intro i
    rw [q_X7_isAsSeen_2]
    (repeat' split) <;> first | exact Or.inr rfl | exact Or.inl rfl | exact ih _
theorem last_l {ce : Fn} {z : Int32} {N : Nat} (hN : N ≤ 5) (hz : z = nI N) (hc : ∀ j, j < N → ∃ t, t ≤ 12 ∧ ce (4 * j + 1) = nI t) : ∀ (x k a : Nat) (i : Int32), k ≤ N → x + k = 9 → i = nI k → a ≤ 12 → (∀ j t, j < k → t ≤ 12 → ce (4 * j + 1) = nI t → t ≤ a) → ∃ q, q ≤ 12 ∧ l_X7_lastSeen_4 ce z x (nI a) i = nI q ∧ ∀ j t, j < N → t ≤ 12 → ce (4 * j + 1) = nI t → t ≤ q := by
  intro x
  induction x with
  | zero => intro k a i h1 h2; omega
  | succ x ih =>
    intro k a i h1 h2 h3 h4 h5
    rw [q_X7_lastSeen_4, hz]
    by_cases c : nI N ≤ i
    · rw [if_pos c]
      rw [h3, nI_leI (by omega) (by omega)] at c
      exact ⟨a, h4, rfl, fun j t hj ht e => h5 j t (by omega) ht e⟩
    rw [if_neg c]
    rw [h3, nI_leI (by omega) (by omega)] at c
    obtain ⟨t, ht, et⟩ := hc k (by omega)
    have cl : m_X8_cell ce (nI N) i (nI 1) = nI t := by rw [h3, cell_at (by omega) (by omega) (by omega)]; exact et
    have mx : m_J9_max_7cf53 (nI a) (nI t) = nI (max a t) := by
      unfold m_J9_max_7cf53
      by_cases w : nI a < nI t
      · rw [if_pos w]
        rw [nI_ltI (by omega) (by omega)] at w
        rw [Nat.max_eq_right (by omega)]
      · rw [if_neg w]
        rw [nI_ltI (by omega) (by omega)] at w
        rw [Nat.max_eq_left (by omega)]
    rw [cl, mx, ← hz]
    refine ih (k + 1) (max a t) _ (by omega) (by omega) (by rw [h3]; exact nI_add k 1) (by omega) ?_
    intro j t2 hj ht2 e
    by_cases y : j < k
    · have := h5 j t2 y ht2 e; omega
    · have : j = k := by omega
      subst this
      rw [et] at e
      have := nI_inj e (by omega) (by omega)
      omega
theorem last_eq {f ce : Fn} {z : Int32} {U N : Nat} (se : SeR f ce z U N) : ∃ q, q ≤ 12 ∧ m_X7_lastSeen ce z = nI q ∧ ∀ j t, j < N → t ≤ 12 → ce (4 * j + 1) = nI t → t ≤ q := by
  obtain ⟨n1, n2, n3, n5⟩ := se
  refine last_l n1 n2 (fun j hj => ?_) 9 0 0 (nI 0) (Nat.zero_le _) rfl rfl (by decide) (fun j t hj => by omega)
  obtain ⟨u, t, g, b, a1, a2, a3, a4, b1, b2, b3⟩ := n5 j hj
  exact ⟨t, a2, b2⟩
/-- no tide behind the last is wrong -/
theorem seen_late {f f0 ce : Fn} {z : Int32} {U N q : Nat} (se : SeR f0 ce z U N) (hf : ∀ j, 17 ≤ j → f j = f0 j) (hq : ∀ j t, j < N → t ≤ 12 → ce (4 * j + 1) = nI t → t ≤ q) {n : Nat} (hn : q < n) (hn2 : n < 100) : ∀ (y k : Nat) (i : Int32), k ≤ N → y + k = 6 → i = nI k → l_X12_isAsSeen_4 f (nI n) y (nI 1) i = nI 1 := by
  obtain ⟨n1, n2, n3, n5⟩ := se
  intro y
  induction y with
  | zero => intro k i h1 h2; omega
  | succ y ih =>
    intro k i h1 h2 h4
    rw [q_X12_isAsSeen_4, c19, hf 19 (by decide), n3]
    by_cases c0 : nI N ≤ i
    · rw [if_pos c0]
    rw [if_neg c0]
    rw [h4, nI_leI (by omega) (by omega)] at c0
    obtain ⟨u, t, g, b, a1, a2, a3, a4, b1, b2, b3, b4, d1, d2, d3, d4⟩ := n5 k (by omega)
    have e65 : (nI 65 + i).toNatClampNeg = 65 + k := by rw [h4]; exact ck2 (by omega)
    have lt := hq k t (by omega) a2 b2
    rw [if_neg (show ¬ nI 1 = 0 by decide), e65, hf (65 + k) (by omega), d2, if_neg (fun e => by have := nI_inj e (by omega) (by omega); omega)]
    unfold bindv
    exact ih (k + 1) _ (by omega) (by omega) (by rw [h4]; exact nI_add k 1)
/-- the check goes on alone -/
theorem alone_l {f0 ce : Fn} {z : Int32} {U N q T : Nat} {L : Lg} (se : SeR f0 ce z U N) (hq : ∀ j t, j < N → t ≤ 12 → ce (4 * j + 1) = nI t → t ≤ q) (hT : T ≤ 9999) (mm : Ms) : ∀ (y k : Nat) (i : Int32) (ma : Ms) (W : Wt) (X : Nat → Nat), k ≤ 13 → y + k = 14 → i = nI k → q < k → Sy W ma U (T + k) X → Wt.l W = L → (∀ j, 17 ≤ j → Ms.s ma j = f0 j) → (l_X12_areAsSeen_4 mm y (nI 1) i ma).1 = nI 1 ∧ ∃ m2, (l_X12_areAsSeen_4 mm y (nI 1) i ma).2 = m_X12_goesBack m2 ∧ CK m2 (Lg.st L) (Lg.sz L) ∧ Ru ma m2 := by
  intro y
  induction y with
  | zero => intro k i ma W X h1 h2; omega
  | succ y ih =>
    intro k i ma W X h1 h2 h3 h4 sy hl hf
    rw [q_X12_areAsSeen_4]
    by_cases c : nI 12 < i
    · rw [if_pos c]
      exact ⟨rfl, ma, rfl, by rw [← hl]; exact sy.ck, Ru.rf ma⟩
    rw [if_neg c, if_neg (show ¬ nI 1 = 0 by decide), bindv]
    rw [h3, nI_ltI (by decide) (by omega)] at c
    obtain ⟨X', gs⟩ := sy.goes (by omega)
    have ru := sy.rgo
    have sl : m_X12_isAsSeen (Ms.s ma) i = nI 1 := by
      rw [h3]
      exact seen_late se hf hq h4 (by omega) 6 0 (nI 0) (Nat.zero_le _) rfl rfl
    rw [sl]
    have tl := (gl_goTide (s := W) (le := m_X7_lessonNow (Sc.le (Wt.c W)) (Sc.ti (Wt.c W))) rfl).1
    obtain ⟨w1, m2, w2, w3, w4⟩ := ih (k + 1) (i + nI 1) (m_X12_goes ma) _ X' (by omega) (by omega) (by rw [h3]; exact nI_add k 1) (by omega) gs (tl.trans hl) (fun j hj => (ru.1.1 j hj).trans (hf j hj))
    exact ⟨w1, m2, w2, w3, ru.tr w4⟩
/-- where the two stand: the check is a tide ahead but at first -/
def Pv (k : Nat) (sa : Us) (mk ma : Ms) (L : Lg) (U T : Nat) : Prop := (k = 0 ∧ ma = mk ∧ ∃ X, Sy (wtA sa L) ma U T X) ∨ (1 ≤ k ∧ ∃ mb X, ma = m_X12_goes mb ∧ Ru mk mb ∧ Sy (wtA sa L) mb U (T + k - 1) X)
theorem fails {mm : Ms} {ma : Ms} {y : Nat} {i : Int32} (hy : 1 ≤ y) : l_X12_areAsSeen_4 mm y (nI 0) i ma = (nI 0, m_X12_goesBack ma) := by
  obtain ⟨y, rfl⟩ : ∃ w, y = w + 1 := ⟨y - 1, by omega⟩
  rw [q_X12_areAsSeen_4]
  split
  · rfl
  · rw [if_pos (show nI 0 = 0 from rfl)]; rfl
theorem seen_xl {f0 : Fn} {s0 : Us} {U N T : Nat} {L : Lg} (se : SeR f0 (Tb.ce (Sf.se (Us.nw s0))) (Tb.n (Sf.se (Us.nw s0))) U N) (hT : T ≤ 9999) (ss sb : Us) (us : Us.nw ss = Us.nw s0) (ub : Us.nw sb = Us.nw s0) (mm mk : Ms) (ek : ∀ j, 17 ≤ j → Ms.s mk j = f0 j) : ∀ (x k : Nat) (i : Int32) (sa : Us) (ma : Ms), k ≤ 13 → x + k = 14 → i = nI k → Uv sb sa → Pv k sa mk ma L U T → HX (l_X11_seenIsSo_15 ss L x i sa) (l_X12_areAsSeen_4 mm x (nI 1) i ma) mk L sb := by
  obtain ⟨q, q1, q2, q3⟩ := last_eq se
  intro x
  induction x with
  | zero => intro k i sa ma h1 h2; omega
  | succ x ih =>
    intro k i sa ma h1 h2 h3 uv pv
    have una : Us.nw sa = Us.nw s0 := (Uk.nw uv.1).trans ub
    rw [q_X11_seenIsSo_15, us, q2]
    by_cases c : nI q < i
    · rw [if_pos c]
      rw [h3, nI_ltI (by omega) (by omega)] at c
      rcases pv with ⟨z, -⟩ | ⟨z, mb, X, e, ru, sy⟩
      · omega
      · obtain ⟨X', gs⟩ := sy.goes (by omega)
        have rg := sy.rgo
        rw [← e] at gs rg
        have tl := (gl_goTide (s := wtA sa L) (le := m_X7_lessonNow (Sc.le (Wt.c (wtA sa L))) (Sc.ti (Wt.c (wtA sa L)))) rfl).1
        rw [show T + k - 1 + 1 = T + k by omega] at gs
        obtain ⟨w1, m2, w2, w3, w4⟩ := alone_l se q3 hT mm (x + 1) k i ma _ X' h1 h2 h3 c gs tl (fun j hj => ((ru.tr rg).1.1 j hj).trans (ek j hj))
        exact ⟨w1.symm, uv, sy.sk, m2, w2, w3, (ru.tr rg).tr w4⟩
    · rw [if_neg c]
      rw [h3, nI_ltI (by omega) (by omega)] at c
      have n12 : ¬ nI 12 < i := by rw [h3, nI_ltI (by decide) (by omega)]; omega
      rw [show Tb.ce (Sf.se (Us.nw sa)) = Tb.ce (Sf.se (Us.nw s0)) by rw [una], show Tb.n (Sf.se (Us.nw sa)) = Tb.n (Sf.se (Us.nw s0)) by rw [una], q_X12_areAsSeen_4, if_neg n12, if_neg (show ¬ nI 1 = 0 by decide)]
      simp only [bindv]
      rcases pv with ⟨z, em, X, sy⟩ | ⟨z, mb, X, e, ru, sy⟩
      · subst z
        subst em
        rw [if_pos (by rw [h3]; decide)]
        have as := as_seen sy se ek i
        have as' : m_X7_isAsSeen (Sc.kn (Sf.c (Us.ah sa))) (Sc.sz (Sf.c (Us.ah sa))) (Tb.ce (Sf.se (Us.nw s0))) (Tb.n (Sf.se (Us.nw s0))) i = m_X12_isAsSeen (Ms.s ma) i := as
        rw [← as']
        have rg := sy.rgo
        rcases as_bl (a := Sc.kn (Sf.c (Us.ah sa))) (z := Sc.sz (Sf.c (Us.ah sa))) (b := Tb.ce (Sf.se (Us.nw s0))) (y := Tb.n (Sf.se (Us.nw s0))) (n := i) 9 (nI 0) with w | w
        · have w' : m_X7_isAsSeen (Sc.kn (Sf.c (Us.ah sa))) (Sc.sz (Sf.c (Us.ah sa))) (Tb.ce (Sf.se (Us.nw s0))) (Tb.n (Sf.se (Us.nw s0))) i = nI 0 := w
          rw [w', if_pos (show nI 0 = 0 from rfl), fails (by omega)]
          obtain ⟨X', gs⟩ := sy.goes (by omega)
          have ck := gs.ck
          rw [(gl_goTide (s := wtA sa L) (le := m_X7_lessonNow (Sc.le (Wt.c (wtA sa L))) (Sc.ti (Wt.c (wtA sa L)))) rfl).1] at ck
          exact ⟨rfl, uv, sy.sk, m_X12_goes ma, rfl, ck, rg⟩
        · have w' : m_X7_isAsSeen (Sc.kn (Sf.c (Us.ah sa))) (Sc.sz (Sf.c (Us.ah sa))) (Tb.ce (Sf.se (Us.nw s0))) (Tb.n (Sf.se (Us.nw s0))) i = nI 1 := w
          rw [w', if_neg (show ¬ nI 1 = 0 by decide)]
          exact ih (0 + 1) _ _ _ (by omega) (by omega) (by rw [h3]; exact nI_add 0 1) uv (Or.inr ⟨by omega, ma, X, rfl, Ru.rf ma, sy⟩)
      · rw [if_neg (by rw [h3, show (0 : Int32) = nI 0 from rfl, nI_leI (by omega) (by omega)]; omega)]
        obtain ⟨X', gs⟩ := sy.goes (by omega)
        have rg := sy.rgo
        have uv2 := Uv.g (L := L) (le := m_X7_lessonNow (Sc.le (Sf.c (Us.ah sa))) (Sc.ti (Sf.c (Us.ah sa)))) rfl uv
        rw [← e] at gs rg
        have tw := gl_goTide (s := wtA sa L) (le := m_X7_lessonNow (Sc.le (Wt.c (wtA sa L))) (Sc.ti (Wt.c (wtA sa L)))) rfl
        have as := as_seen gs se (fun j hj => ((ru.tr rg).1.1 j hj).trans (ek j hj)) i
        have et := wt_eta tw.1
        have hr : m_X7_goTide (Sf.c (Us.ah sa), Us.h sa, Us.k0 sa, Us.k1 sa, Us.k2 sa, Us.k3 sa, Us.k4 sa, Us.k5 sa, Us.k6 sa, Us.st sa, L) (m_X7_lessonNow (Sc.le (Sf.c (Us.ah sa))) (Sc.ti (Sf.c (Us.ah sa)))) = m_X7_goTide (wtA sa L) (m_X7_lessonNow (Sc.le (Wt.c (wtA sa L))) (Sc.ti (Wt.c (wtA sa L)))) := rfl
        have hr2 : m_X7_goTide (wtA sa L) (m_X7_lessonNow (Sc.le (Sf.c (Us.ah sa))) (Sc.ti (Sf.c (Us.ah sa)))) = m_X7_goTide (wtA sa L) (m_X7_lessonNow (Sc.le (Wt.c (wtA sa L))) (Sc.ti (Wt.c (wtA sa L)))) := rfl
        rw [hr]
        rw [hr2] at uv2
        generalize m_X7_goTide (wtA sa L) (m_X7_lessonNow (Sc.le (Wt.c (wtA sa L))) (Sc.ti (Wt.c (wtA sa L)))) = r at gs as uv2 et ⊢
        rw [← et] at gs
        rw [show T + k - 1 + 1 = T + (k + 1) - 1 by omega] at gs
        rw [← as]
        rcases as_bl (a := Sc.kn (Wt.c r)) (z := Sc.sz (Wt.c r)) (b := Tb.ce (Sf.se (Us.nw s0))) (y := Tb.n (Sf.se (Us.nw s0))) (n := i) 9 (nI 0) with w | w
        · have w' : m_X7_isAsSeen (Sc.kn (Wt.c r)) (Sc.sz (Wt.c r)) (Tb.ce (Sf.se (Us.nw s0))) (Tb.n (Sf.se (Us.nw s0))) i = nI 0 := w
          rw [w', if_pos (show nI 0 = 0 from rfl), fails (by omega)]
          have gs2 := gs
          obtain ⟨X2, g2⟩ := gs2.goes (by omega)
          have ck := g2.ck
          have tl2 := (gl_goTide (le := m_X7_lessonNow (Sc.le (Wt.c (Wt.c r, Wt.h r, Wt.k0 r, Wt.k1 r, Wt.k2 r, Wt.k3 r, Wt.k4 r, Wt.k5 r, Wt.k6 r, Wt.st r, Wt.l (wtA sa L)))) (Sc.ti (Wt.c (Wt.c r, Wt.h r, Wt.k0 r, Wt.k1 r, Wt.k2 r, Wt.k3 r, Wt.k4 r, Wt.k5 r, Wt.k6 r, Wt.st r, Wt.l (wtA sa L))))) (s := (Wt.c r, Wt.h r, Wt.k0 r, Wt.k1 r, Wt.k2 r, Wt.k3 r, Wt.k4 r, Wt.k5 r, Wt.k6 r, Wt.st r, Wt.l (wtA sa L))) rfl).1
          rw [tl2] at ck
          exact ⟨rfl, uv2, gs.sk, m_X12_goes ma, rfl, ck, (ru.tr rg).tr gs.rgo⟩
        · have w' : m_X7_isAsSeen (Sc.kn (Wt.c r)) (Sc.sz (Wt.c r)) (Tb.ce (Sf.se (Us.nw s0))) (Tb.n (Sf.se (Us.nw s0))) i = nI 1 := w
          rw [w', if_neg (show ¬ nI 1 = 0 by decide)]
          exact ih (k + 1) _ _ _ (by omega) (by omega) (by rw [h3]; exact nI_add k 1) uv2 (Or.inr ⟨by omega, ma, X', rfl, ru.tr rg, gs⟩)
theorem seen_x {f0 : Fn} {s0 : Us} {U N T : Nat} {L : Lg} (se : SeR f0 (Tb.ce (Sf.se (Us.nw s0))) (Tb.n (Sf.se (Us.nw s0))) U N) (hT : T ≤ 9999) {s : Us} (us : Us.nw s = Us.nw s0) {mk : Ms} (ek : ∀ j, 17 ≤ j → Ms.s mk j = f0 j) (hL : holdL (Sc.lg (Sf.c (Us.nw s))) (Us.l0 s) (Us.l1 s) (Us.l2 s) (Us.l3 s) (Us.l4 s) (Us.l5 s) = L) {X : Nat → Nat} (sy : Sy (wtA s L) mk U T X) : HX (m_X11_seenIsSo s) (m_X12_areAsSeen mk) mk L s := by
  unfold m_X11_seenIsSo m_X12_areAsSeen
  rw [hL, bindv]
  exact seen_xl se hT s s us us mk mk ek 14 0 (nI 0) s mk (by decide) rfl rfl (Uv.rf s) (Or.inl ⟨rfl, rfl, X, sy⟩)
theorem RelS.se {f : Fn} {sf : Sf} {A : Nat → Lg} {U T G : Nat} (h : RelS f sf A U T G) : ∃ N, SeR f (Tb.ce (Sf.se sf)) (Tb.n (Sf.se sf)) U N := by
  obtain ⟨u, t, g, kn, ro, le, tp, se, pl, bk, sq, ou, lr⟩ := h
  obtain ⟨N, n1, n2, n3, n4, n5⟩ := se
  exact ⟨N, n1, n2, n3, n5⟩
theorem knew_l {s0 : Us} {m0 : Ms} {G U T N : Nat} (hs : RelS (Ms.s m0) (Us.nw s0) (slots s0) U T G) (h0 : L0 (Us.l0 s0)) (se : SeR (Ms.s m0) (Tb.ce (Sf.se (Us.nw s0))) (Tb.n (Sf.se (Us.nw s0))) U N) {i : Nat} (hi : i < U) (w : Int32) (ss : Us) (mm : Ms) (emm : Ms.s mm = Ms.s m0) : ∀ (x : Nat) (ma le v : Int32) (s1 : Us) (m1 : Ms), 1 ≤ x → x ≤ 257 → v = nI x - nI 2 → Iv s0 m0 (hold s0 G) s1 m1 → (l_X11_knew_38 ss (nI i) w x ma le v s1).1 = (l_X12_fitting_22 mm (nI 1 + nI i) (nI 255) w x ma le v m1).1 ∧ Iv s0 m0 (hold s0 G) (l_X11_knew_38 ss (nI i) w x ma le v s1).2 (l_X12_fitting_22 mm (nI 1 + nI i) (nI 255) w x ma le v m1).2 := by
  have u6 := hs.1.1
  have t9 := hs.2.1.1
  intro x
  induction x with
  | zero => intro ma le v s1 m1 h1; omega
  | succ x ih =>
    intro ma le v s1 m1 h1 h2 h3 iv
    have es := iv.s
    have e1i : (nI 1 + nI i).toNatClampNeg = 1 + i := ck2 (by omega)
    rw [q_X11_knew_38, q_X12_fitting_22, e1i, emm]
    by_cases c : v < 0
    · rw [if_pos c, if_pos c]
      have same : (Ms.th m1, (upd (Ms.s m1) (1 + i) (Ms.s m0 (1 + i))), Ms.im m1, Ms.fr m1, Ms.hi m1, Ms.ac m1, Ms.sp m1, Ms.en m1, Ms.wr m1, Ms.op m1, Ms.bb m1, Ms.tr m1, Ms.su m1, Ms.lf m1, Ms.lk m1, Ms.nx m1, Ms.bo m1, Ms.ra m1, Ms.ki m1, Ms.nu m1, Ms.tv m1) = m1 := by
        have : upd (Ms.s m1) (1 + i) (Ms.s m0 (1 + i)) = Ms.s m1 := funext fun j => by
          by_cases z : j = 1 + i
          · rw [z, pk_us, es]
          · rw [pk_un z]
        rw [this]; rfl
      rw [same]
      by_cases z : w = 0
      · rw [if_pos z, if_pos z]; exact ⟨rfl, iv⟩
      · rw [if_neg z, if_neg z]; exact ⟨rfl, iv⟩
    rw [if_neg c, if_neg c]
    simp only [bindv]
    rw [if_neg (show ¬ nI 255 = nI 9 by decide)]
    have hx : 1 ≤ x := by
      by_cases z : x = 0
      · subst z
        exact absurd (show v < 0 by rw [h3]; decide) c
      · omega
    obtain ⟨y, rfl⟩ : ∃ y, x = y + 1 := ⟨x - 1, by omega⟩
    have hv : v = nI y := by rw [h3, pk_sub (by omega)]; rfl
    have hv2 : v + (-nI 1) = nI (y + 1) - nI 2 := by
      rw [hv]
      by_cases z : y = 0
      · subst z; decide
      · rw [show (nI y + -nI 1) = nI y - nI 1 from (Int32.sub_eq_add_neg _ _).symm, pk_sub (by omega), pk_sub (by omega)]; congr 1
    obtain ⟨⟨X, sy⟩, sc⟩ := Iv.kn hs h0 iv hi (y := y) (by omega)
    have hx := seen_x se t9 (s := toldS s1 (knB s1 i y)) (by rw [(Uk.told s1 _).nw, iv.1.nw]) (mk := upM (m_X12_keeps m1) i y) (fun j hj => by
      show upd (Ms.s (m_X12_keeps m1)) (1 + i) (nI y) j = _
      rw [pk_un (by omega), keeps_s, es]) (Iv.hL hs iv _) sy
    have eC : (Us.nw s1, Us.kp s1, ((Sc.kd (becR (Sf.c (Us.ah s1)) (Sf.c (Us.nw s1))), Sc.vv (becR (Sf.c (Us.ah s1)) (Sf.c (Us.nw s1))), upd (Sc.kn (becR (Sf.c (Us.ah s1)) (Sf.c (Us.nw s1)))) (nI i).toNatClampNeg v, Sc.rw (becR (Sf.c (Us.ah s1)) (Sf.c (Us.nw s1))), Sc.le (becR (Sf.c (Us.ah s1)) (Sf.c (Us.nw s1))), Sc.sz (becR (Sf.c (Us.ah s1)) (Sf.c (Us.nw s1))), Sc.ou (becR (Sf.c (Us.ah s1)) (Sf.c (Us.nw s1))), Sc.ti (becR (Sf.c (Us.ah s1)) (Sf.c (Us.nw s1))), Sc.sg (becR (Sf.c (Us.ah s1)) (Sf.c (Us.nw s1))), Sc.lg (becR (Sf.c (Us.ah s1)) (Sf.c (Us.nw s1)))), Sf.tp (Us.ah s1), Sf.se (Us.ah s1), Sf.pl (Us.ah s1), Sf.bk (Us.ah s1)), Us.h s1, Us.k0 s1, Us.k1 s1, Us.k2 s1, Us.k3 s1, Us.k4 s1, Us.k5 s1, Us.k6 s1, Us.st s1, Us.l0 s1, Us.l1 s1, Us.l2 s1, Us.l3 s1, Us.l4 s1, Us.l5 s1, Us.b0 s1, Us.b1 s1, Us.b2 s1, Us.b3 s1, Us.b4 s1, Us.b5 s1, Us.b6 s1, Us.it s1, Us.ac s1) = toldS s1 (knB s1 i y) := by
      rw [hv, nI_clamp (by omega)]
      rfl
    have eM : (Ms.th (m_X12_keeps m1), (upd (Ms.s (m_X12_keeps m1)) (1 + i) v), Ms.im (m_X12_keeps m1), Ms.fr (m_X12_keeps m1), Ms.hi (m_X12_keeps m1), Ms.ac (m_X12_keeps m1), Ms.sp (m_X12_keeps m1), Ms.en (m_X12_keeps m1), Ms.wr (m_X12_keeps m1), Ms.op (m_X12_keeps m1), Ms.bb (m_X12_keeps m1), Ms.tr (m_X12_keeps m1), Ms.su (m_X12_keeps m1), Ms.lf (m_X12_keeps m1), Ms.lk (m_X12_keeps m1), Ms.nx (m_X12_keeps m1), Ms.bo (m_X12_keeps m1), Ms.ra (m_X12_keeps m1), Ms.ki (m_X12_keeps m1), Ms.nu (m_X12_keeps m1), Ms.tv (m_X12_keeps m1)) = upM (m_X12_keeps m1) i y := by
      rw [hv]; rfl
    rw [eC, eM]
    generalize m_X11_seenIsSo (toldS s1 (knB s1 i y)) = r at hx ⊢
    generalize m_X12_areAsSeen (upM (m_X12_keeps m1) i y) = q at hx ⊢
    obtain ⟨t1, uv, t3, m2, t4, t5, t6⟩ := hx
    have ru : Ru (m_X12_keeps m1) m2 := Ru.tr (Ru.up (Ru.rf _) (fun j hj => by rw [pk_un (by omega)])) t6
    have iv2 := iv.on uv sc t3 ru t5
    rw [← t4] at iv2
    rw [← t1]
    by_cases z : r.1 = 0
    · rw [if_pos z, if_pos z, if_pos z, show ma + nI 0 = ma from Int32.add_zero ma]
      exact ih _ _ _ _ _ (by omega) (by omega) hv2 iv2
    · rw [if_neg z, if_neg z, if_neg z]
      exact ih _ _ _ _ _ (by omega) (by omega) hv2 iv2
theorem a_knew {s : Us} {m : Ms} {K : Nat} (h : Rel s m K) (hK : K < 2 ^ 30) (p w : Int32) : Ans (m_X11_knew s p w).1 (m_X12_knew m p w).1 (m_X11_knew s p w).2 (m_X12_knew m p w).2 K := by
  have hh := h
  obtain ⟨lk, U, T, G, hs, h0, ht, hi, ha⟩ := h
  obtain ⟨e1, e2, e3, e4⟩ := hh.start hK (Lg.st (hold s G)) (Lg.sz (hold s G))
  unfold m_X11_knew m_X12_knew
  rw [isU hs.1.1 hs.1.2.2, show m_X7_has (Sc.sz (Sf.c (Us.nw s))) p = m_X7_has (nI U) p by rw [hs.1.2.1], isP]
  by_cases c1 : m_X7_has (nI U) p = 0
  · rw [if_pos c1, if_pos c1]; exact ⟨rfl, K, by omega, hh⟩
  rw [if_neg c1, if_neg c1]
  obtain ⟨i, hi2, rfl⟩ := has_ex c1 hs.1.1
  by_cases c2 : m_X12_in w (nI 0) (nI 1) = 0
  · rw [if_pos c2, if_pos c2]; exact ⟨rfl, K, by omega, hh⟩
  rw [if_neg c2, if_neg c2]
  have eL : (Ms.th m, Ms.s m, Ms.im m, Ms.fr m, Ms.hi m, Ms.ac m, Ms.sp m, Ms.en m, Ms.wr m, Ms.op m, Ms.bb m, Ms.tr m, Ms.su m, Ms.lf m, (Ms.lk m + nI 1), Ms.nx m, Ms.bo m, Ms.ra m, Ms.ki m, Ms.nu m, Ms.tv m) = m_X12_looksAnew m := rfl
  unfold m_X12_fitting
  rw [eL]
  generalize m_X12_looksAnew m = m1 at e1 e2 e3 e4 ⊢
  have hs1 : RelS (Ms.s m1) (Us.nw s) (slots s) U T G := by rw [e1]; exact hs
  obtain ⟨N, se⟩ := hs1.se
  have key := knew_l hs1 h0 se hi2 w s m e1.symm 257 (nI 0) (-nI 5) (nI 255) (fgtS s) m1 (by decide) (by decide) (by decide) (Iv.start e2)
  simp only [bindv]
  exact ⟨key.1, K + 1, by omega, key.2.rel hh e4 e3⟩
/-! how firm -/
theorem RelS.vv {f : Fn} {sf : Sf} {A : Nat → Lg} {U T G i y : Nat} (h : RelS f sf A U T G) (hi : i < U) (hy : y ≤ 9) : RelS (upd f (30 + i) (nI y)) ((Sc.kd (Sf.c sf), upd (Sc.vv (Sf.c sf)) i (nI y), Sc.kn (Sf.c sf), Sc.rw (Sf.c sf), Sc.le (Sf.c sf), Sc.sz (Sf.c sf), Sc.ou (Sf.c sf), Sc.ti (Sf.c sf), Sc.sg (Sf.c sf), Sc.lg (Sf.c sf)), Sf.tp sf, Sf.se sf, Sf.pl sf, Sf.bk sf) A U T G := by
  obtain ⟨u, t, g, kn, ro, le, tp, se, pl, bk, sq, ou, lr⟩ := h
  have u6 := u.1
  have e : ∀ j, j ≠ 30 + i → upd f (30 + i) (nI y) j = f j := fun j hj => pk_un hj
  refine ⟨⟨u.1, u.2.1, (e 17 (by omega)).trans u.2.2⟩, ⟨t.1, t.2.1, (e 0 (by omega)).trans t.2.2⟩, ⟨g.1, g.2.1, (e 18 (by omega)).trans g.2.2.1, (e 23 (by omega)).trans g.2.2.2⟩, r4_cf u.1 kn (fun j a b => e j (by omega)), fun p hp => ?_, r6_cf le (fun j a b => e j (by omega)), r7_cf tp (e 22 (by omega)) (fun j a b => e j (by omega)), r8_cf se (Nat.le_refl U) (e 19 (by omega)) (fun j a b => e j (by omega)), r9_cf pl (fun w n q => by rw [plan_cf (e 17 (by omega))]; exact q) (e 20 (by omega)) (fun j a b => e j (by omega)), r10_cf bk (Nat.le_refl U) (e 21 (by omega)) (fun j a b => e j (by omega)), sq, ou, r13_cf g.1 lr (fun j a => e j (by omega))⟩
  obtain ⟨s1, s2, s3, s4, s5, s6, s7⟩ := ro p hp
  refine ⟨(e _ (by omega)).trans s1, ?_, fun k2 hk2 => (e _ (by omega)).trans (s3 k2 hk2), (e _ (by omega)).trans s4, s5, ?_, s7⟩
  · show upd f (30 + i) (nI y) (30 + p) = upd (Sc.vv (Sf.c sf)) i (nI y) p
    by_cases z : p = i
    · subst z; rw [pk_us, pk_us]
    · rw [pk_un (by omega), pk_un z]; exact s2
  · show ∃ v, v ≤ 9 ∧ upd (Sc.vv (Sf.c sf)) i (nI y) p = nI v
    by_cases z : p = i
    · subst z; rw [pk_us]; exact ⟨y, hy, rfl⟩
    · rw [pk_un z]; exact s6
def vvB (s : Us) (k y : Nat) : Sc := (Sc.kd (becR (Sf.c (Us.ah s)) (Sf.c (Us.nw s))), upd (Sc.vv (becR (Sf.c (Us.ah s)) (Sf.c (Us.nw s)))) k (nI y), Sc.kn (becR (Sf.c (Us.ah s)) (Sf.c (Us.nw s))), Sc.rw (becR (Sf.c (Us.ah s)) (Sf.c (Us.nw s))), Sc.le (becR (Sf.c (Us.ah s)) (Sf.c (Us.nw s))), Sc.sz (becR (Sf.c (Us.ah s)) (Sf.c (Us.nw s))), Sc.ou (becR (Sf.c (Us.ah s)) (Sf.c (Us.nw s))), Sc.ti (becR (Sf.c (Us.ah s)) (Sf.c (Us.nw s))), Sc.sg (becR (Sf.c (Us.ah s)) (Sf.c (Us.nw s))), Sc.lg (becR (Sf.c (Us.ah s)) (Sf.c (Us.nw s))))
def fgtT (s : Us) (c : Sc) : Us := (Us.nw s, Us.kp s, (c, Sf.tp (Us.ah s), Sf.se (Us.ah s), Sf.pl (Us.ah s), Sf.bk (Us.ah s)), Us.h s, Us.k0 s, Us.k1 s, Us.k2 s, Us.k3 s, Us.k4 s, Us.k5 s, Us.k6 s, fgt (Us.h s) (Us.st s), Us.l0 s, Us.l1 s, Us.l2 s, Us.l3 s, Us.l4 s, Us.l5 s, Us.b0 s, Us.b1 s, Us.b2 s, Us.b3 s, Us.b4 s, Us.b5 s, Us.b6 s, Us.it s, Us.ac s)
theorem Uk.ft (s : Us) (c : Sc) : Uk s (fgtT s c) := by
  unfold fgtT
  generalize fgt (Us.h s) (Us.st s) = F
  rfl
theorem fgtT_c (s : Us) (c : Sc) (L : Lg) : Wt.c (wtA (fgtT s c) L) = c := by
  rw [wtA_c]
  unfold fgtT
  generalize fgt (Us.h s) (Us.st s) = F
  rfl
theorem fgtT_st (s : Us) (c : Sc) : Us.st (fgtT s c) = fgt (Us.h s) (Us.st s) := by dsimp only [fgtT, Us.st]
/-- the check's state but for one of what is set for whom -/
def Fz (s0 : Us) (m0 : Ms) (i : Nat) (s1 : Us) (m1 : Ms) : Prop := Uk s0 s1 ∧ (∃ z, Ms.s m1 = upd (Ms.s m0) (30 + i) z) ∧ Ms.im m1 = Ms.im m0 ∧ Ms.hi m1 = Ms.hi m0 ∧ Ms.bo m1 = Ms.bo m0 ∧ Ms.ra m1 = Ms.ra m0
theorem firm_sy {s0 s1 : Us} {m0 : Ms} {G U T i y : Nat} (hs : RelS (Ms.s m0) (Us.nw s0) (slots s0) U T G) (h0 : L0 (Us.l0 s0)) (uk : Uk s0 s1) (hi : i < U) (hy : y ≤ 9) {m' : Ms} (es : Ms.s m' = upd (Ms.s m0) (30 + i) (nI y)) (ck : CK m' (Lg.st (hold s0 G)) (Lg.sz (hold s0 G))) : ∃ X, Sy (wtA (fgtT s1 (vvB s1 i y)) (hold s0 G)) m' U T X := by
  have hv := hs.vv hi hy
  rw [← es] at hv
  have b := becR_f (Sf.c (Us.ah s1)) (Sf.c (Us.nw s1))
  rw [uk.nw] at b
  have ev : vvB s1 i y = (Sc.kd (becR (Sf.c (Us.ah s1)) (Sf.c (Us.nw s0))), upd (Sc.vv (becR (Sf.c (Us.ah s1)) (Sf.c (Us.nw s0)))) i (nI y), Sc.kn (becR (Sf.c (Us.ah s1)) (Sf.c (Us.nw s0))), Sc.rw (becR (Sf.c (Us.ah s1)) (Sf.c (Us.nw s0))), Sc.le (becR (Sf.c (Us.ah s1)) (Sf.c (Us.nw s0))), Sc.sz (becR (Sf.c (Us.ah s1)) (Sf.c (Us.nw s0))), Sc.ou (becR (Sf.c (Us.ah s1)) (Sf.c (Us.nw s0))), Sc.ti (becR (Sf.c (Us.ah s1)) (Sf.c (Us.nw s0))), Sc.sg (becR (Sf.c (Us.ah s1)) (Sf.c (Us.nw s0))), Sc.lg (becR (Sf.c (Us.ah s1)) (Sf.c (Us.nw s0)))) := by
    unfold vvB
    rw [uk.nw]
  rw [ev]
  generalize becR (Sf.c (Us.ah s1)) (Sf.c (Us.nw s0)) = B at b
  obtain ⟨b1, b2, b3, b4, b5, b6, b7, b8⟩ := b
  refine ⟨_, Sy.of hv h0 (wtA_l _ _) ?_ ?_ ?_ ?_ ?_ ?_ ?_ ?_ ck (SK.fgt (h := Us.h s1) (st := Us.st s1) (by rw [wtA_st, fgtT_st]))⟩
  · rw [fgtT_c]; exact b1
  · rw [fgtT_c]; exact b2
  · rw [fgtT_c]; exact b3
  · intro p hp; rw [fgtT_c]; exact b4 p hp
  · intro p hp; rw [fgtT_c]; exact b5 p hp
  · intro p hp
    rw [fgtT_c]
    show upd (Sc.vv B) i (nI y) p = upd (Sc.vv (Sf.c (Us.nw s0))) i (nI y) p
    by_cases z : p = i
    · subst z; rw [pk_us, pk_us]
    · rw [pk_un z, pk_un z]; exact b6 p hp
  · intro p hp; rw [fgtT_c]; exact b7 p hp
  · intro p hp; rw [fgtT_c]; exact b8 p hp
theorem SeR.cf {f f' ce : Fn} {z : Int32} {U N : Nat} (h : SeR f ce z U N) (e : ∀ j, 17 ≤ j → (j < 30 ∨ 36 ≤ j) → f' j = f j) : SeR f' ce z U N := by
  obtain ⟨n1, n2, n3, n5⟩ := h
  refine ⟨n1, n2, by rw [e 19 (by decide) (by decide)]; exact n3, fun j hj => ?_⟩
  obtain ⟨u, t, g, b, a1, a2, a3, a4, b1, b2, b3, b4, d1, d2, d3, d4⟩ := n5 j hj
  exact ⟨u, t, g, b, a1, a2, a3, a4, b1, b2, b3, b4, (e _ (by omega) (by omega)).trans d1, (e _ (by omega) (by omega)).trans d2, (e _ (by omega) (by omega)).trans d3, (e _ (by omega) (by omega)).trans d4⟩
theorem firm_l {s0 : Us} {m0 : Ms} {G U T N : Nat} (hs : RelS (Ms.s m0) (Us.nw s0) (slots s0) U T G) (h0 : L0 (Us.l0 s0)) (se : SeR (Ms.s m0) (Tb.ce (Sf.se (Us.nw s0))) (Tb.n (Sf.se (Us.nw s0))) U N) {i : Nat} (hi : i < U) (w : Int32) (ss : Us) (mm : Ms) (emm : Ms.s mm = Ms.s m0) (F : Nat) : ∀ (x : Nat) (ma le v : Int32) (s1 : Us) (m1 : Ms) (K : Nat), 1 ≤ x → x ≤ 11 → v = nI x - nI 2 → Fz s0 m0 i s1 m1 → LK m1 K → K + x < 2 ^ 30 →
    ∃ (mr : Ms) (K' : Nat) (z : Int32), (l_X11_firm_30 ss (nI i) w x ma le v s1).1 = (l_X12_fitting_22 mm (nI 30 + nI i) (nI 9) w (x + F) ma le v m1).1 ∧ Uk s0 (l_X11_firm_30 ss (nI i) w x ma le v s1).2 ∧ Kp 0 m0 (l_X12_fitting_22 mm (nI 30 + nI i) (nI 9) w (x + F) ma le v m1).2 ∧ LK (l_X12_fitting_22 mm (nI 30 + nI i) (nI 9) w (x + F) ma le v m1).2 K' ∧ K' ≤ K + x := by
  have u6 := hs.1.1
  have t9 := hs.2.1.1
  intro x
  induction x with
  | zero => intro ma le v s1 m1 K h1; omega
  | succ x ih =>
    intro ma le v s1 m1 K h1 h2 h3 fv lk hK
    obtain ⟨uk, ⟨z0, ez⟩, f1, f2, f3, f4⟩ := fv
    have e1i : (nI 30 + nI i).toNatClampNeg = 30 + i := ck2 (by omega)
    rw [show x + 1 + F = (x + F) + 1 by omega, q_X11_firm_30, q_X12_fitting_22, e1i, emm]
    by_cases c : v < 0
    · rw [if_pos c, if_pos c]
      have same : upd (Ms.s m1) (30 + i) (Ms.s m0 (30 + i)) = Ms.s m0 := funext fun j => by
        by_cases z : j = 30 + i
        · rw [z, pk_us]
        · rw [pk_un z, ez, pk_un z]
      rw [same]
      by_cases z : w = 0
      · rw [if_pos z, if_pos z]; exact ⟨m1, K, 0, rfl, uk, ⟨fun _ _ => rfl, f1, f2, f3, f4⟩, lk, by omega⟩
      · rw [if_neg z, if_neg z]; exact ⟨m1, K, 0, rfl, uk, ⟨fun _ _ => rfl, f1, f2, f3, f4⟩, lk, by omega⟩
    rw [if_neg c, if_neg c]
    simp only [bindv]
    rw [if_pos trivial]
    have hx : 1 ≤ x := by
      by_cases z : x = 0
      · subst z
        exact absurd (show v < 0 by rw [h3]; decide) c
      · omega
    obtain ⟨y, rfl⟩ : ∃ y, x = y + 1 := ⟨x - 1, by omega⟩
    have hv : v = nI y := by rw [h3, pk_sub (by omega)]; rfl
    have hv2 : v + (-nI 1) = nI (y + 1) - nI 2 := by
      rw [hv]
      by_cases z : y = 0
      · subst z; decide
      · rw [show (nI y + -nI 1) = nI y - nI 1 from (Int32.sub_eq_add_neg _ _).symm, pk_sub (by omega), pk_sub (by omega)]; congr 1
    have kk := ef_keeps m1
    have ks := keeps_s m1
    have kc := cm_keeps m1
    have lkk : LK (m_X12_keeps m1) K := lk.lf kc.lf
    generalize m_X12_keeps m1 = mk at kk ks kc lkk ⊢
    have eupd : upd (Ms.s mk) (30 + i) v = upd (Ms.s m0) (30 + i) (nI y) := funext fun j => by
      by_cases z : j = 30 + i
      · rw [z, pk_us, pk_us, hv]
      · rw [pk_un z, pk_un z, ks, ez, pk_un z]
    rw [eupd]
    obtain ⟨mn, hmn⟩ : ∃ z, (Ms.th mk, (upd (Ms.s m0) (30 + i) (nI y)), Ms.im mk, Ms.fr mk, Ms.hi mk, Ms.ac mk, Ms.sp mk, Ms.en mk, Ms.wr mk, Ms.op mk, Ms.bb mk, Ms.tr mk, Ms.su mk, Ms.lf mk, (Ms.lk mk + nI 1), Ms.nx mk, Ms.bo mk, Ms.ra mk, Ms.ki mk, Ms.nu mk, Ms.tv mk) = z := ⟨_, rfl⟩
    have ns : Ms.s mn = upd (Ms.s m0) (30 + i) (nI y) := by rw [← hmn]; rfl
    have nfr : Ms.fr mn = Ms.fr mk := by rw [← hmn]; rfl
    have nlf : Ms.lf mn = Ms.lf mk := by rw [← hmn]; rfl
    have nlk : Ms.lk mn = Ms.lk mk + nI 1 := by rw [← hmn]; rfl
    have nkp : Ms.im mn = Ms.im mk ∧ Ms.hi mn = Ms.hi mk ∧ Ms.bo mn = Ms.bo mk ∧ Ms.ra mn = Ms.ra mk := by rw [← hmn]; exact ⟨rfl, rfl, rfl, rfl⟩
    rw [hmn]
    have lkn : LK mn (K + 1) := lkk.up nlf nlk
    have ckn : CK mn (Lg.st (hold s0 G)) (Lg.sz (hold s0 G)) := CK.anew (K := K) ⟨lkk.1, lkk.2⟩ (by omega) nlf nlk
    obtain ⟨X, sy⟩ := firm_sy hs h0 uk hi (y := y) (by omega) ns ckn
    have hL : holdL (Sc.lg (Sf.c (Us.nw (fgtT s1 (vvB s1 i y))))) (Us.l0 (fgtT s1 (vvB s1 i y))) (Us.l1 (fgtT s1 (vvB s1 i y))) (Us.l2 (fgtT s1 (vvB s1 i y))) (Us.l3 (fgtT s1 (vvB s1 i y))) (Us.l4 (fgtT s1 (vvB s1 i y))) (Us.l5 (fgtT s1 (vvB s1 i y))) = hold s0 G := by
      rw [Uk.hL (uk.tr (Uk.ft s1 _)), hs.2.2.1.2.1]; exact holdL_eq hs.G5
    have hx := seen_x (f0 := Ms.s mn) (se.cf (fun j h17 hj => by rw [ns, pk_un (by omega)])) t9 (s := fgtT s1 (vvB s1 i y)) (by rw [(Uk.ft s1 _).nw, uk.nw]) (mk := mn) (fun j hj => rfl) hL sy
    have eC : (Us.nw s1, Us.kp s1, ((Sc.kd (becR (Sf.c (Us.ah s1)) (Sf.c (Us.nw s1))), upd (Sc.vv (becR (Sf.c (Us.ah s1)) (Sf.c (Us.nw s1)))) (nI i).toNatClampNeg v, Sc.kn (becR (Sf.c (Us.ah s1)) (Sf.c (Us.nw s1))), Sc.rw (becR (Sf.c (Us.ah s1)) (Sf.c (Us.nw s1))), Sc.le (becR (Sf.c (Us.ah s1)) (Sf.c (Us.nw s1))), Sc.sz (becR (Sf.c (Us.ah s1)) (Sf.c (Us.nw s1))), Sc.ou (becR (Sf.c (Us.ah s1)) (Sf.c (Us.nw s1))), Sc.ti (becR (Sf.c (Us.ah s1)) (Sf.c (Us.nw s1))), Sc.sg (becR (Sf.c (Us.ah s1)) (Sf.c (Us.nw s1))), Sc.lg (becR (Sf.c (Us.ah s1)) (Sf.c (Us.nw s1)))), Sf.tp (Us.ah s1), Sf.se (Us.ah s1), Sf.pl (Us.ah s1), Sf.bk (Us.ah s1)), Us.h s1, Us.k0 s1, Us.k1 s1, Us.k2 s1, Us.k3 s1, Us.k4 s1, Us.k5 s1, Us.k6 s1, fgt (Us.h s1) (Us.st s1), Us.l0 s1, Us.l1 s1, Us.l2 s1, Us.l3 s1, Us.l4 s1, Us.l5 s1, Us.b0 s1, Us.b1 s1, Us.b2 s1, Us.b3 s1, Us.b4 s1, Us.b5 s1, Us.b6 s1, Us.it s1, Us.ac s1) = fgtT s1 (vvB s1 i y) := by
      rw [hv, nI_clamp (by omega)]
      unfold fgtT vvB
      rfl
    rw [eC]
    generalize m_X11_seenIsSo (fgtT s1 (vvB s1 i y)) = r at hx ⊢
    generalize m_X12_areAsSeen mn = q at hx ⊢
    obtain ⟨t1, uv, t3, m2, t4, t5, t6⟩ := hx
    have uk2 : Uk s0 r.2 := (uk.tr (Uk.ft s1 _)).tr uv.1
    have gb := ef_goesBack m2
    have lk2 : LK q.2 (K + 1) := by rw [t4]; exact (lkn.lf t6.2.2).lf (cm_back m2).lf
    have fv2 : Fz s0 m0 i r.2 q.2 := by
      rw [t4]
      refine ⟨uk2, ⟨nI y, funext fun j => ?_⟩, ?_, ?_, ?_, ?_⟩
      · by_cases z : j < 17
        · rw [gb.2.2 j z, t6.2.1, nfr, kk.2 j z, ez, pk_un (by omega), pk_un (by omega)]
        · rw [gb.1.1 j (by omega), t6.1.1 j (by omega), ns]
      · exact gb.1.2.1.trans (t6.1.2.1.trans (nkp.1.trans (kk.1.2.1.trans f1)))
      · exact gb.1.2.2.1.trans (t6.1.2.2.1.trans (nkp.2.1.trans (kk.1.2.2.1.trans f2)))
      · exact gb.1.2.2.2.1.trans (t6.1.2.2.2.1.trans (nkp.2.2.1.trans (kk.1.2.2.2.1.trans f3)))
      · exact gb.1.2.2.2.2.trans (t6.1.2.2.2.2.trans (nkp.2.2.2.trans (kk.1.2.2.2.2.trans f4)))
    rw [← t1]
    by_cases z : r.1 = 0
    · rw [if_pos z, if_pos z, if_pos z, show ma + nI 0 = ma from Int32.add_zero ma]
      obtain ⟨mr, K', z', a1, a2, a3, a4, a5⟩ := ih ma le (v + (-nI 1)) r.2 q.2 (K + 1) (by omega) (by omega) hv2 fv2 lk2 (by omega)
      exact ⟨mr, K', z', a1, a2, a3, a4, by omega⟩
    · rw [if_neg z, if_neg z, if_neg z]
      obtain ⟨mr, K', z', a1, a2, a3, a4, a5⟩ := ih (ma + nI 1) v (v + (-nI 1)) r.2 q.2 (K + 1) (by omega) (by omega) hv2 fv2 lk2 (by omega)
      exact ⟨mr, K', z', a1, a2, a3, a4, by omega⟩
theorem a_firm {s : Us} {m : Ms} {K : Nat} (h : Rel s m K) (hK : K < 2 ^ 30 - 100) (p w : Int32) : Ans (m_X11_firm s p w).1 (m_X12_firm m p w).1 (m_X11_firm s p w).2 (m_X12_firm m p w).2 K := by
  have hh := h
  obtain ⟨lk, U, T, G, hs, h0, ht, hi, ha⟩ := h
  obtain ⟨e1, e2, e3, e4⟩ := hh.start (by omega) (Lg.st (hold s G)) (Lg.sz (hold s G))
  unfold m_X11_firm m_X12_firm
  rw [isU hs.1.1 hs.1.2.2, show m_X7_has (Sc.sz (Sf.c (Us.nw s))) p = m_X7_has (nI U) p by rw [hs.1.2.1], isP]
  by_cases c1 : m_X7_has (nI U) p = 0
  · rw [if_pos c1, if_pos c1]; exact ⟨rfl, K, by omega, hh⟩
  rw [if_neg c1, if_neg c1]
  obtain ⟨i, hi2, rfl⟩ := has_ex c1 hs.1.1
  by_cases c2 : m_X12_in w (nI 0) (nI 1) = 0
  · rw [if_pos c2, if_pos c2]; exact ⟨rfl, K, by omega, hh⟩
  rw [if_neg c2, if_neg c2]
  have eL : (Ms.th m, Ms.s m, Ms.im m, Ms.fr m, Ms.hi m, Ms.ac m, Ms.sp m, Ms.en m, Ms.wr m, Ms.op m, Ms.bb m, Ms.tr m, Ms.su m, Ms.lf m, (Ms.lk m + nI 1), Ms.nx m, Ms.bo m, Ms.ra m, Ms.ki m, Ms.nu m, Ms.tv m) = m_X12_looksAnew m := rfl
  unfold m_X12_fitting
  rw [eL]
  generalize m_X12_looksAnew m = m1 at e1 e2 e3 e4 ⊢
  have hs1 : RelS (Ms.s m1) (Us.nw s) (slots s) U T G := by rw [e1]; exact hs
  obtain ⟨N, se⟩ := hs1.se
  have fv : Fz s m1 i s m1 := ⟨Uk.rf s, ⟨Ms.s m1 (30 + i), funext fun j => by
    by_cases z : j = 30 + i
    · rw [z, pk_us]
    · rw [pk_un z]⟩, rfl, rfl, rfl, rfl⟩
  obtain ⟨mr, K', z', a1, a2, a3, a4, a5⟩ := firm_l hs1 h0 se hi2 w s m e1.symm 246 11 (nI 0) (-nI 5) (nI 9) s m1 (K + 1) (by decide) (by decide) (by decide) fv e3 (by omega)
  rw [show 11 + 246 = 257 from rfl] at a1 a3 a4
  simp only [bindv]
  exact ⟨a1, K', by omega, hh.same a2 (e4.tr a3) a4⟩

/-! heeds, tides, and what is known behind them -/
def Ans (a b : Int32) (s : Us) (m : Ms) (K : Nat) : Prop := a = b ∧ ∃ K', K' ≤ K + 20 ∧ Rel s m K'
def aheadS (s : Us) : Us := (Us.nw s, Us.kp s, (becR (Sf.c (Us.ah s)) (Sf.c (Us.nw s)), Sf.tp (Us.ah s), Sf.se (Us.ah s), Sf.pl (Us.ah s), Sf.bk (Us.ah s)), Us.h s, Us.k0 s, Us.k1 s, Us.k2 s, Us.k3 s, Us.k4 s, Us.k5 s, Us.k6 s, fgt (Us.h s) (Us.st s), Us.l0 s, Us.l1 s, Us.l2 s, Us.l3 s, Us.l4 s, Us.l5 s, Us.b0 s, Us.b1 s, Us.b2 s, Us.b3 s, Us.b4 s, Us.b5 s, Us.b6 s, Us.it s, Us.ac s)
def fgtS (s : Us) : Us := (Us.nw s, Us.kp s, Us.ah s, Us.h s, Us.k0 s, Us.k1 s, Us.k2 s, Us.k3 s, Us.k4 s, Us.k5 s, Us.k6 s, fgt (Us.h s) (Us.st s), Us.l0 s, Us.l1 s, Us.l2 s, Us.l3 s, Us.l4 s, Us.l5 s, Us.b0 s, Us.b1 s, Us.b2 s, Us.b3 s, Us.b4 s, Us.b5 s, Us.b6 s, Us.it s, Us.ac s)
theorem wtA_st (a : Us) (L : Lg) : Wt.st (wtA a L) = Us.st a := rfl
theorem wtN_st (a : Us) (L : Lg) : Wt.st (wtN a L) = Us.st a := rfl
theorem wtA_c (a : Us) (L : Lg) : Wt.c (wtA a L) = Sf.c (Us.ah a) := rfl
theorem aheadS_st (s : Us) : Us.st (aheadS s) = fgt (Us.h s) (Us.st s) := by dsimp only [aheadS, Us.st]
theorem fgtS_st (s : Us) : Us.st (fgtS s) = fgt (Us.h s) (Us.st s) := by dsimp only [fgtS, Us.st]
theorem aheadS_c (s : Us) (L : Lg) : Wt.c (wtA (aheadS s) L) = becR (Sf.c (Us.ah s)) (Sf.c (Us.nw s)) := by
  rw [wtA_c]
  dsimp only [aheadS, Us.ah, Sf.c]
theorem wtN_c (a : Us) (L : Lg) : Wt.c (wtN a L) = Sf.c (Us.nw a) := rfl
theorem wtN_l (a : Us) (L : Lg) : Wt.l (wtN a L) = L := rfl
theorem wtA_l (a : Us) (L : Lg) : Wt.l (wtA a L) = L := rfl
theorem Uk.ahead (s : Us) : Uk s (aheadS s) := by
  unfold aheadS
  generalize fgt (Us.h s) (Us.st s) = F
  generalize becR (Sf.c (Us.ah s)) (Sf.c (Us.nw s)) = B
  rfl
theorem Uk.fg (s : Us) : Uk s (fgtS s) := by
  unfold fgtS
  generalize fgt (Us.h s) (Us.st s) = F
  rfl
theorem fgtS_nw (s : Us) : Us.nw (fgtS s) = Us.nw s := (Uk.fg s).nw
theorem Uk.hL {a b : Us} (u : Uk a b) : holdL (Sc.lg (Sf.c (Us.nw b))) (Us.l0 b) (Us.l1 b) (Us.l2 b) (Us.l3 b) (Us.l4 b) (Us.l5 b) = holdL (Sc.lg (Sf.c (Us.nw a))) (Us.l0 a) (Us.l1 a) (Us.l2 a) (Us.l3 a) (Us.l4 a) (Us.l5 a) := by
  rw [u.nw, u.l0, u.l1, u.l2, u.l3, u.l4, u.l5]
theorem Nk.fg {s r : Us} (h : Nk (fgtS s) r) : Nk s r := by
  unfold fgtS at h
  generalize fgt (Us.h s) (Us.st s) = F at h
  exact h
theorem cheed_eq (s : Wt) {i k : Nat} (hi6 : i < 6) (hk8 : k < 8) (hi : ¬ m_X7_has (Sc.sz (Wt.c s)) (nI i) = 0) (hk : vp_in (Sc.kd (Wt.c s) i) 7) {cn tt : Int32} (hc : m_J6_bitCount_0f7a4 (Sc.kn (Wt.c s) i) = cn) (ht : (Sc.ti (Wt.c s) - Sc.ti (Wt.c s) / nI 10 * nI 10) = tt) : (m_X1_heedOf s (nI i) (nI k)).1 = hd (Sc.kd (Wt.c s) i) (m_X4_sum (nI i) (Sc.kd (Wt.c s) i) (Sc.vv (Wt.c s) i) (nI k) cn tt (Lg.st (Wt.l s)) (Lg.sz (Wt.l s))) (Sc.vv (Wt.c s) i) cn (Sc.rw (Wt.c s) (i * 4 + k % 4)) (decide ((Sc.kn (Wt.c s) i >>> (nI k &&& 31)) &&& nI 1 = nI 1)) := by
  have ei : (nI i).toNatClampNeg = i := nI_clamp (by omega)
  have er : ((nI i * nI 4) + (nI k - nI k / nI 4 * nI 4)).toNatClampNeg = i * 4 + k % 4 := by
    rw [pk_rem (by omega) (by decide) (by decide), pk_mul, nI_add, nI_clamp (by omega)]
  unfold m_X1_heedOf m_X1_look
  rw [if_neg hi, ei, hc, ht, er]
  generalize Sc.rw (Wt.c s) (i * 4 + k % 4) = ro
  by_cases b : (Sc.kn (Wt.c s) i >>> (nI k &&& 31)) &&& nI 1 = nI 1
  · rw [if_pos b]
    simp only [b, decide_true]
    dsimp only [bindv, Wt.h, Hh.p, Hh.k, Hh.v, Hh.f, Hh.c, Hh.t, Hh.ro, Hh.kw]
    rcases or7 hk with q | q | q | q | q | q | q <;> rw [q] <;> rfl
  · rw [if_neg b]
    simp only [b, decide_false]
    dsimp only [bindv, Wt.h, Hh.p, Hh.k, Hh.v, Hh.f, Hh.c, Hh.t, Hh.ro, Hh.kw]
    rcases or7 hk with q | q | q | q | q | q | q <;> rw [q] <;> first | rfl | exact mul1 _ | exact (mul1 _).symm
theorem wk_heedOf (s : Wt) (i f : Int32) : Wk s (m_X1_heedOf s i f).2 := by
  have w := wk_look s i f
  unfold m_X1_heedOf
  generalize m_X1_look s i f = r at w ⊢
  simp only [bindv]
  (repeat' split) <;> exact w
theorem isF10 (w : Int32) : m_X11_isFact (w.toInt64 - 10) = m_X12_isFact (w - nI 10) := by
  have t10 : (10 : Int64).toInt = 10 := rfl
  have n10 : (nI 10).toInt = 10 := rfl
  have t0 : (nI 0).toInt = 0 := rfl
  have t7 : (nI 7).toInt = 7 := rfl
  have l0 : (lN 0).toInt = 0 := rfl
  have l8 : (8 : Int64).toInt = 8 := rfl
  have b1 := Int32.le_toInt w
  have b2 := Int32.toInt_lt w
  have b3 := Int32.le_toInt (w - nI 10)
  have b4 := Int32.toInt_lt (w - nI 10)
  have tx : (w.toInt64 - 10).toInt = w.toInt - 10 := by
    rw [Int64.toInt_sub, Int32.toInt_toInt64, t10, Int.bmod_def]
    omega
  have ty : (w - nI 10).toInt = (w.toInt - 10).bmod (2 ^ 32) := by rw [Int32.toInt_sub, n10]
  have ty2 : (w - nI 10).toInt = w.toInt - 10 ∨ (w - nI 10).toInt = w.toInt - 10 + 2 ^ 32 := by
    rw [ty, Int.bmod_def]
    omega
  unfold m_X11_isFact m_X12_isFact m_X12_in
  by_cases c1 : w - nI 10 < nI 0
  · rw [if_pos c1, if_pos]
    rw [lg_cmp_lt, Int64.lt_iff_toInt_lt, tx, l0]
    rw [Int32.lt_iff_toInt_lt, t0] at c1
    omega
  · rw [if_neg c1]
    rw [Int32.lt_iff_toInt_lt, t0] at c1
    by_cases c2 : nI 7 < w - nI 10
    · rw [if_pos c2]
      rw [Int32.lt_iff_toInt_lt, t7] at c2
      by_cases c3 : lg_cmp (w.toInt64 - 10) (lN 0) < 0
      · rw [if_pos c3]
      · rw [if_neg c3, if_pos]
        rw [lg_cmp_ge, Int64.le_iff_toInt_le, tx, l8]
        rw [lg_cmp_lt, Int64.lt_iff_toInt_lt, tx, l0] at c3
        omega
    · rw [if_neg c2]
      rw [Int32.lt_iff_toInt_lt, t7] at c2
      rw [if_neg, if_neg]
      · rw [lg_cmp_ge, Int64.le_iff_toInt_le, tx, l8]
        omega
      · rw [lg_cmp_lt, Int64.lt_iff_toInt_lt, tx, l0]
        omega
theorem a_of {s : Us} {m : Ms} {K : Nat} (h : Rel s m K) (hK : K < 2 ^ 30) (p w : Int32) : Ans (m_X11_of s p w).1 (m_X12_of m p w).1 (m_X11_of s p w).2 (m_X12_of m p w).2 K := by
  have hh := h
  obtain ⟨lk, U, T, G, hs, h0, ht, hi, ha⟩ := h
  have so := SO.of hs h0
  obtain ⟨e1, e2, e3, e4⟩ := hh.start hK (Lg.st (hold s G)) (Lg.sz (hold s G))
  have hL : holdL (Sc.lg (Sf.c (Us.nw s))) (Us.l0 s) (Us.l1 s) (Us.l2 s) (Us.l3 s) (Us.l4 s) (Us.l5 s) = hold s G := by rw [hs.2.2.1.2.1]; exact holdL_eq hs.G5
  obtain ⟨u, t, g, kn, ro, -⟩ := hs
  unfold m_X11_of m_X12_of
  rw [isU u.1 u.2.2, show m_X7_has (Sc.sz (Sf.c (Us.nw s))) p = m_X7_has (nI U) p by rw [u.2.1], isF10]
  by_cases c1 : m_X7_has (nI U) p = 0
  · rw [if_pos c1, if_pos c1]; exact ⟨rfl, K, by omega, hh⟩
  rw [if_neg c1, if_neg c1]
  generalize m_X12_looksAnew m = m1 at e1 e2 e3 e4 ⊢
  simp only [bindv]
  have h1 : Rel s m1 (K + 1) := hh.same (Uk.rf s) e4 e3
  obtain ⟨i, hi2, rfl⟩ := has_ex c1 u.1
  have u6 := u.1
  obtain ⟨r1, r2, r3, r4, r5, r6, r7⟩ := ro i hi2
  obtain ⟨x, x1, x2, x3⟩ := kn i hi2
  have ei : (nI i).toNatClampNeg = i := nI_clamp (by omega)
  rw [ei, ck2 (by omega), ck2 (by omega), ck2 (by omega), ck2 (by omega), e1]
  by_cases d0 : w = nI 0
  · rw [if_pos d0, if_pos d0]; exact ⟨r1.symm, K + 1, by omega, h1⟩
  rw [if_neg d0, if_neg d0]
  by_cases d1 : w = nI 1
  · rw [if_pos d1, if_pos d1]; exact ⟨r2.symm, K + 1, by omega, h1⟩
  rw [if_neg d1, if_neg d1]
  by_cases d2 : w = nI 2
  · rw [if_pos d2, if_pos d2]; exact ⟨x2.trans x3.symm, K + 1, by omega, h1⟩
  rw [if_neg d2, if_neg d2]
  by_cases d3 : w = nI 3
  · rw [if_pos d3, if_pos d3, outB_b, r4]
    cases outB (Sc.ou (Sf.c (Us.nw s))) i
    · exact ⟨rfl, K + 1, by omega, h1⟩
    · exact ⟨rfl, K + 1, by omega, h1⟩
  rw [if_neg d3, if_neg d3]
  by_cases d4 : m_X12_isFact (w - nI 10) = 0
  · rw [if_pos d4, if_pos d4]; exact ⟨rfl, K + 1, by omega, h1⟩
  rw [if_neg d4, if_neg d4, hL]
  obtain ⟨f, hf, ef⟩ := fact_ex d4
  rw [ef]
  have so1 : SO m1 (Lg.st (hold s G)) (Lg.sz (hold s G)) := by unfold SO HE at *; rw [e1]; exact so
  have cn := cnt_is x
  have ch := cheed_eq (wtN s (hold s G)) (i := i) (k := f) (by omega) hf (by show ¬ m_X7_has (Sc.sz (Sf.c (Us.nw s))) (nI i) = 0; rw [u.2.1]; exact c1) r5 (cn := m_J6_bitCount_0f7a4 (nI x)) (by show m_J6_bitCount_0f7a4 (Sc.kn (Sf.c (Us.nw s)) i) = _; rw [x2]) (tt := nI (T % 10)) (by show Sc.ti (Sf.c (Us.nw s)) - Sc.ti (Sf.c (Us.nw s)) / nI 10 * nI 10 = _; rw [t.2.1]; exact pk_rem (by omega) (by decide) (by decide))
  have mh := heedOf_eq so1 e2 (P := i) (f := f) (T := T) (X := x) (C := cnt x) (by omega) hf (by rw [e1]; exact t.2.2) (by omega) (by rw [e1]; exact x3) cn.1 cn.2
  have gh := gl_heedOf (s := wtN s (hold s G)) (i := nI i) (f := nI f) rfl (by show ¬ m_X7_has (Sc.sz (Sf.c (Us.nw s))) (nI i) = 0; rw [u.2.1]; exact c1)
  have wk : Wk (wtN s (hold s G)) (m_X1_heedOf (wtN s (hold s G)) (nI i) (nI f)).2 := wk_heedOf _ _ _
  have lfh := lf_heedOf m1 (nI i) (nI f)
  generalize hr : m_X1_heedOf (wtN s (hold s G)) (nI i) (nI f) = r at ch gh wk
  unfold wtN at hr
  rw [hr]
  generalize m_X12_heedOf m1 (nI i) (nI f) = q at mh lfh ⊢
  obtain ⟨m1a, m1b, m1c⟩ := mh
  obtain ⟨g1, g2, g3⟩ := gh
  obtain ⟨k0, k1, k2, k3, k4, k5, k6⟩ := wk
  refine ⟨?_, K + 1, by omega, h1.same ?_ (Kp.cn m1c.cn) (e3.lf lfh)⟩
  · rw [ch, m1a, e1]
    have a1 : Sc.kd (Wt.c (wtN s (hold s G))) i = Ms.s m (24 + i) := r1.symm
    have a2 : Sc.vv (Wt.c (wtN s (hold s G))) i = Ms.s m (30 + i) := r2.symm
    have a3 : Sc.rw (Wt.c (wtN s (hold s G))) (i * 4 + f % 4) = Ms.s m (36 + 4 * i + f % 4) := (r3 _ (Nat.mod_lt f (by decide))).symm
    have a4 : Sc.kn (Wt.c (wtN s (hold s G))) i = nI x := x2
    rw [a1, a2, a3, a4, ← cnt_eq x x1, cn.1]
    rfl
  · unfold Uk uq
    show ((((Wt.c r.2, _, _, _, _)), _), (Wt.k0 r.2, Wt.k1 r.2, Wt.k2 r.2, Wt.k3 r.2, Wt.k4 r.2, Wt.k5 r.2, Wt.k6 r.2), _, _, _) = _
    rw [g2, k0, k1, k2, k3, k4, k5, k6]
    rfl
theorem a_pass {s : Us} {m : Ms} {K : Nat} (h : Rel s m K) (hK : K < 2 ^ 30) (n : Int32) : Ans (m_X11_pass s n).1 (m_X12_pass m n).1 (m_X11_pass s n).2 (m_X12_pass m n).2 K := by
  have hh := h
  obtain ⟨lk, U, T, G, hs, h0, ht, hi, ha⟩ := h
  obtain ⟨e1, e2, e3, e4⟩ := hh.start hK (Lg.st (hold s G)) (Lg.sz (hold s G))
  have hL : holdL (Sc.lg (Sf.c (Us.nw s))) (Us.l0 s) (Us.l1 s) (Us.l2 s) (Us.l3 s) (Us.l4 s) (Us.l5 s) = hold s G := by rw [hs.2.2.1.2.1]; exact holdL_eq hs.G5
  have t9 := hs.2.1.1
  unfold m_X11_pass m_X12_pass
  rw [show m_X11_areTides n = m_X12_in n (nI 0) (nI 60) from rfl, c0, hs.2.1.2.1, hs.2.1.2.2]
  by_cases c1 : m_X12_in n (nI 0) (nI 60) = 0
  · rw [if_pos c1, if_pos c1]; exact ⟨rfl, K, by omega, hh⟩
  rw [if_neg c1, if_neg c1]
  obtain ⟨N, hN, rfl⟩ := in_ex (by decide) c1
  by_cases c2 : nI T + nI N ≤ nI 9999
  · rw [if_pos c2, if_pos c2]
    rw [nI_add, nI_leI (by omega) (by decide)] at c2
    generalize m_X12_looksAnew m = m1 at e1 e2 e3 e4 ⊢
    simp only [bindv]
    have hs1 : RelS (Ms.s m1) (Us.nw s) (slots s) U T G := by rw [e1]; exact hs
    have sy : Sy (wtN (fgtS s) (hold s G)) m1 U T (fun p => (Sc.kn (Sf.c (Us.nw s)) p).toNatClampNeg) := Sy.of hs1 h0 (W := wtN (fgtS s) (hold s G)) (wtN_l _ _) (by rw [wtN_c, fgtS_nw]) (by rw [wtN_c, fgtS_nw]) (by rw [wtN_c, fgtS_nw]) (fun _ _ => by rw [wtN_c, fgtS_nw]) (fun _ _ => by rw [wtN_c, fgtS_nw]) (fun _ _ => by rw [wtN_c, fgtS_nw]) (fun _ _ => by rw [wtN_c, fgtS_nw]) (fun _ _ => by rw [wtN_c, fgtS_nw]) e2 (SK.fgt (h := Us.h s) (st := Us.st s) (by rw [wtN_st, fgtS_st]))
    obtain ⟨X', gy⟩ := goN (s := fgtS s) (n := nI N) rfl (by omega) ((Uk.hL (Uk.fg s)).trans hL) sy (by omega)
    have nk := (nk_go (fgtS s) (nI N)).fg
    have eg := ef_goesOn (x := nI N) rfl (by omega) sy.gd
    have lg := lf_goesOn m1 (nI N)
    generalize hr : m_X11_go_p1 (fgtS s) (nI N) = r at gy nk
    unfold fgtS at hr
    rw [hr]
    generalize m_X12_goesOn m1 (nI N) = q at gy eg lg ⊢
    obtain ⟨⟨y1, y2, y3⟩, ⟨v1, v2, v3⟩, yX, -⟩ := gy
    obtain ⟨⟨n1, n2, n3, n4⟩, ⟨n5, n6, n7, n8, n9, n10⟩, ⟨n11, n12, n13, n14, n15, n16, n17⟩, ⟨n18, n19, n20, n21, n22, n23, n24⟩, ⟨n25, n26, n27, n28⟩, ⟨n29, n30, n31, n32, n33, n34, n35, n36⟩⟩ := nk
    obtain ⟨gd, kp, fr⟩ := eg
    have v2' : Sc.ti (Sf.c (Us.nw r)) = nI (T + N) := v2
    refine ⟨v2'.trans v3.symm, K + 1, by omega, e3.lf lg, ?_⟩
    have E1 : (uq r).1.2 = (uq s).1.2 := n1
    have E2 : (uq r).2 = (uq s).2 := by
      unfold uq
      show (_, _, _, _) = (_, _, _, _)
      rw [n3, n4, n5, n6, n7, n8, n9, n10, n11, n12, n13, n14, n15, n16, n17, n18, n19, n20, n21, n22, n23, n24]
      try rfl
    refine Rq.nw (s := s) (m := m) E1 E2 (kp.2.1.trans e4.2.1) (kp.2.2.1.trans e4.2.2.1) (kp.2.2.2.1.trans e4.2.2.2.1) (kp.2.2.2.2.trans e4.2.2.2.2) h0 ht hi ha (Nat.le_refl G) (U' := U) (T' := T + N) ?_
    obtain ⟨u, t, g, kn, ro, le, tp, se, pl, bk, sq, ou, lr⟩ := hs
    have e : ∀ j, 7 ≤ j → Ms.s q j = Ms.s m j := fun j hj => (kp.1 j hj).trans (by rw [e1])
    have z1 : Sc.kd (Sf.c (Us.nw r)) = Sc.kd (Sf.c (Us.nw s)) := n29
    have z2 : Sc.vv (Sf.c (Us.nw r)) = Sc.vv (Sf.c (Us.nw s)) := n30
    have z3 : Sc.rw (Sf.c (Us.nw r)) = Sc.rw (Sf.c (Us.nw s)) := n31
    have z4 : Sc.le (Sf.c (Us.nw r)) = Sc.le (Sf.c (Us.nw s)) := n32
    have z5 : Sc.sz (Sf.c (Us.nw r)) = Sc.sz (Sf.c (Us.nw s)) := n33
    have z6 : Sc.ou (Sf.c (Us.nw r)) = Sc.ou (Sf.c (Us.nw s)) := n34
    have z7 : Sc.sg (Sf.c (Us.nw r)) = Sc.sg (Sf.c (Us.nw s)) := n35
    have z8 : Sc.lg (Sf.c (Us.nw r)) = Sc.lg (Sf.c (Us.nw s)) := n36
    have w1 : Sf.tp (Us.nw r) = Sf.tp (Us.nw s) := n25
    have w2 : Sf.se (Us.nw r) = Sf.se (Us.nw s) := n26
    have w3 : Sf.pl (Us.nw r) = Sf.pl (Us.nw s) := n27
    have w4 : Sf.bk (Us.nw r) = Sf.bk (Us.nw s) := n28
    refine ⟨⟨u.1, z5.trans u.2.1, (e 17 (by omega)).trans u.2.2⟩, ⟨c2, v2, v3⟩, ⟨g.1, z8.trans g.2.1, (e 18 (by omega)).trans g.2.2.1, (e 23 (by omega)).trans g.2.2.2⟩, fun p hp => ⟨X' p, yX p hp⟩, ?_, ?_, ?_, ?_, ?_, ?_, ?_, ?_, r13_cf g.1 lr (fun j a => e j (by omega))⟩
    · rw [z1, z2, z3, z6]
      exact r5_cf u.1 ro (fun j a b c => e j (by omega))
    · rw [z4]
      exact r6_cf le (fun j a b => e j (by omega))
    · rw [z7, w1]
      exact r7_cf tp (e 22 (by omega)) (fun j a b => e j (by omega))
    · rw [w2]
      exact r8_cf se (Nat.le_refl U) (e 19 (by omega)) (fun j a b => e j (by omega))
    · rw [w3]
      exact r9_cf pl (fun w n q => by rw [plan_cf (e 17 (by omega))]; exact q) (e 20 (by omega)) (fun j a b => e j (by omega))
    · rw [w4]
      exact r10_cf bk (Nat.le_refl U) (e 21 (by omega)) (fun j a b => e j (by omega))
    · rw [w2]; exact sq
    · rw [w1, z6]; exact ou
  · rw [if_neg c2, if_neg c2]; exact ⟨rfl, K, by omega, hh⟩
theorem a_lasts {s : Us} {m : Ms} {K : Nat} (h : Rel s m K) (hK : K < 2 ^ 30) (f : Int32) : Ans (m_X11_lasts s f).1 (m_X12_lasts m f).1 (m_X11_lasts s f).2 (m_X12_lasts m f).2 K := by
  have hh := h
  obtain ⟨lk, U, T, G, hs, h0, ht, hi, ha⟩ := h
  obtain ⟨e1, e2, e3, e4⟩ := hh.start hK (Lg.st (hold s G)) (Lg.sz (hold s G))
  have hL : holdL (Sc.lg (Sf.c (Us.nw s))) (Us.l0 s) (Us.l1 s) (Us.l2 s) (Us.l3 s) (Us.l4 s) (Us.l5 s) = hold s G := by rw [hs.2.2.1.2.1]; exact holdL_eq hs.G5
  have t9 := hs.2.1.1
  unfold m_X11_lasts m_X12_lasts
  rw [isF]
  by_cases c : m_X12_isFact f = 0
  · rw [if_pos c, if_pos c]; exact ⟨rfl, K, by omega, hh⟩
  rw [if_neg c, if_neg c]
  obtain ⟨g, hg, rfl⟩ := fact_ex c
  generalize m_X12_looksAnew m = m1 at e1 e2 e3 e4 ⊢
  have sy : Sy (wtA (aheadS s) (hold s G)) (m_X12_keeps m1) U T (fun p => (Sc.kn (Sf.c (Us.nw s)) p).toNatClampNeg) := Sy.ah hs h0 (by rw [keeps_s]; exact e1) e2.keeps rfl (aheadS_c s _) (by rw [wtA_st, aheadS_st]; exact SKc.fgt _ _ _ _)
  have tx := tides_x (s := aheadS s) hg ((Uk.hL (Uk.ahead s)).trans hL) sy (by omega)
  have uv := ut_tides (aheadS s) (nI g)
  generalize hr : m_X11_tidesAheadWith (aheadS s) (nI g) = r at tx uv
  unfold aheadS at hr
  rw [hr, bindv, bindv, bindv]
  generalize m_X12_tidesKnown (m_X12_keeps m1) (nI g) = q at tx ⊢
  dsimp only [bindv]
  obtain ⟨t1, ⟨k, hk, t2⟩, t3, m2, t4, t5, t6⟩ := tx
  obtain ⟨b1, b2, b3⟩ := t6.back t5
  rw [← t4] at b1 b3
  have uk : Uk s r.2 := Uk.tr (Uk.ahead s) uv.1
  have fin : Rel r.2 q.2 (K + 1) := hh.same uk (e4.tr b1) (e3.lf b3)
  rw [← t1, t2]
  by_cases z : k = 61
  · subst z
    rw [if_pos rfl, if_neg (by decide)]
    exact ⟨rfl, K + 1, by omega, fin⟩
  · rw [if_neg (fun w => z (nI_inj w (by omega) (by decide))), if_pos (nI_le (by omega) (by decide))]
    exact ⟨rfl, K + 1, by omega, fin⟩
theorem has_lo {U : Nat} {w : Int32} (hU : U ≤ 6) (h : w < nI 10) : m_X7_has (nI U) (w - nI 10) = 0 := by
  by_cases c : m_X7_has (nI U) (w - nI 10) = 0
  · exact c
  · obtain ⟨k, hk, e⟩ := has_ex c hU
    rw [sub10 (by omega) e, nI_ltI (by omega) (by decide)] at h
    omega
theorem a_on {s : Us} {m : Ms} {K : Nat} (h : Rel s m K) (hK : K < 2 ^ 30) (n w : Int32) : Ans (m_X11_on s n w).1 (m_X12_on m n w).1 (m_X11_on s n w).2 (m_X12_on m n w).2 K := by
  have hh := h
  obtain ⟨lk, U, T, G, hs, h0, ht, hi, ha⟩ := h
  obtain ⟨e1, e2, e3, e4⟩ := hh.start hK (Lg.st (hold s G)) (Lg.sz (hold s G))
  have hL : holdL (Sc.lg (Sf.c (Us.nw s))) (Us.l0 s) (Us.l1 s) (Us.l2 s) (Us.l3 s) (Us.l4 s) (Us.l5 s) = hold s G := by rw [hs.2.2.1.2.1]; exact holdL_eq hs.G5
  have t9 := hs.2.1.1
  have u6 := hs.1.1
  have isu := isU hs.1.1 hs.1.2.2 (w - nI 10)
  have ehas : m_X7_has (Sc.sz (Sf.c (Us.nw s))) (w - nI 10) = m_X7_has (nI U) (w - nI 10) := by rw [hs.1.2.1]
  have core : ∀ N, N ≤ 60 → ∃ X', Sy (wtA (m_X11_go_p13 (aheadS s) (nI N)) (hold s G)) (m_X12_goesOn (m_X12_keeps (m_X12_looksAnew m)) (nI N)) U (T + N) X' ∧ Rel (m_X11_go_p13 (aheadS s) (nI N)) (m_X12_goesBack (m_X12_goesOn (m_X12_keeps (m_X12_looksAnew m)) (nI N))) (K + 1) := by
    intro N hN
    generalize m_X12_looksAnew m = m1 at e1 e2 e3 e4 ⊢
    have sy : Sy (wtA (aheadS s) (hold s G)) (m_X12_keeps m1) U T (fun p => (Sc.kn (Sf.c (Us.nw s)) p).toNatClampNeg) := Sy.ah hs h0 (by rw [keeps_s]; exact e1) e2.keeps rfl (aheadS_c s _) (by rw [wtA_st, aheadS_st]; exact SKc.fgt _ _ _ _)
    obtain ⟨X', gy⟩ := goA (s := aheadS s) (n := nI N) rfl (by omega) ((Uk.hL (Uk.ahead s)).trans hL) sy (by omega)
    have ru := sy.ron (n := nI N) rfl (by omega)
    have uv := ut_go (aheadS s) (nI N)
    obtain ⟨b1, b2, b3⟩ := ru.back gy.ck
    exact ⟨X', gy, hh.same (Uk.tr (Uk.ahead s) uv.1) (e4.tr b1) (e3.lf b3)⟩
  unfold m_X11_on m_X12_on
  rw [isu, ehas, show m_X11_areTides n = m_X12_in n (nI 0) (nI 60) from rfl]
  by_cases w0 : w = 0
  · subst w0
    rw [if_pos (show (0 : Int32) < nI 10 by decide), if_pos rfl, if_neg (show ¬ m_X12_in (0 : Int32) (nI 0) (nI 1) = 0 by decide)]
    by_cases c1 : m_X12_in n (nI 0) (nI 60) = 0
    · rw [if_pos c1, if_pos c1]; exact ⟨rfl, K, by omega, hh⟩
    rw [if_neg c1, if_neg c1]
    obtain ⟨N, hN, rfl⟩ := in_ex (by decide) c1
    obtain ⟨X', gy, rl⟩ := core N hN
    have al := gy.all
    generalize hr : m_X11_go_p13 (aheadS s) (nI N) = r at gy rl al
    unfold aheadS at hr
    rw [hr]
    simp only [bindv, if_true]
    exact ⟨al, K + 1, by omega, rl⟩
  by_cases w1 : w = nI 1
  · subst w1
    rw [if_pos (show nI 1 < nI 10 by decide), if_neg (show ¬ nI 1 = 0 by decide), if_pos rfl, if_neg (show ¬ m_X12_in (nI 1) (nI 0) (nI 1) = 0 by decide)]
    by_cases c1 : m_X12_in n (nI 0) (nI 60) = 0
    · rw [if_pos c1, if_pos c1]; exact ⟨rfl, K, by omega, hh⟩
    rw [if_neg c1, if_neg c1]
    obtain ⟨N, hN, rfl⟩ := in_ex (by decide) c1
    obtain ⟨X', gy, rl⟩ := core N hN
    have al := gy.held
    generalize hr : m_X11_go_p13 (aheadS s) (nI N) = r at gy rl al
    unfold aheadS at hr
    rw [hr]
    simp only [bindv, if_true]
    rw [if_neg (show ¬ nI 1 = 0 by decide), if_neg (show ¬ nI 1 = 0 by decide)]
    exact ⟨al, K + 1, by omega, rl⟩
  have wi : m_X12_in w (nI 0) (nI 1) = 0 := by
    by_cases c : m_X12_in w (nI 0) (nI 1) = 0
    · exact c
    · obtain ⟨k, hk, e⟩ := in_ex (by decide) c
      have : k = 0 ∨ k = 1 := by omega
      rcases this with rfl | rfl
      · exact absurd e w0
      · exact absurd e w1
  rw [if_pos wi, if_neg w0, if_neg w1]
  by_cases lo : w < nI 10
  · rw [if_pos lo, if_pos (has_lo u6 lo)]; exact ⟨rfl, K, by omega, hh⟩
  rw [if_neg lo]
  by_cases c2 : m_X7_has (nI U) (w - nI 10) = 0
  · rw [if_pos c2, if_pos c2]; exact ⟨rfl, K, by omega, hh⟩
  rw [if_neg c2, if_neg c2, if_neg w0, if_neg w1]
  obtain ⟨i, hi2, ei⟩ := has_ex c2 u6
  by_cases c1 : m_X12_in n (nI 0) (nI 60) = 0
  · rw [if_pos c1, if_pos c1]; exact ⟨rfl, K, by omega, hh⟩
  rw [if_neg c1, if_neg c1]
  obtain ⟨N, hN, rfl⟩ := in_ex (by decide) c1
  obtain ⟨X', gy, rl⟩ := core N hN
  generalize hr : m_X11_go_p13 (aheadS s) (nI N) = r at gy rl
  unfold aheadS at hr
  rw [hr]
  have e11 : ((nI 1 + w) - nI 10).toNatClampNeg = 1 + i := by rw [sub10 (by omega) ei, nI_add, pk_sub (by omega), nI_clamp (by omega)]; omega
  simp only [bindv, if_neg w0, if_neg w1]
  generalize m_X12_goesOn (m_X12_keeps (m_X12_looksAnew m)) (nI N) = q at gy rl ⊢
  rw [ei, e11, nI_clamp (by omega)]
  obtain ⟨y1, y2, y3⟩ := gy.2.2.1 i hi2
  exact ⟨y2.trans y3.symm, K + 1, by omega, rl⟩

/-! tables; the image; what is told -/
theorem plan_same {f : Fn} {z : Int32} {U : Nat} (hU : U ≤ 6) (hz : z = nI U) (h : f 17 = nI U) {w n : Int32} : m_X11_isPlan z w n = m_X12_isPlan f w n := by
  unfold m_X11_isPlan m_X12_isPlan
  rw [isU hU h, isU hU h, hz, isF]
  by_cases a0 : w = 0
  · subst a0
    rw [if_pos rfl, if_pos (show (0 : Int32) = nI 0 from rfl)]
  · rw [if_neg (show ¬ w = nI 0 from a0), if_neg a0]
    by_cases a1 : w = nI 1
    · subst a1
      rw [if_pos rfl, if_neg (show ¬ m_X12_in (nI 1) (nI 1) (nI 2) = 0 by decide)]
      rcases bl_X7_has (zsz := nI U) (i := n) with q | q
      · rw [q]; rfl
      · rw [q]; rfl
    · rw [if_neg a1]
      by_cases a2 : w = nI 2
      · subst a2
        rw [if_pos rfl, if_neg (show ¬ m_X12_in (nI 2) (nI 1) (nI 2) = 0 by decide)]
        rcases bl_X7_has (zsz := nI U) (i := n) with q | q
        · rw [q]; rfl
        · rw [q]; rfl
      · rw [if_neg a2]
        have a3 : m_X12_in w (nI 1) (nI 2) = 0 := by
          unfold m_X12_in
          by_cases b1 : w < nI 1
          · rw [if_pos b1]; rfl
          · rw [if_neg b1, if_pos]
            · rfl
            · rw [Int32.lt_iff_toInt_lt] at b1 ⊢
              have t1 : (nI 1).toInt = 1 := rfl
              have t2 : (nI 2).toInt = 2 := rfl
              have n1 : w.toInt ≠ 1 := fun q => a1 (Int32.toInt_inj.mp (by rw [q, t1]))
              have n2 : w.toInt ≠ 2 := fun q => a2 (Int32.toInt_inj.mp (by rw [q, t2]))
              omega
        rw [if_pos a3]
theorem add_eq {tb : Tb} {lim n : Nat} {a b c d : Int32} (h1 : n ≤ lim) (hl : lim ≤ 8) (h2 : Tb.n tb = nI n) (h4 : Tb.li tb = nI lim) : m_X8_add tb a b c d = if n = lim then ((-nI 4), tb) else (nI (n + 1), (upd (upd (upd (upd (Tb.ce tb) (4 * n) a) (4 * n + 1) b) (4 * n + 2) c) (4 * n + 3) d, nI lim, nI (n + 1))) := by
  unfold m_X8_add
  rw [h2, h4, if_neg (show ¬ nI n < 0 from Int32.not_lt.mpr (nI_le (Nat.zero_le _) (by omega)))]
  by_cases z : n = lim
  · subst z
    rw [if_pos rfl, if_neg (Int32.lt_irrefl)]
  · rw [if_neg z, if_pos (nI_lt (by omega) (by omega))]
    have e0 : (nI n * nI 4).toNatClampNeg = 4 * n := by rw [pk_mul, nI_clamp (by omega)]; omega
    have e1 : ((nI n * nI 4) + nI 1).toNatClampNeg = 4 * n + 1 := by rw [pk_mul, nI_add, nI_clamp (by omega)]; omega
    have e2 : ((nI n * nI 4) + nI 2).toNatClampNeg = 4 * n + 2 := by rw [pk_mul, nI_add, nI_clamp (by omega)]; omega
    have e3 : ((nI n * nI 4) + nI 3).toNatClampNeg = 4 * n + 3 := by rw [pk_mul, nI_add, nI_clamp (by omega)]; omega
    rw [e0, e1, e2, e3, nI_add]
theorem ce4 (ce : Fn) (n : Nat) (a b c d : Int32) : (∀ j, j < n → ∀ r, r < 4 → upd (upd (upd (upd ce (4 * n) a) (4 * n + 1) b) (4 * n + 2) c) (4 * n + 3) d (4 * j + r) = ce (4 * j + r)) ∧ upd (upd (upd (upd ce (4 * n) a) (4 * n + 1) b) (4 * n + 2) c) (4 * n + 3) d (4 * n) = a ∧ upd (upd (upd (upd ce (4 * n) a) (4 * n + 1) b) (4 * n + 2) c) (4 * n + 3) d (4 * n + 1) = b ∧ upd (upd (upd (upd ce (4 * n) a) (4 * n + 1) b) (4 * n + 2) c) (4 * n + 3) d (4 * n + 2) = c ∧ upd (upd (upd (upd ce (4 * n) a) (4 * n + 1) b) (4 * n + 2) c) (4 * n + 3) d (4 * n + 3) = d := by
  refine ⟨fun j hj r hr => ?_, ?_, ?_, ?_, ?_⟩
  · rw [pk_un (by omega), pk_un (by omega), pk_un (by omega), pk_un (by omega)]
  · rw [pk_un (by omega), pk_un (by omega), pk_un (by omega), pk_us]
  · rw [pk_un (by omega), pk_un (by omega), pk_us]
  · rw [pk_un (by omega), pk_us]
  · rw [pk_us]
theorem ce4o (ce : Fn) (n : Nat) (a b c d : Int32) {i : Nat} (h : i < 4 * n ∨ 4 * n + 4 ≤ i) : upd (upd (upd (upd ce (4 * n) a) (4 * n + 1) b) (4 * n + 2) c) (4 * n + 3) d i = ce i := by
  rw [pk_un (by omega), pk_un (by omega), pk_un (by omega), pk_un (by omega)]
theorem a_see {s : Us} {m : Ms} {K : Nat} (h : Rel s m K) (p n f b : Int32) : (m_X11_see s p n f b).1 = (m_X12_see m p n f b).1 ∧ Rel (m_X11_see s p n f b).2 (m_X12_see m p n f b).2 K := by
  have hh := h
  obtain ⟨lk, U, T, G, ⟨u, t, g, kn, ro, le, tp, se, pl, bk, sq, ou, lr⟩, h0, ht, hi, ha⟩ := h
  obtain ⟨N, s1, s2, s3, s4, s5⟩ := se
  unfold m_X11_see m_X12_see
  rw [isU u.1 u.2.2, show m_X7_has (Sc.sz (Sf.c (Us.nw s))) p = m_X7_has (nI U) p by rw [u.2.1], isF, c19, s3]
  by_cases c0 : p = (-nI 1)
  · rw [if_pos c0, if_pos c0]
    unfold m_X8_empty
    dsimp only [bindv]
    refine ⟨rfl, lk, Rq.nw (s := s) rfl rfl rfl rfl rfl rfl h0 ht hi ha (Nat.le_refl G) (U' := U) (T' := T) ?_⟩
    have e : ∀ j, j ≠ 19 → upd (Ms.s m) 19 (nI 0) j = Ms.s m j := fun j hj => pk_un hj
    show RelS (upd (Ms.s m) 19 (nI 0)) _ _ _ _ _
    exact ⟨⟨u.1, u.2.1, (e 17 (by omega)).trans u.2.2⟩, ⟨t.1, t.2.1, (e 0 (by omega)).trans t.2.2⟩, ⟨g.1, g.2.1, (e 18 (by omega)).trans g.2.2.1, (e 23 (by omega)).trans g.2.2.2⟩, r4_cf u.1 kn (fun j a b => e j (by omega)), r5_cf u.1 ro (fun j a b c => e j (by omega)), r6_cf le (fun j a b => e j (by omega)), r7_cf tp (e 22 (by omega)) (fun j a b => e j (by omega)), ⟨0, by decide, rfl, by exact pk_us, s4, fun j hj => by omega⟩, r9_cf pl (fun w n q => by rw [plan_cf (e 17 (by omega))]; exact q) (e 20 (by omega)) (fun j a b => e j (by omega)), r10_cf bk (Nat.le_refl U) (e 21 (by omega)) (fun j a b => e j (by omega)), sq, ou, r13_cf g.1 lr (fun j a => e j (by omega))⟩
  rw [if_neg c0, if_neg c0]
  by_cases c1 : m_X7_has (nI U) p = 0
  · rw [if_pos c1, if_pos c1]; exact ⟨rfl, hh⟩
  rw [if_neg c1, if_neg c1]
  obtain ⟨i, hi2, rfl⟩ := has_ex c1 u.1
  have u6 := u.1
  by_cases c2 : m_X12_isFact f = 0
  · rw [if_pos c2, if_pos c2]; exact ⟨rfl, hh⟩
  rw [if_neg c2, if_neg c2]
  obtain ⟨x, hx, rfl⟩ := fact_ex c2
  by_cases c3 : m_X12_in n (nI 0) (nI 12) = 0
  · rw [if_pos c3]
    by_cases c4 : n < 0
    · rw [if_pos c4]; exact ⟨rfl, hh⟩
    · rw [if_neg c4, if_neg]
      · exact ⟨rfl, hh⟩
      · intro c5
        unfold m_X12_in at c3
        rw [if_neg (show ¬ n < nI 0 from c4), if_neg (Int32.not_lt.mpr c5)] at c3
        exact absurd c3 (by decide)
  rw [if_neg c3]
  obtain ⟨tt, htt, rfl⟩ := in_ex (by decide) c3
  rw [if_neg (show ¬ nI tt < 0 from Int32.not_lt.mpr (nI_le (Nat.zero_le _) (by omega))), if_pos (nI_le htt (by decide))]
  obtain ⟨bb, hb1, hb2, hb3⟩ : ∃ bb, bb ≤ 1 ∧ (if b = 0 then nI 0 else nI 1) = nI bb ∧ (if b = 0 then (bindv (m_X8_add (Sf.se (Us.nw s)) (nI i) (nI tt) (nI x) (nI 0)) (fun r7 => (r7.1, ((Sf.c (Us.nw s), Sf.tp (Us.nw s), r7.2, Sf.pl (Us.nw s), Sf.bk (Us.nw s)), Us.kp s, Us.ah s, Us.h s, Us.k0 s, Us.k1 s, Us.k2 s, Us.k3 s, Us.k4 s, Us.k5 s, Us.k6 s, Us.st s, Us.l0 s, Us.l1 s, Us.l2 s, Us.l3 s, Us.l4 s, Us.l5 s, Us.b0 s, Us.b1 s, Us.b2 s, Us.b3 s, Us.b4 s, Us.b5 s, Us.b6 s, Us.it s, Us.ac s)))) else (bindv (m_X8_add (Sf.se (Us.nw s)) (nI i) (nI tt) (nI x) (nI 1)) (fun r8 => (r8.1, ((Sf.c (Us.nw s), Sf.tp (Us.nw s), r8.2, Sf.pl (Us.nw s), Sf.bk (Us.nw s)), Us.kp s, Us.ah s, Us.h s, Us.k0 s, Us.k1 s, Us.k2 s, Us.k3 s, Us.k4 s, Us.k5 s, Us.k6 s, Us.st s, Us.l0 s, Us.l1 s, Us.l2 s, Us.l3 s, Us.l4 s, Us.l5 s, Us.b0 s, Us.b1 s, Us.b2 s, Us.b3 s, Us.b4 s, Us.b5 s, Us.b6 s, Us.it s, Us.ac s))))) = bindv (m_X8_add (Sf.se (Us.nw s)) (nI i) (nI tt) (nI x) (nI bb)) (fun r8 => (r8.1, ((Sf.c (Us.nw s), Sf.tp (Us.nw s), r8.2, Sf.pl (Us.nw s), Sf.bk (Us.nw s)), Us.kp s, Us.ah s, Us.h s, Us.k0 s, Us.k1 s, Us.k2 s, Us.k3 s, Us.k4 s, Us.k5 s, Us.k6 s, Us.st s, Us.l0 s, Us.l1 s, Us.l2 s, Us.l3 s, Us.l4 s, Us.l5 s, Us.b0 s, Us.b1 s, Us.b2 s, Us.b3 s, Us.b4 s, Us.b5 s, Us.b6 s, Us.it s, Us.ac s))) := by
    by_cases w : b = 0
    · exact ⟨0, by decide, by rw [if_pos w], by rw [if_pos w]⟩
    · exact ⟨1, by decide, by rw [if_neg w], by rw [if_neg w]⟩
  rw [hb3, add_eq s1 (by decide) s2 s4]
  by_cases z : N = 5
  · subst z
    rw [if_pos rfl, if_pos rfl]; exact ⟨rfl, hh⟩
  rw [if_neg z, if_neg (fun q => z (nI_inj q (by omega) (by decide)))]
  have e60 : (nI 60 + nI N).toNatClampNeg = 60 + N := ck2 (by omega)
  have e65 : (nI 65 + nI N).toNatClampNeg = 65 + N := ck2 (by omega)
  have e70 : (nI 70 + nI N).toNatClampNeg = 70 + N := ck2 (by omega)
  have e75 : (nI 75 + nI N).toNatClampNeg = 75 + N := ck2 (by omega)
  have f1 : upd (Ms.s m) (60 + N) (nI i) 19 = nI N := by rw [pk_un (by omega)]; exact s3
  have f2 : upd (upd (Ms.s m) (60 + N) (nI i)) (65 + N) (nI tt) 19 = nI N := by rw [pk_un (by omega)]; exact f1
  have f3 : upd (upd (upd (Ms.s m) (60 + N) (nI i)) (65 + N) (nI tt)) (70 + N) (nI x) 19 = nI N := by rw [pk_un (by omega)]; exact f2
  have f4 : upd (upd (upd (upd (Ms.s m) (60 + N) (nI i)) (65 + N) (nI tt)) (70 + N) (nI x)) (75 + N) (nI bb) 19 = nI N := by rw [pk_un (by omega)]; exact f3
  dsimp only [bindv]
  rw [hb2, e60, f1, e65, f2, e70, f3, e75, f4, nI_add]
  refine ⟨pk_us.symm, lk, Rq.nw (s := s) rfl rfl rfl rfl rfl rfl h0 ht hi ha (Nat.le_refl G) (U' := U) (T' := T) ?_⟩
  have e : ∀ j, (j ≠ 60 + N ∧ j ≠ 65 + N ∧ j ≠ 70 + N ∧ j ≠ 75 + N ∧ j ≠ 19) → upd (upd (upd (upd (upd (Ms.s m) (60 + N) (nI i)) (65 + N) (nI tt)) (70 + N) (nI x)) (75 + N) (nI bb)) 19 (nI (N + 1)) j = Ms.s m j := fun j hj => by rw [pk_un (by omega), pk_un (by omega), pk_un (by omega), pk_un (by omega), pk_un (by omega)]
  obtain ⟨w0, w1, w2, w3, w4⟩ := ce4 (Tb.ce (Sf.se (Us.nw s))) N (nI i) (nI tt) (nI x) (nI bb)
  show RelS (upd (upd (upd (upd (upd (Ms.s m) (60 + N) (nI i)) (65 + N) (nI tt)) (70 + N) (nI x)) (75 + N) (nI bb)) 19 (nI (N + 1))) _ _ _ _ _
  refine ⟨⟨u.1, u.2.1, (e 17 (by omega)).trans u.2.2⟩, ⟨t.1, t.2.1, (e 0 (by omega)).trans t.2.2⟩, ⟨g.1, g.2.1, (e 18 (by omega)).trans g.2.2.1, (e 23 (by omega)).trans g.2.2.2⟩, r4_cf u.1 kn (fun j a b => e j (by omega)), r5_cf u.1 ro (fun j a b c => e j (by omega)), r6_cf le (fun j a b => e j (by omega)), r7_cf tp (e 22 (by omega)) (fun j a b => e j (by omega)), ⟨N + 1, by omega, rfl, by exact pk_us, rfl, fun j hj => ?_⟩, r9_cf pl (fun w n q => by rw [plan_cf (e 17 (by omega))]; exact q) (e 20 (by omega)) (fun j a b => e j (by omega)), r10_cf bk (Nat.le_refl U) (e 21 (by omega)) (fun j a b => e j (by omega)), fun j hj => ?_, ou, r13_cf g.1 lr (fun j a => e j (by omega))⟩
  · by_cases y : j = N
    · subst y
      refine ⟨i, tt, x, bb, hi2, htt, hx, hb1, w1, w2, w3, w4, ?_, ?_, ?_, ?_⟩
      · rw [pk_un (by omega), pk_un (by omega), pk_un (by omega), pk_un (by omega), pk_us]
      · rw [pk_un (by omega), pk_un (by omega), pk_un (by omega), pk_us]
      · rw [pk_un (by omega), pk_un (by omega), pk_us]
      · rw [pk_un (by omega), pk_us]
    · obtain ⟨u0, t0, g0, b0, a1, a2, a3, a4, a5, a6, a7, a8, a9⟩ := s5 j (by omega)
      exact ⟨u0, t0, g0, b0, a1, a2, a3, a4, (w0 j (by omega) 0 (by decide)).trans a5, (w0 j (by omega) 1 (by decide)).trans a6, (w0 j (by omega) 2 (by decide)).trans a7, (w0 j (by omega) 3 (by decide)).trans a8, (e _ (by omega)).trans a9.1, (e _ (by omega)).trans a9.2.1, (e _ (by omega)).trans a9.2.2.1, (e _ (by omega)).trans a9.2.2.2⟩
  · show rl 12 (upd (upd (upd (upd (Tb.ce (Sf.se (Us.nw s))) (4 * N) (nI i)) (4 * N + 1) (nI tt)) (4 * N + 2) (nI x)) (4 * N + 3) (nI bb) (4 * j + 1))
    by_cases y : j = N
    · subst y; rw [w2]; exact ⟨tt, htt, rfl⟩
    · rw [ce4o _ _ _ _ _ _ (by omega)]; exact sq j hj
theorem a_plan {s : Us} {m : Ms} {K : Nat} (h : Rel s m K) (w n : Int32) : (m_X11_plan s w n).1 = (m_X12_plan m w n).1 ∧ Rel (m_X11_plan s w n).2 (m_X12_plan m w n).2 K := by
  have hh := h
  obtain ⟨lk, U, T, G, ⟨u, t, g, kn, ro, le, tp, se, pl, bk, sq, ou, lr⟩, h0, ht, hi, ha⟩ := h
  obtain ⟨N, s1, s2, s3, s4, s5⟩ := pl
  unfold m_X11_plan m_X12_plan
  rw [plan_same u.1 u.2.1 u.2.2, c20, s3]
  by_cases c0 : w = (-nI 1)
  · rw [if_pos c0, if_pos c0]
    unfold m_X8_empty
    dsimp only [bindv]
    refine ⟨rfl, lk, Rq.nw (s := s) rfl rfl rfl rfl rfl rfl h0 ht hi ha (Nat.le_refl G) (U' := U) (T' := T) ?_⟩
    have e : ∀ j, j ≠ 20 → upd (Ms.s m) 20 (nI 0) j = Ms.s m j := fun j hj => pk_un hj
    show RelS (upd (Ms.s m) 20 (nI 0)) _ _ _ _ _
    exact ⟨⟨u.1, u.2.1, (e 17 (by omega)).trans u.2.2⟩, ⟨t.1, t.2.1, (e 0 (by omega)).trans t.2.2⟩, ⟨g.1, g.2.1, (e 18 (by omega)).trans g.2.2.1, (e 23 (by omega)).trans g.2.2.2⟩, r4_cf u.1 kn (fun j a b => e j (by omega)), r5_cf u.1 ro (fun j a b c => e j (by omega)), r6_cf le (fun j a b => e j (by omega)), r7_cf tp (e 22 (by omega)) (fun j a b => e j (by omega)), r8_cf se (Nat.le_refl U) (e 19 (by omega)) (fun j a b => e j (by omega)), ⟨0, by decide, rfl, by exact pk_us, s4, fun j hj => by omega⟩, r10_cf bk (Nat.le_refl U) (e 21 (by omega)) (fun j a b => e j (by omega)), sq, ou, r13_cf g.1 lr (fun j a => e j (by omega))⟩
  rw [if_neg c0, if_neg c0]
  by_cases c1 : m_X12_isPlan (Ms.s m) w n = 0
  · rw [if_pos c1, if_pos c1]; exact ⟨rfl, hh⟩
  rw [if_neg c1, if_neg c1, add_eq s1 (by decide) s2 s4]
  by_cases z : N = 8
  · subst z
    rw [if_pos rfl, if_pos rfl]; exact ⟨rfl, hh⟩
  rw [if_neg z, if_neg (fun q => z (nI_inj q (by omega) (by decide)))]
  have e60 : (nI 80 + nI N).toNatClampNeg = 80 + N := ck2 (by omega)
  have e65 : (nI 88 + nI N).toNatClampNeg = 88 + N := ck2 (by omega)
  have f1 : upd (Ms.s m) (80 + N) w 20 = nI N := by rw [pk_un (by omega)]; exact s3
  have f2 : upd (upd (Ms.s m) (80 + N) w) (88 + N) n 20 = nI N := by rw [pk_un (by omega)]; exact f1
  dsimp only [bindv]
  rw [e60, f1, e65, f2, nI_add]
  refine ⟨pk_us.symm, lk, Rq.nw (s := s) rfl rfl rfl rfl rfl rfl h0 ht hi ha (Nat.le_refl G) (U' := U) (T' := T) ?_⟩
  have e : ∀ j, (j ≠ 80 + N ∧ j ≠ 88 + N ∧ j ≠ 20) → upd (upd (upd (Ms.s m) (80 + N) w) (88 + N) n) 20 (nI (N + 1)) j = Ms.s m j := fun j hj => by rw [pk_un (by omega), pk_un (by omega), pk_un (by omega)]
  obtain ⟨w0, w1, w2, w3, w4⟩ := ce4 (Tb.ce (Sf.pl (Us.nw s))) N w n (nI 0) (nI 0)
  show RelS (upd (upd (upd (Ms.s m) (80 + N) w) (88 + N) n) 20 (nI (N + 1))) _ _ _ _ _
  refine ⟨⟨u.1, u.2.1, (e 17 (by omega)).trans u.2.2⟩, ⟨t.1, t.2.1, (e 0 (by omega)).trans t.2.2⟩, ⟨g.1, g.2.1, (e 18 (by omega)).trans g.2.2.1, (e 23 (by omega)).trans g.2.2.2⟩, r4_cf u.1 kn (fun j a b => e j (by omega)), r5_cf u.1 ro (fun j a b c => e j (by omega)), r6_cf le (fun j a b => e j (by omega)), r7_cf tp (e 22 (by omega)) (fun j a b => e j (by omega)), r8_cf se (Nat.le_refl U) (e 19 (by omega)) (fun j a b => e j (by omega)), ⟨N + 1, by omega, rfl, by exact pk_us, rfl, fun j hj => ?_⟩, r10_cf bk (Nat.le_refl U) (e 21 (by omega)) (fun j a b => e j (by omega)), sq, ou, r13_cf g.1 lr (fun j a => e j (by omega))⟩
  by_cases y : j = N
  · subst y
    refine ⟨w, n, w1, w2, ?_, ?_, by rw [plan_cf (e 17 (by omega))]; exact c1⟩
    · rw [pk_un (by omega), pk_un (by omega), pk_us]
    · rw [pk_un (by omega), pk_us]
  · obtain ⟨u0, t0, a1, a2, a3, a4, a5⟩ := s5 j (by omega)
    exact ⟨u0, t0, (w0 j (by omega) 0 (by decide)).trans a1, (w0 j (by omega) 1 (by decide)).trans a2, (e _ (by omega)).trans a3, (e _ (by omega)).trans a4, by rw [plan_cf (e 17 (by omega))]; exact a5⟩
theorem a_book {s : Us} {m : Ms} {K : Nat} (h : Rel s m K) (p x : Int32) : (m_X11_book s p x).1 = (m_X12_book m p x).1 ∧ Rel (m_X11_book s p x).2 (m_X12_book m p x).2 K := by
  have hh := h
  obtain ⟨lk, U, T, G, ⟨u, t, g, kn, ro, le, tp, se, pl, bk, sq, ou, lr⟩, h0, ht, hi, ha⟩ := h
  obtain ⟨N, s1, s2, s3, s4, s5⟩ := bk
  unfold m_X11_book m_X12_book
  rw [isU u.1 u.2.2, show m_X7_has (Sc.sz (Sf.c (Us.nw s))) p = m_X7_has (nI U) p by rw [u.2.1], show m_X11_isSet x = m_X12_in x (nI 0) (nI 255) from rfl, c21, s3]
  by_cases c0 : p = (-nI 1)
  · rw [if_pos c0, if_pos c0]
    unfold m_X8_empty
    dsimp only [bindv]
    refine ⟨rfl, lk, Rq.nw (s := s) rfl rfl rfl rfl rfl rfl h0 ht hi ha (Nat.le_refl G) (U' := U) (T' := T) ?_⟩
    have e : ∀ j, j ≠ 21 → upd (Ms.s m) 21 (nI 0) j = Ms.s m j := fun j hj => pk_un hj
    show RelS (upd (Ms.s m) 21 (nI 0)) _ _ _ _ _
    exact ⟨⟨u.1, u.2.1, (e 17 (by omega)).trans u.2.2⟩, ⟨t.1, t.2.1, (e 0 (by omega)).trans t.2.2⟩, ⟨g.1, g.2.1, (e 18 (by omega)).trans g.2.2.1, (e 23 (by omega)).trans g.2.2.2⟩, r4_cf u.1 kn (fun j a b => e j (by omega)), r5_cf u.1 ro (fun j a b c => e j (by omega)), r6_cf le (fun j a b => e j (by omega)), r7_cf tp (e 22 (by omega)) (fun j a b => e j (by omega)), r8_cf se (Nat.le_refl U) (e 19 (by omega)) (fun j a b => e j (by omega)), r9_cf pl (fun w n q => by rw [plan_cf (e 17 (by omega))]; exact q) (e 20 (by omega)) (fun j a b => e j (by omega)), ⟨0, by decide, rfl, by exact pk_us, s4, fun j hj => by omega⟩, sq, ou, r13_cf g.1 lr (fun j a => e j (by omega))⟩
  rw [if_neg c0, if_neg c0]
  by_cases c1 : m_X7_has (nI U) p = 0
  · rw [if_pos c1, if_pos c1]; exact ⟨rfl, hh⟩
  rw [if_neg c1, if_neg c1]
  obtain ⟨i, hi2, rfl⟩ := has_ex c1 u.1
  have u6 := u.1
  by_cases c3 : m_X12_in x (nI 0) (nI 255) = 0
  · rw [if_pos c3, if_pos c3]; exact ⟨rfl, hh⟩
  rw [if_neg c3, if_neg c3]
  obtain ⟨v, hv, rfl⟩ := in_ex (by decide) c3
  rw [add_eq s1 (by decide) s2 s4]
  by_cases z : N = 8
  · subst z
    rw [if_pos rfl, if_pos rfl]; exact ⟨rfl, hh⟩
  rw [if_neg z, if_neg (fun q => z (nI_inj q (by omega) (by decide)))]
  have e60 : (nI 96 + nI N).toNatClampNeg = 96 + N := ck2 (by omega)
  have e65 : (nI 104 + nI N).toNatClampNeg = 104 + N := ck2 (by omega)
  have f1 : upd (Ms.s m) (96 + N) (nI i) 21 = nI N := by rw [pk_un (by omega)]; exact s3
  have f2 : upd (upd (Ms.s m) (96 + N) (nI i)) (104 + N) (nI v) 21 = nI N := by rw [pk_un (by omega)]; exact f1
  dsimp only [bindv]
  rw [e60, f1, e65, f2, nI_add]
  refine ⟨pk_us.symm, lk, Rq.nw (s := s) rfl rfl rfl rfl rfl rfl h0 ht hi ha (Nat.le_refl G) (U' := U) (T' := T) ?_⟩
  have e : ∀ j, (j ≠ 96 + N ∧ j ≠ 104 + N ∧ j ≠ 21) → upd (upd (upd (Ms.s m) (96 + N) (nI i)) (104 + N) (nI v)) 21 (nI (N + 1)) j = Ms.s m j := fun j hj => by rw [pk_un (by omega), pk_un (by omega), pk_un (by omega)]
  obtain ⟨w0, w1, w2, w3, w4⟩ := ce4 (Tb.ce (Sf.bk (Us.nw s))) N (nI i) (nI v) (nI 0) (nI 0)
  show RelS (upd (upd (upd (Ms.s m) (96 + N) (nI i)) (104 + N) (nI v)) 21 (nI (N + 1))) _ _ _ _ _
  refine ⟨⟨u.1, u.2.1, (e 17 (by omega)).trans u.2.2⟩, ⟨t.1, t.2.1, (e 0 (by omega)).trans t.2.2⟩, ⟨g.1, g.2.1, (e 18 (by omega)).trans g.2.2.1, (e 23 (by omega)).trans g.2.2.2⟩, r4_cf u.1 kn (fun j a b => e j (by omega)), r5_cf u.1 ro (fun j a b c => e j (by omega)), r6_cf le (fun j a b => e j (by omega)), r7_cf tp (e 22 (by omega)) (fun j a b => e j (by omega)), r8_cf se (Nat.le_refl U) (e 19 (by omega)) (fun j a b => e j (by omega)), r9_cf pl (fun w n q => by rw [plan_cf (e 17 (by omega))]; exact q) (e 20 (by omega)) (fun j a b => e j (by omega)), ⟨N + 1, by omega, rfl, by exact pk_us, rfl, fun j hj => ?_⟩, sq, ou, r13_cf g.1 lr (fun j a => e j (by omega))⟩
  by_cases y : j = N
  · subst y
    refine ⟨i, v, hi2, by omega, w1, w2, ?_, ?_⟩
    · rw [pk_un (by omega), pk_un (by omega), pk_us]
    · rw [pk_un (by omega), pk_us]
  · obtain ⟨u0, t0, a1, a2, a3, a4, a5, a6⟩ := s5 j (by omega)
    exact ⟨u0, t0, a1, a2, (w0 j (by omega) 0 (by decide)).trans a3, (w0 j (by omega) 1 (by decide)).trans a4, (e _ (by omega)).trans a5, (e _ (by omega)).trans a6⟩
theorem tab_cpy {a b : Tb} {f f' : Fn} {c lim : Nat} {P P' : Nat → Prop} (h : TbR f c b lim P) (hf : f' c = f c) (hl : Tb.li a = nI lim) (hP : ∀ j, j < lim → P j → P' j) : TbR f' c (T2.a (m_X8_takeOver (a, b))) lim P' := by
  obtain ⟨n, n1, n2, n3, n4, n5⟩ := h
  exact ⟨n, n1, n2, hf.trans n3, hl, fun j hj => hP j (by omega) (n5 j hj)⟩
theorem ce_cpy {a b : Tb} {i : Nat} (h : i < 32) : Tb.ce (T2.a (m_X8_takeOver (a, b))) i = Tb.ce b i := by
  show va_cpy (Tb.ce b) (Tb.ce a) (nI 0).toNatClampNeg (nI 0).toNatClampNeg (nI 32).toNatClampNeg i = _
  rw [nI_clamp (by decide : 0 < 2 ^ 31), nI_clamp (by decide : 32 < 2 ^ 31), pk_cpy_in (by omega) (by omega)]
  congr 1
  omega
theorem tp_cpy {a b : Fn} {i : Nat} : va_cpy b a (nI 0).toNatClampNeg (nI 0).toNatClampNeg (nI 100).toNatClampNeg i = if i < 100 then b i else a i := by
  rw [nI_clamp (by decide : 0 < 2 ^ 31), nI_clamp (by decide : 100 < 2 ^ 31)]
  by_cases z : i < 100
  · rw [if_pos z, pk_cpy_in (by omega) (by omega)]
    congr 1
    omega
  · rw [if_neg z, pk_cpy_out (by omega)]
/-- a whole school taken over -/
theorem RelS.cpy {f f' : Fn} {a b : Sf} {A : Nat → Lg} {U T G : Nat} (h : RelS f b A U T G) (e : ∀ j, j < 927 → f' j = f j) (l1 : Tb.li (Sf.se a) = nI 5) (l2 : Tb.li (Sf.pl a) = nI 8) (l3 : Tb.li (Sf.bk a) = nI 8) (ft : ∀ j, fits .byte (.int (Sf.tp a j)) = true) : RelS f' (SS.a (m_X7_become (a, b))) A U T G := by
  obtain ⟨u, t, g, kn, ro, le, tp, se, pl, bk, sq, ou, lr⟩ := h
  have bc := becR_f (Sf.c a) (Sf.c b)
  obtain ⟨c1, c2, c3, c4, c5, c6, c7, c8⟩ := bc
  have u6 := u.1
  have g5 := g.1
  have e17 := e 17 (by omega)
  refine ⟨⟨u.1, u.2.1, (e 17 (by omega)).trans u.2.2⟩, ⟨t.1, t.2.1, (e 0 (by omega)).trans t.2.2⟩, ⟨g.1, g.2.1, (e 18 (by omega)).trans g.2.2.1, (e 23 (by omega)).trans g.2.2.2⟩, fun p hp => ?_, fun p hp => ?_, fun k hk => ?_, ?_, tab_cpy se (e 19 (by omega)) l1 (fun j hj q => ?_), tab_cpy pl (e 20 (by omega)) l2 (fun j hj q => ?_), tab_cpy bk (e 21 (by omega)) l3 (fun j hj q => ?_), fun j hj => ?_, ⟨fun j => ?_, ou.2⟩, fun k hk => ?_⟩
  · obtain ⟨x, x1, x2, x3⟩ := kn p hp
    exact ⟨x, x1, (c4 p (by omega)).trans x2, (e _ (by omega)).trans x3⟩
  · obtain ⟨s1, s2, s3, s4, s5, s6, s7⟩ := ro p hp
    refine ⟨(e _ (by omega)).trans (s1.trans (c5 p (by omega)).symm), (e _ (by omega)).trans (s2.trans (c6 p (by omega)).symm), fun k hk => (e _ (by omega)).trans ((s3 k hk).trans (c7 _ (by omega)).symm), (e _ (by omega)).trans s4, ?_, ?_, fun k hk => ?_⟩
    · exact (c5 p (by omega)).symm ▸ s5
    · obtain ⟨v, v1, v2⟩ := s6
      exact ⟨v, v1, (c6 p (by omega)).trans v2⟩
    · obtain ⟨v, v1, v2⟩ := s7 k hk
      exact ⟨v, v1, (c7 _ (by omega)).trans v2⟩
  · obtain ⟨j, j1, j2, j3⟩ := le k hk
    exact ⟨j, j1, (c8 k hk).trans j2, (e _ (by omega)).trans j3⟩
  · obtain ⟨n, n1, n2, n3, n4⟩ := tp
    refine ⟨n, n1, n2, (e _ (by omega)).trans n3, fun j hj => ?_⟩
    obtain ⟨ch, a1, a2, a3⟩ := n4 j hj
    refine ⟨ch, a1, ?_, (e _ (by omega)).trans a3⟩
    exact (tp_cpy (a := Sf.tp a) (b := Sf.tp b)).trans (by rw [if_pos (by omega)]; exact a2)
  · obtain ⟨u0, t0, g0, b0, a1, a2, a3, a4, a5, a6, a7, a8, a9⟩ := q
    exact ⟨u0, t0, g0, b0, a1, a2, a3, a4, (ce_cpy (by omega)).trans a5, (ce_cpy (by omega)).trans a6, (ce_cpy (by omega)).trans a7, (ce_cpy (by omega)).trans a8, (e _ (by omega)).trans a9.1, (e _ (by omega)).trans a9.2.1, (e _ (by omega)).trans a9.2.2.1, (e _ (by omega)).trans a9.2.2.2⟩
  · obtain ⟨u0, t0, a1, a2, a3, a4, a5⟩ := q
    exact ⟨u0, t0, (ce_cpy (by omega)).trans a1, (ce_cpy (by omega)).trans a2, (e _ (by omega)).trans a3, (e _ (by omega)).trans a4, by rw [plan_cf e17]; exact a5⟩
  · obtain ⟨u0, t0, a1, a2, a3, a4, a5, a6⟩ := q
    exact ⟨u0, t0, a1, a2, (ce_cpy (by omega)).trans a3, (ce_cpy (by omega)).trans a4, (e _ (by omega)).trans a5, (e _ (by omega)).trans a6⟩
  · have := sq j hj
    exact (ce_cpy (a := Sf.se a) (b := Sf.se b) (i := 4 * j + 1) (by omega)).symm ▸ this
  · have := tp_cpy (a := Sf.tp a) (b := Sf.tp b) (i := j)
    show fits .byte (.int (va_cpy (Sf.tp b) (Sf.tp a) (nI 0).toNatClampNeg (nI 0).toNatClampNeg (nI 100).toNatClampNeg j)) = true
    rw [this]
    split
    · exact ou.1 j
    · exact ft j
  · exact (lr k hk).cf (by omega) (fun j _ hj _ _ => e j hj)
theorem im_l (m : Ms) : ∀ (n k : Nat) (i : Int32) (f : Fn), k ≤ 927 → n + k = 928 → i = nI k → (∀ j, j < k → f j = Ms.s m j) → ∃ f', (∀ j, j < 927 → f' j = Ms.s m j) ∧ l_X12_image_2 m n i f = (Ms.s m 17, (Ms.th m, Ms.s m, f', Ms.fr m, nI 1, Ms.ac m, Ms.sp m, Ms.en m, Ms.wr m, Ms.op m, Ms.bb m, Ms.tr m, Ms.su m, Ms.lf m, Ms.lk m, Ms.nx m, Ms.bo m, Ms.ra m, Ms.ki m, Ms.nu m, Ms.tv m)) := by
  intro n
  induction n with
  | zero => intro k i f h1 h2; omega
  | succ n ih =>
    intro k i f h1 h2 h3 h4
    rw [q_X12_image_2]
    by_cases c : nI 927 ≤ i
    · rw [if_pos c, c17]
      rw [h3, nI_leI (by omega) (by omega)] at c
      exact ⟨f, fun j hj => h4 j (by omega), rfl⟩
    · rw [if_neg c]
      have hk := cnt_lt h3 h1 (by decide) c
      refine ih (k + 1) _ _ (by omega) (by omega) (by rw [h3]; exact nI_add k 1) ?_
      intro j hj
      rw [h3, nI_clamp (by omega)]
      by_cases z : j = k
      · rw [z, pk_us]
      · rw [pk_un z]; exact h4 j (by omega)
theorem un_l (m : Ms) : ∀ (n k : Nat) (i : Int32) (f : Fn), k ≤ 927 → n + k = 928 → i = nI k → (∀ j, j < k → f j = Ms.im m j) → ∃ f', (∀ j, j < 927 → f' j = Ms.im m j) ∧ l_X12_undo_12 m n i f = (f' 17, (Ms.th m, f', Ms.im m, Ms.fr m, Ms.hi m, Ms.ac m, Ms.sp m, Ms.en m, Ms.wr m, Ms.op m, Ms.bb m, Ms.tr m, Ms.su m, Ms.lf m, Ms.lk m, Ms.nx m, Ms.bo m, Ms.ra m, Ms.ki m, Ms.nu m, Ms.tv m)) := by
  intro n
  induction n with
  | zero => intro k i f h1 h2; omega
  | succ n ih =>
    intro k i f h1 h2 h3 h4
    rw [q_X12_undo_12]
    by_cases c : nI 927 ≤ i
    · rw [if_pos c, c17]
      rw [h3, nI_leI (by omega) (by omega)] at c
      exact ⟨f, fun j hj => h4 j (by omega), rfl⟩
    · rw [if_neg c]
      have hk := cnt_lt h3 h1 (by decide) c
      refine ih (k + 1) _ _ (by omega) (by omega) (by rw [h3]; exact nI_add k 1) ?_
      intro j hj
      rw [h3, nI_clamp (by omega)]
      by_cases z : j = k
      · rw [z, pk_us]
      · rw [pk_un z]; exact h4 j (by omega)
theorem a_image {s : Us} {m : Ms} {K : Nat} (h : Rel s m K) : (m_X11_image s).1 = (m_X12_image m).1 ∧ Rel (m_X11_image s).2 (m_X12_image m).2 K := by
  obtain ⟨lk, U, T, G, hs, h0, ht, hi, ha⟩ := h
  obtain ⟨f', i1, i2⟩ := im_l m 928 0 (nI 0) (Ms.im m) (by decide) rfl rfl (fun j hj => by omega)
  unfold m_X12_image
  rw [i2]
  unfold m_X11_image
  have cp := hs.cpy i1 hi.2.1 hi.2.2.1 hi.2.2.2.1 hi.2.2.2.2
  have eb : SS.b (m_X7_become (Us.kp s, Us.nw s)) = Us.nw s := rfl
  have ea : Tb.li (Sf.se (SS.a (m_X7_become (Us.kp s, Us.nw s)))) = nI 5 ∧ Tb.li (Sf.pl (SS.a (m_X7_become (Us.kp s, Us.nw s)))) = nI 8 ∧ Tb.li (Sf.bk (SS.a (m_X7_become (Us.kp s, Us.nw s)))) = nI 8 := ⟨hi.2.1, hi.2.2.1, hi.2.2.2.1⟩
  generalize m_X7_become (Us.kp s, Us.nw s) = r at cp eb ea ⊢
  dsimp only [bindv]
  refine ⟨?_, lk, U, T, G, ?_, h0, ht, ⟨Or.inr ⟨rfl, rfl, U, T, G, Nat.le_refl G, cp⟩, ea.1, ea.2.1, ea.2.2, cp.2.2.2.2.2.2.2.2.2.2.2.1.1⟩, ha⟩
  · rw [eb]; exact hs.1.2.1.trans hs.1.2.2.symm
  · show RelS (Ms.s m) (SS.b r) (slots s) U T G
    rw [eb]; exact hs
theorem a_undo {s : Us} {m : Ms} {K : Nat} (h : Rel s m K) : (m_X11_undo s).1 = (m_X12_undo m).1 ∧ Rel (m_X11_undo s).2 (m_X12_undo m).2 K := by
  have hh := h
  obtain ⟨lk, U, T, G, hs, h0, ht, hi, ha⟩ := h
  unfold m_X12_undo m_X11_undo
  rcases hi.1 with ⟨z1, z2⟩ | ⟨z1, z2, U2, T2, G2, z3, z4⟩
  · rw [z1, z2, if_pos (show nI 0 = 0 from rfl), if_pos (show nI 0 = 0 from rfl)]
    exact ⟨rfl, hh⟩
  · obtain ⟨f', i1, i2⟩ := un_l m 928 0 (nI 0) (Ms.s m) (by decide) rfl rfl (fun j hj => by omega)
    rw [z1, z2, if_neg (show ¬ nI 1 = 0 by decide), if_neg (show ¬ nI 1 = 0 by decide), i2]
    obtain ⟨w1, w2, w3⟩ : Tb.li (Sf.se (Us.nw s)) = nI 5 ∧ Tb.li (Sf.pl (Us.nw s)) = nI 8 ∧ Tb.li (Sf.bk (Us.nw s)) = nI 8 := by
      obtain ⟨-, -, -, -, -, -, -, ⟨_, -, -, -, q1, -⟩, ⟨_, -, -, -, q2, -⟩, ⟨_, -, -, -, q3, -⟩, -⟩ := hs
      exact ⟨q1, q2, q3⟩
    have cp := z4.cpy (a := Us.nw s) i1 w1 w2 w3 hs.2.2.2.2.2.2.2.2.2.2.2.1.1
    have eb : SS.b (m_X7_become (Us.nw s, Us.kp s)) = Us.kp s := rfl
    generalize m_X7_become (Us.nw s, Us.kp s) = r at cp eb ⊢
    dsimp only [bindv]
    refine ⟨cp.1.2.1.trans cp.1.2.2.symm, lk, U2, T2, G2, cp, h0, ht, ⟨Or.inr ⟨?_, ?_, U2, T2, G2, Nat.le_refl G2, ?_⟩, ?_⟩, ha⟩
    · first | exact z1 | rfl
    · first | exact z2 | rfl
    · show RelS (Ms.im m) (SS.b r) (slots s) U2 T2 G2
      rw [eb]; exact z4
    · show Tb.li (Sf.se (SS.b r)) = nI 5 ∧ Tb.li (Sf.pl (SS.b r)) = nI 8 ∧ Tb.li (Sf.bk (SS.b r)) = nI 8 ∧ ∀ j, fits .byte (.int (Sf.tp (SS.b r) j)) = true
      rw [eb]; exact hi.2

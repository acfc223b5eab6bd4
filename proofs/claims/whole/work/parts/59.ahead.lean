/-! printed by wip/whole/gen/specs59.py: calls of the class, what comes -/
theorem TPs.ch {s s' : Us} (h : TPs s) (e0 : Us.l0 s' = Us.l0 s) (e1 : Us.l1 s' = Us.l1 s) (e2 : Us.l2 s' = Us.l2 s) (e3 : Us.l3 s' = Us.l3 s) (e4 : Us.l4 s' = Us.l4 s) (e5 : Us.l5 s' = Us.l5 s) : TPs s' := by
  unfold TPs at *
  rw [e0, e1, e2, e3, e4, e5]
  exact h
/-- the class may go on -/
def Vn (s : Us) : Prop := rl 5 (Sc.lg (Sf.c (Us.nw s))) ∧ TPs s ∧ hK (Sc.sz (Sf.c (Us.nw s))) (Sc.kd (Sf.c (Us.nw s))) ∧ rl 9999 (Sc.ti (Sf.c (Us.nw s))) ∧ rl 6 (Sc.sz (Sf.c (Us.nw s)))
/-- what looking ahead leaves -/
def Un (a b : Us) : Prop := Us.nw b = Us.nw a ∧ Us.l0 b = Us.l0 a ∧ Us.l1 b = Us.l1 a ∧ Us.l2 b = Us.l2 a ∧ Us.l3 b = Us.l3 a ∧ Us.l4 b = Us.l4 a ∧ Us.l5 b = Us.l5 a ∧ Us.kp b = Us.kp a ∧ Us.it b = Us.it a ∧ Us.ac b = Us.ac a
theorem Un.rf (a : Us) : Un a a := ⟨rfl, rfl, rfl, rfl, rfl, rfl, rfl, rfl, rfl, rfl⟩
theorem Un.tr {a b c : Us} (h : Un a b) (g : Un b c) : Un a c := by
  obtain ⟨h1, h2, h3, h4, h5, h6, h7, h8, h9, h0⟩ := h
  obtain ⟨g1, g2, g3, g4, g5, g6, g7, g8, g9, g0⟩ := g
  exact ⟨g1.trans h1, g2.trans h2, g3.trans h3, g4.trans h4, g5.trans h5, g6.trans h6, g7.trans h7, g8.trans h8, g9.trans h9, g0.trans h0⟩
theorem Vn.un {a b : Us} (h : Vn a) (u : Un a b) : Vn b := by
  obtain ⟨h1, h2, h3, h4, h5⟩ := h
  unfold Vn
  rw [u.1]
  exact ⟨h1, h2.ch u.2.1 u.2.2.1 u.2.2.2.1 u.2.2.2.2.1 u.2.2.2.2.2.1 u.2.2.2.2.2.2.1, h3, h4, h5⟩
theorem fa8 {x : Int32} (h : ¬ m_X11_isFact (x.toInt64 - 10) = 0) : vp_in (x - nI 10) 8 := by
  unfold m_X11_isFact at h
  by_cases c1 : lg_cmp (x.toInt64 - 10) (lN 0) < 0
  · rw [if_pos c1] at h; exact absurd rfl h
  · rw [if_neg c1] at h
    by_cases c2 : 0 ≤ lg_cmp (x.toInt64 - 10) 8
    · rw [if_pos c2] at h; exact absurd rfl h
    · rw [lg_cmp_lt] at c1
      rw [lg_cmp_ge] at c2
      have e : (x.toInt64 - 10).toInt = x.toInt - 10 := by
        have a1 := x.toInt_lt
        have a2 := x.le_toInt
        rw [Int64.toInt_sub, Int32.toInt_toInt64, show (10 : Int64).toInt = 10 from rfl]
        rw [Int.bmod_def]
        omega
      rw [Int64.lt_iff_toInt_lt, e, show (lN 0).toInt = 0 from rfl] at c1
      rw [Int64.le_iff_toInt_le, e, show (8 : Int64).toInt = 8 from rfl] at c2
      have e2 : (x - nI 10).toInt = x.toInt - 10 := by
        have a1 := x.toInt_lt
        have a2 := x.le_toInt
        rw [Int32.toInt_sub, show (nI 10).toInt = 10 from rfl]
        rw [Int.bmod_def]
        omega
      refine vp_of2 ?_ ?_ (by decide)
      · rw [Int32.lt_iff_toInt_lt, e2, show (0 : Int32).toInt = 0 from rfl]; omega
      · rw [Int32.lt_iff_toInt_lt, e2, show (nI 8).toInt = 8 from rfl]; omega
def m_X11_of (s : Us) (u : Int32) (w : Int32) : Int32 × Us := if (m_X7_has (Sc.sz (Sf.c (Us.nw s))) u) = 0 then ((-999999), s) else (if w = nI 0 then ((Sc.kd (Sf.c (Us.nw s)) u.toNatClampNeg), s) else (if w = nI 1 then ((Sc.vv (Sf.c (Us.nw s)) u.toNatClampNeg), s) else (if w = nI 2 then ((Sc.kn (Sf.c (Us.nw s)) u.toNatClampNeg), s) else (if w = nI 3 then (if (m_X7_isOut (Sc.ou (Sf.c (Us.nw s))) u) = 0 then (nI 0, s) else (nI 1, s)) else (if (m_X11_isFact (w.toInt64 - 10)) = 0 then ((-999999), s) else (bindv (holdL (Sc.lg (Sf.c (Us.nw s))) (Us.l0 s) (Us.l1 s) (Us.l2 s) (Us.l3 s) (Us.l4 s) (Us.l5 s)) (fun L => bindv (m_X1_heedOf (Sf.c (Us.nw s), Us.h s, Us.k0 s, Us.k1 s, Us.k2 s, Us.k3 s, Us.k4 s, Us.k5 s, Us.k6 s, Us.st s, L) u (w - nI 10)) (fun r8 => (r8.1, ((Wt.c r8.2, Sf.tp (Us.nw s), Sf.se (Us.nw s), Sf.pl (Us.nw s), Sf.bk (Us.nw s)), Us.kp s, Us.ah s, Wt.h r8.2, Wt.k0 r8.2, Wt.k1 r8.2, Wt.k2 r8.2, Wt.k3 r8.2, Wt.k4 r8.2, Wt.k5 r8.2, Wt.k6 r8.2, Wt.st r8.2, Us.l0 s, Us.l1 s, Us.l2 s, Us.l3 s, Us.l4 s, Us.l5 s, Us.b0 s, Us.b1 s, Us.b2 s, Us.b3 s, Us.b4 s, Us.b5 s, Us.b6 s, Us.it s, Us.ac s))))))))))
set_option maxRecDepth 100000 in
set_option maxHeartbeats 4000000 in
theorem c_X11_of (l : Launch) {fv : Value} (hf : FV fv) (s : Us) (u : Int32) (w : Int32) (hV : Vn s) : CT l fv 6 jX11_of [.ref 0, .int u, .int w] (hUs s) (DP (some (.int (m_X11_of s u w).1)) (hUs ((m_X11_of s u w).2))) := by
  refine CT_of [] mt_X11_of (by decide +kernel) (tab_X11 hf) okX11_of (Nat.le_of_ble_eq_true rfl) ?_
  intro J hJ hD
  refine hJ 0 _ _ _ ?_
  refine CALL_sub (r := some (.int (m_X7_has (Sc.sz (Sf.c (Us.nw s))) u))) (h' := hUs s) [1, 2, 3, 4, 5, 6] (by decide) (c_X7_has l hf (Sf.c (Us.nw s)) 42 45 47 49 u) rfl rfl (by decide) (by decide) rfl ?_
  refine And.intro (fun c1 => ?_) (fun c1 => ?_)
  · skip
    have hi := c1
    refine hJ 14 _ _ _ ?_
    refine And.intro (fun c2 => ?_) (And.intro (by decide) (And.intro (fun c3 => ?_) (And.intro (fun c4 => ?_) (And.intro (fun c5 => ?_) (And.intro (fun c6 => ?_) (True.intro))))))
    · skip
      refine hJ 91 _ _ _ ?_
      refine CALL_sub (h' := hUs s) [] (by decide) (c_X11_isFact l hf (w.toInt64 - 10)) rfl rfl (by decide) (by decide) rfl ?_
      refine And.intro (fun c7 => ?_) (fun c7 => ?_)
      · skip
        refine hJ 126 _ _ _ ?_
        exact And.intro True.intro (DPis (F := (fun z => hUs z)) (s' := s) ((if_neg c1).trans ((if_neg (sw_ne 0 c2 (by decide) (by decide) (by decide))).trans ((if_neg (sw_ne 1 c2 (by decide) (by decide) (by decide))).trans ((if_neg (sw_ne 2 c2 (by decide) (by decide) (by decide))).trans ((if_neg (sw_ne 3 c2 (by decide) (by decide) (by decide))).trans (if_pos c7)))))))
      · skip
        have hf8 := fa8 c7
        obtain ⟨L, eL⟩ : ∃ z, holdL (Sc.lg (Sf.c (Us.nw s))) (Us.l0 s) (Us.l1 s) (Us.l2 s) (Us.l3 s) (Us.l4 s) (Us.l5 s) = z := ⟨_, rfl⟩
        obtain ⟨q, eq⟩ : ∃ z, holdP (Sc.lg (Sf.c (Us.nw s))) = z := ⟨_, rfl⟩
        have hQ := hold_q (s := s) hV.2.1 hV.1 eL eq
        have hcq := c_X11_holding l hf s hV.1
        have hcq : CT l fv 1 jX11_holding [.ref 0] (hUs s) (DP (some (.ref q)) (hUs s)) := by rw [← eq]; exact hcq
        refine CALL_same (r := some (.ref q)) (h1 := hUs s) (by decide) hcq ?_
        obtain ⟨r8, er8⟩ : ∃ z : Int32 × Wt, m_X1_heedOf (Sf.c (Us.nw s), Us.h s, Us.k0 s, Us.k1 s, Us.k2 s, Us.k3 s, Us.k4 s, Us.k5 s, Us.k6 s, Us.st s, L) u (w - nI 10) = z := ⟨_, rfl⟩
        have gr8 := gl_heedOf er8 hi
        refine us_heedOf_nw l hf s (HQ.ch hQ rfl rfl rfl rfl rfl rfl) u (w - nI 10) hi (hV.2.2.1 _ hi) hf8 er8 gr8.1 (by decide) ?_
        refine hJ 128 _ _ _ ?_
        exact And.intro True.intro (DPis (F := (fun z => hUs z)) (s' := ((Wt.c r8.2, Sf.tp (Us.nw s), Sf.se (Us.nw s), Sf.pl (Us.nw s), Sf.bk (Us.nw s)), Us.kp s, Us.ah s, Wt.h r8.2, Wt.k0 r8.2, Wt.k1 r8.2, Wt.k2 r8.2, Wt.k3 r8.2, Wt.k4 r8.2, Wt.k5 r8.2, Wt.k6 r8.2, Wt.st r8.2, Us.l0 s, Us.l1 s, Us.l2 s, Us.l3 s, Us.l4 s, Us.l5 s, Us.b0 s, Us.b1 s, Us.b2 s, Us.b3 s, Us.b4 s, Us.b5 s, Us.b6 s, Us.it s, Us.ac s)) ((if_neg c1).trans ((if_neg (sw_ne 0 c2 (by decide) (by decide) (by decide))).trans ((if_neg (sw_ne 1 c2 (by decide) (by decide) (by decide))).trans ((if_neg (sw_ne 2 c2 (by decide) (by decide) (by decide))).trans ((if_neg (sw_ne 3 c2 (by decide) (by decide) (by decide))).trans ((if_neg c7).trans ((bindv_eq eL).trans (bindv_eq er8)))))))))
    · skip
      refine hJ 44 _ _ _ ?_
      refine And.intro (has_of hi) ?_
      exact And.intro True.intro (DPis (F := (fun z => hUs z)) (s' := s) ((if_neg c1).trans (if_pos (sw_eq 0 c3 rfl (by decide)))))
    · skip
      refine hJ 54 _ _ _ ?_
      refine And.intro (has_of hi) ?_
      exact And.intro True.intro (DPis (F := (fun z => hUs z)) (s' := s) ((if_neg c1).trans ((if_neg (sw_ot 0 c4 (by decide) (by decide))).trans (if_pos (sw_eq 1 c4 rfl (by decide))))))
    · skip
      refine hJ 64 _ _ _ ?_
      refine And.intro (has_of hi) ?_
      exact And.intro True.intro (DPis (F := (fun z => hUs z)) (s' := s) ((if_neg c1).trans ((if_neg (sw_ot 0 c5 (by decide) (by decide))).trans ((if_neg (sw_ot 1 c5 (by decide) (by decide))).trans (if_pos (sw_eq 2 c5 rfl (by decide)))))))
    · skip
      refine hJ 74 _ _ _ ?_
      refine CALL_sub (r := some (.int (m_X7_isOut (Sc.ou (Sf.c (Us.nw s))) u))) (h' := hUs s) [1, 2, 3, 4, 5, 6] (by decide) (c_X7_isOut l hf (Sf.c (Us.nw s)) 42 45 47 49 u) rfl rfl (by decide) (by decide) rfl ?_
      refine And.intro (fun c9 => ?_) (fun c9 => ?_)
      · skip
        refine hJ 89 _ _ _ ?_
        exact And.intro True.intro (DPis (F := (fun z => hUs z)) (s' := s) ((if_neg c1).trans ((if_neg (sw_ot 0 c6 (by decide) (by decide))).trans ((if_neg (sw_ot 1 c6 (by decide) (by decide))).trans ((if_neg (sw_ot 2 c6 (by decide) (by decide))).trans ((if_pos (sw_eq 3 c6 rfl (by decide))).trans (if_pos c9)))))))
      · skip
        refine hJ 90 _ _ _ ?_
        exact And.intro True.intro (DPis (F := (fun z => hUs z)) (s' := s) ((if_neg c1).trans ((if_neg (sw_ot 0 c6 (by decide) (by decide))).trans ((if_neg (sw_ot 1 c6 (by decide) (by decide))).trans ((if_neg (sw_ot 2 c6 (by decide) (by decide))).trans ((if_pos (sw_eq 3 c6 rfl (by decide))).trans (if_neg c9)))))))
  · skip
    exact And.intro True.intro (DPis (F := (fun z => hUs z)) (s' := s) (if_pos c1))
def m_X11_pass (s : Us) (n : Int32) : Int32 × Us := if (m_X11_areTides n) = 0 then ((-nI 2), s) else (if (Sc.ti (Sf.c (Us.nw s)) + n) ≤ nI 9999 then (bindv (m_X11_go_p1 (Us.nw s, Us.kp s, Us.ah s, Us.h s, Us.k0 s, Us.k1 s, Us.k2 s, Us.k3 s, Us.k4 s, Us.k5 s, Us.k6 s, fgt (Us.h s) (Us.st s), Us.l0 s, Us.l1 s, Us.l2 s, Us.l3 s, Us.l4 s, Us.l5 s, Us.b0 s, Us.b1 s, Us.b2 s, Us.b3 s, Us.b4 s, Us.b5 s, Us.b6 s, Us.it s, Us.ac s) n) (fun r3 => (Sc.ti (Sf.c (Us.nw r3)), r3))) else ((-nI 3), s))
set_option maxRecDepth 100000 in
set_option maxHeartbeats 4000000 in
theorem c_X11_pass (l : Launch) {fv : Value} (hf : FV fv) (s : Us) (n : Int32) (hV : Vn s) : CT l fv 7 jX11_pass [.ref 0, .int n] (hUs s) (DP (some (.int (m_X11_pass s n).1)) (hUs ((m_X11_pass s n).2))) := by
  refine CT_of [] mt_X11_pass (by decide +kernel) (tab_X11 hf) okX11_pass (Nat.le_of_ble_eq_true rfl) ?_
  intro J hJ hD
  refine hJ 0 _ _ _ ?_
  refine CALL_sub (h' := hUs s) [] (by decide) (c_X11_areTides l hf n) rfl rfl (by decide) (by decide) rfl ?_
  refine And.intro (fun c1 => ?_) (fun c1 => ?_)
  · skip
    obtain ⟨N, hN, hn⟩ := at_of c1
    refine hJ 10 _ _ _ ?_
    refine And.intro (fun c2 => ?_) (fun c2 => ?_)
    · skip
      refine hJ 28 _ _ _ ?_
      refine CALL_sub (r := none) (h' := wUs (Us.nw s) (Us.kp s) (Us.ah s) (Us.h s) (Us.k0 s) (Us.k1 s) (Us.k2 s) (Us.k3 s) (Us.k4 s) (Us.k5 s) (Us.k6 s) (fgt (Us.h s) (Us.st s)) (Us.l0 s) (Us.l1 s) (Us.l2 s) (Us.l3 s) (Us.l4 s) (Us.l5 s) (Us.b0 s) (Us.b1 s) (Us.b2 s) (Us.b3 s) (Us.b4 s) (Us.b5 s) (Us.b6 s) (Us.it s) (Us.ac s)) [19, 28] (by decide) (c_X1_forget l hf (Us.h s, Us.st s) 21 20) rfl rfl (by decide) (by decide) rfl ?_
      obtain ⟨r3, er3⟩ : ∃ z : Us, m_X11_go_p1 (Us.nw s, Us.kp s, Us.ah s, Us.h s, Us.k0 s, Us.k1 s, Us.k2 s, Us.k3 s, Us.k4 s, Us.k5 s, Us.k6 s, fgt (Us.h s) (Us.st s), Us.l0 s, Us.l1 s, Us.l2 s, Us.l3 s, Us.l4 s, Us.l5 s, Us.b0 s, Us.b1 s, Us.b2 s, Us.b3 s, Us.b4 s, Us.b5 s, Us.b6 s, Us.it s, Us.ac s) n = z := ⟨_, rfl⟩
      have hr3 := c_X11_go_p1 l hf (Us.nw s, Us.kp s, Us.ah s, Us.h s, Us.k0 s, Us.k1 s, Us.k2 s, Us.k3 s, Us.k4 s, Us.k5 s, Us.k6 s, fgt (Us.h s) (Us.st s), Us.l0 s, Us.l1 s, Us.l2 s, Us.l3 s, Us.l4 s, Us.l5 s, Us.b0 s, Us.b1 s, Us.b2 s, Us.b3 s, Us.b4 s, Us.b5 s, Us.b6 s, Us.it s, Us.ac s) n (B := 9999) hn (by omega) (by omega) (by exact hV.1) (by exact TPs.ch hV.2.1 rfl rfl rfl rfl rfl rfl) (by exact hV.2.2.1) (by exact hV.2.2.2.1)
      rw [er3] at hr3
      refine CALL_same (r := none) (h1 := hUs r3) (by decide) (hr3) ?_
      exact And.intro True.intro (DPis (F := (fun z => hUs z)) (s' := r3) ((if_neg c1).trans ((if_pos c2).trans (bindv_eq er3))))
    · skip
      exact And.intro True.intro (DPis (F := (fun z => hUs z)) (s' := s) ((if_neg c1).trans (if_neg c2)))
  · skip
    exact And.intro True.intro (DPis (F := (fun z => hUs z)) (s' := s) (if_pos c1))
def m_X11_on (s : Us) (n : Int32) (w : Int32) : Int32 × Us := if w < nI 10 then (if w = 0 then (if (m_X11_areTides n) = 0 then ((-nI 2), s) else (bindv (m_X11_go_p13 (Us.nw s, Us.kp s, (becR (Sf.c (Us.ah s)) (Sf.c (Us.nw s)), Sf.tp (Us.ah s), Sf.se (Us.ah s), Sf.pl (Us.ah s), Sf.bk (Us.ah s)), Us.h s, Us.k0 s, Us.k1 s, Us.k2 s, Us.k3 s, Us.k4 s, Us.k5 s, Us.k6 s, fgt (Us.h s) (Us.st s), Us.l0 s, Us.l1 s, Us.l2 s, Us.l3 s, Us.l4 s, Us.l5 s, Us.b0 s, Us.b1 s, Us.b2 s, Us.b3 s, Us.b4 s, Us.b5 s, Us.b6 s, Us.it s, Us.ac s) n) (fun r4 => if w = 0 then ((m_X7_all (Sc.kn (Sf.c (Us.ah r4))) (Sc.sz (Sf.c (Us.ah r4))) (Sc.ou (Sf.c (Us.ah r4)))), r4) else ((m_X7_held (Sc.kn (Sf.c (Us.ah r4))) (Sc.sz (Sf.c (Us.ah r4))) (Sc.ou (Sf.c (Us.ah r4)))), r4)))) else (if w = nI 1 then (if (m_X11_areTides n) = 0 then ((-nI 2), s) else (bindv (m_X11_go_p13 (Us.nw s, Us.kp s, (becR (Sf.c (Us.ah s)) (Sf.c (Us.nw s)), Sf.tp (Us.ah s), Sf.se (Us.ah s), Sf.pl (Us.ah s), Sf.bk (Us.ah s)), Us.h s, Us.k0 s, Us.k1 s, Us.k2 s, Us.k3 s, Us.k4 s, Us.k5 s, Us.k6 s, fgt (Us.h s) (Us.st s), Us.l0 s, Us.l1 s, Us.l2 s, Us.l3 s, Us.l4 s, Us.l5 s, Us.b0 s, Us.b1 s, Us.b2 s, Us.b3 s, Us.b4 s, Us.b5 s, Us.b6 s, Us.it s, Us.ac s) n) (fun r9 => if w = 0 then ((m_X7_all (Sc.kn (Sf.c (Us.ah r9))) (Sc.sz (Sf.c (Us.ah r9))) (Sc.ou (Sf.c (Us.ah r9)))), r9) else ((m_X7_held (Sc.kn (Sf.c (Us.ah r9))) (Sc.sz (Sf.c (Us.ah r9))) (Sc.ou (Sf.c (Us.ah r9)))), r9)))) else ((-nI 1), s))) else (if (m_X7_has (Sc.sz (Sf.c (Us.nw s))) (w - nI 10)) = 0 then (if w = 0 then (if (m_X11_areTides n) = 0 then ((-nI 2), s) else (bindv (m_X11_go_p13 (Us.nw s, Us.kp s, (becR (Sf.c (Us.ah s)) (Sf.c (Us.nw s)), Sf.tp (Us.ah s), Sf.se (Us.ah s), Sf.pl (Us.ah s), Sf.bk (Us.ah s)), Us.h s, Us.k0 s, Us.k1 s, Us.k2 s, Us.k3 s, Us.k4 s, Us.k5 s, Us.k6 s, fgt (Us.h s) (Us.st s), Us.l0 s, Us.l1 s, Us.l2 s, Us.l3 s, Us.l4 s, Us.l5 s, Us.b0 s, Us.b1 s, Us.b2 s, Us.b3 s, Us.b4 s, Us.b5 s, Us.b6 s, Us.it s, Us.ac s) n) (fun r16 => if w = 0 then ((m_X7_all (Sc.kn (Sf.c (Us.ah r16))) (Sc.sz (Sf.c (Us.ah r16))) (Sc.ou (Sf.c (Us.ah r16)))), r16) else ((m_X7_held (Sc.kn (Sf.c (Us.ah r16))) (Sc.sz (Sf.c (Us.ah r16))) (Sc.ou (Sf.c (Us.ah r16)))), r16)))) else (if w = nI 1 then (if (m_X11_areTides n) = 0 then ((-nI 2), s) else (bindv (m_X11_go_p13 (Us.nw s, Us.kp s, (becR (Sf.c (Us.ah s)) (Sf.c (Us.nw s)), Sf.tp (Us.ah s), Sf.se (Us.ah s), Sf.pl (Us.ah s), Sf.bk (Us.ah s)), Us.h s, Us.k0 s, Us.k1 s, Us.k2 s, Us.k3 s, Us.k4 s, Us.k5 s, Us.k6 s, fgt (Us.h s) (Us.st s), Us.l0 s, Us.l1 s, Us.l2 s, Us.l3 s, Us.l4 s, Us.l5 s, Us.b0 s, Us.b1 s, Us.b2 s, Us.b3 s, Us.b4 s, Us.b5 s, Us.b6 s, Us.it s, Us.ac s) n) (fun r21 => if w = 0 then ((m_X7_all (Sc.kn (Sf.c (Us.ah r21))) (Sc.sz (Sf.c (Us.ah r21))) (Sc.ou (Sf.c (Us.ah r21)))), r21) else ((m_X7_held (Sc.kn (Sf.c (Us.ah r21))) (Sc.sz (Sf.c (Us.ah r21))) (Sc.ou (Sf.c (Us.ah r21)))), r21)))) else ((-nI 1), s))) else (if w = 0 then (if (m_X11_areTides n) = 0 then ((-nI 2), s) else (bindv (m_X11_go_p13 (Us.nw s, Us.kp s, (becR (Sf.c (Us.ah s)) (Sf.c (Us.nw s)), Sf.tp (Us.ah s), Sf.se (Us.ah s), Sf.pl (Us.ah s), Sf.bk (Us.ah s)), Us.h s, Us.k0 s, Us.k1 s, Us.k2 s, Us.k3 s, Us.k4 s, Us.k5 s, Us.k6 s, fgt (Us.h s) (Us.st s), Us.l0 s, Us.l1 s, Us.l2 s, Us.l3 s, Us.l4 s, Us.l5 s, Us.b0 s, Us.b1 s, Us.b2 s, Us.b3 s, Us.b4 s, Us.b5 s, Us.b6 s, Us.it s, Us.ac s) n) (fun r27 => ((Sc.kn (Sf.c (Us.ah r27)) (w - nI 10).toNatClampNeg), r27)))) else (if w = nI 1 then (if (m_X11_areTides n) = 0 then ((-nI 2), s) else (bindv (m_X11_go_p13 (Us.nw s, Us.kp s, (becR (Sf.c (Us.ah s)) (Sf.c (Us.nw s)), Sf.tp (Us.ah s), Sf.se (Us.ah s), Sf.pl (Us.ah s), Sf.bk (Us.ah s)), Us.h s, Us.k0 s, Us.k1 s, Us.k2 s, Us.k3 s, Us.k4 s, Us.k5 s, Us.k6 s, fgt (Us.h s) (Us.st s), Us.l0 s, Us.l1 s, Us.l2 s, Us.l3 s, Us.l4 s, Us.l5 s, Us.b0 s, Us.b1 s, Us.b2 s, Us.b3 s, Us.b4 s, Us.b5 s, Us.b6 s, Us.it s, Us.ac s) n) (fun r31 => ((Sc.kn (Sf.c (Us.ah r31)) (w - nI 10).toNatClampNeg), r31)))) else (if (m_X11_areTides n) = 0 then ((-nI 2), s) else (bindv (m_X11_go_p13 (Us.nw s, Us.kp s, (becR (Sf.c (Us.ah s)) (Sf.c (Us.nw s)), Sf.tp (Us.ah s), Sf.se (Us.ah s), Sf.pl (Us.ah s), Sf.bk (Us.ah s)), Us.h s, Us.k0 s, Us.k1 s, Us.k2 s, Us.k3 s, Us.k4 s, Us.k5 s, Us.k6 s, fgt (Us.h s) (Us.st s), Us.l0 s, Us.l1 s, Us.l2 s, Us.l3 s, Us.l4 s, Us.l5 s, Us.b0 s, Us.b1 s, Us.b2 s, Us.b3 s, Us.b4 s, Us.b5 s, Us.b6 s, Us.it s, Us.ac s) n) (fun r35 => ((Sc.kn (Sf.c (Us.ah r35)) (w - nI 10).toNatClampNeg), r35)))))))
set_option maxRecDepth 100000 in
set_option maxHeartbeats 4000000 in
theorem c_X11_on (l : Launch) {fv : Value} (hf : FV fv) (s : Us) (n : Int32) (w : Int32) (hV : Vn s) : CT l fv 7 jX11_on [.ref 0, .int n, .int w] (hUs s) (DP (some (.int (m_X11_on s n w).1)) (hUs ((m_X11_on s n w).2))) := by
  refine CT_of [] mt_X11_on (by decide +kernel) (tab_X11 hf) okX11_on (Nat.le_of_ble_eq_true rfl) ?_
  intro J hJ hD
  refine hJ 0 _ _ _ ?_
  refine And.intro (fun c1 => ?_) (fun c1 => ?_)
  · skip
    refine hJ 24 _ _ _ ?_
    refine And.intro (fun c2 => ?_) (fun c2 => ?_)
    · skip
      refine hJ 41 _ _ _ ?_
      refine CALL_sub (h' := hUs s) [] (by decide) (c_X11_areTides l hf n) rfl rfl (by decide) (by decide) rfl ?_
      refine And.intro (fun c3 => ?_) (fun c3 => ?_)
      · skip
        obtain ⟨N, hN, hn⟩ := at_of c3
        refine hJ 51 _ _ _ ?_
        refine CALL_sub (r := none) (h' := wUs (Us.nw s) (Us.kp s) (Us.ah s) (Us.h s) (Us.k0 s) (Us.k1 s) (Us.k2 s) (Us.k3 s) (Us.k4 s) (Us.k5 s) (Us.k6 s) (fgt (Us.h s) (Us.st s)) (Us.l0 s) (Us.l1 s) (Us.l2 s) (Us.l3 s) (Us.l4 s) (Us.l5 s) (Us.b0 s) (Us.b1 s) (Us.b2 s) (Us.b3 s) (Us.b4 s) (Us.b5 s) (Us.b6 s) (Us.it s) (Us.ac s)) [19, 28] (by decide) (c_X1_forget l hf (Us.h s, Us.st s) 21 20) rfl rfl (by decide) (by decide) rfl ?_
        refine CALL_sub (r := none) (h' := wUs (Us.nw s) (Us.kp s) (becR (Sf.c (Us.ah s)) (Sf.c (Us.nw s)), Sf.tp (Us.ah s), Sf.se (Us.ah s), Sf.pl (Us.ah s), Sf.bk (Us.ah s)) (Us.h s) (Us.k0 s) (Us.k1 s) (Us.k2 s) (Us.k3 s) (Us.k4 s) (Us.k5 s) (Us.k6 s) (fgt (Us.h s) (Us.st s)) (Us.l0 s) (Us.l1 s) (Us.l2 s) (Us.l3 s) (Us.l4 s) (Us.l5 s) (Us.b0 s) (Us.b1 s) (Us.b2 s) (Us.b3 s) (Us.b4 s) (Us.b5 s) (Us.b6 s) (Us.it s) (Us.ac s)) [13, 14, 15, 16, 17, 18, 1, 2, 3, 4, 5, 6] (by decide) (c_X7_becomeRow l hf (Sf.c (Us.ah s), Sf.c (Us.nw s)) 44 57 59 61 42 45 47 49) rfl rfl (by decide) (by decide) rfl ?_
        obtain ⟨r4, er4⟩ : ∃ z : Us, m_X11_go_p13 (Us.nw s, Us.kp s, (becR (Sf.c (Us.ah s)) (Sf.c (Us.nw s)), Sf.tp (Us.ah s), Sf.se (Us.ah s), Sf.pl (Us.ah s), Sf.bk (Us.ah s)), Us.h s, Us.k0 s, Us.k1 s, Us.k2 s, Us.k3 s, Us.k4 s, Us.k5 s, Us.k6 s, fgt (Us.h s) (Us.st s), Us.l0 s, Us.l1 s, Us.l2 s, Us.l3 s, Us.l4 s, Us.l5 s, Us.b0 s, Us.b1 s, Us.b2 s, Us.b3 s, Us.b4 s, Us.b5 s, Us.b6 s, Us.it s, Us.ac s) n = z := ⟨_, rfl⟩
        have hr4 := c_X11_go_p13 l hf (Us.nw s, Us.kp s, (becR (Sf.c (Us.ah s)) (Sf.c (Us.nw s)), Sf.tp (Us.ah s), Sf.se (Us.ah s), Sf.pl (Us.ah s), Sf.bk (Us.ah s)), Us.h s, Us.k0 s, Us.k1 s, Us.k2 s, Us.k3 s, Us.k4 s, Us.k5 s, Us.k6 s, fgt (Us.h s) (Us.st s), Us.l0 s, Us.l1 s, Us.l2 s, Us.l3 s, Us.l4 s, Us.l5 s, Us.b0 s, Us.b1 s, Us.b2 s, Us.b3 s, Us.b4 s, Us.b5 s, Us.b6 s, Us.it s, Us.ac s) n (B := 9999) hn (by omega) (by omega) (by exact hV.1) (by exact TPs.ch hV.2.1 rfl rfl rfl rfl rfl rfl) (by exact hK.cpy hV.2.2.1) (by exact hV.2.2.2.1)
        rw [er4] at hr4
        refine CALL_same (r := none) (h1 := hUs r4) (by decide) (hr4) ?_
        refine And.intro (fun c5 => ?_) (fun c5 => absurd (by decide) c5)
        refine hJ 95 _ _ _ ?_
        refine And.intro (fun c6 => ?_) (fun c6 => ?_)
        · skip
          refine hJ 109 _ _ _ ?_
          refine CALL_sub (r := some (.int (m_X7_held (Sc.kn (Sf.c (Us.ah r4))) (Sc.sz (Sf.c (Us.ah r4))) (Sc.ou (Sf.c (Us.ah r4)))))) (h' := hUs r4) [13, 14, 15, 16, 17, 18] (by decide) (c_X7_held l hf (Sf.c (Us.ah r4)) 44 57 59 61) rfl rfl (by decide) (by decide) rfl ?_
          exact And.intro True.intro (DPis (F := (fun z => hUs z)) (s' := r4) ((if_pos c1).trans ((if_pos c2).trans ((if_neg c3).trans ((bindv_eq er4).trans (if_neg c6))))))
        · skip
          refine CALL_sub (r := some (.int (m_X7_all (Sc.kn (Sf.c (Us.ah r4))) (Sc.sz (Sf.c (Us.ah r4))) (Sc.ou (Sf.c (Us.ah r4)))))) (h' := hUs r4) [13, 14, 15, 16, 17, 18] (by decide) (c_X7_all l hf (Sf.c (Us.ah r4)) 44 57 59 61) rfl rfl (by decide) (by decide) rfl ?_
          refine hJ 116 _ _ _ ?_
          exact And.intro True.intro (DPis (F := (fun z => hUs z)) (s' := r4) ((if_pos c1).trans ((if_pos c2).trans ((if_neg c3).trans ((bindv_eq er4).trans (if_pos c6))))))
      · skip
        exact And.intro True.intro (DPis (F := (fun z => hUs z)) (s' := s) ((if_pos c1).trans ((if_pos c2).trans (if_pos c3))))
    · skip
      refine And.intro (fun c7 => ?_) (fun c7 => ?_)
      · skip
        refine hJ 41 _ _ _ ?_
        refine CALL_sub (h' := hUs s) [] (by decide) (c_X11_areTides l hf n) rfl rfl (by decide) (by decide) rfl ?_
        refine And.intro (fun c8 => ?_) (fun c8 => ?_)
        · skip
          obtain ⟨N, hN, hn⟩ := at_of c8
          refine hJ 51 _ _ _ ?_
          refine CALL_sub (r := none) (h' := wUs (Us.nw s) (Us.kp s) (Us.ah s) (Us.h s) (Us.k0 s) (Us.k1 s) (Us.k2 s) (Us.k3 s) (Us.k4 s) (Us.k5 s) (Us.k6 s) (fgt (Us.h s) (Us.st s)) (Us.l0 s) (Us.l1 s) (Us.l2 s) (Us.l3 s) (Us.l4 s) (Us.l5 s) (Us.b0 s) (Us.b1 s) (Us.b2 s) (Us.b3 s) (Us.b4 s) (Us.b5 s) (Us.b6 s) (Us.it s) (Us.ac s)) [19, 28] (by decide) (c_X1_forget l hf (Us.h s, Us.st s) 21 20) rfl rfl (by decide) (by decide) rfl ?_
          refine CALL_sub (r := none) (h' := wUs (Us.nw s) (Us.kp s) (becR (Sf.c (Us.ah s)) (Sf.c (Us.nw s)), Sf.tp (Us.ah s), Sf.se (Us.ah s), Sf.pl (Us.ah s), Sf.bk (Us.ah s)) (Us.h s) (Us.k0 s) (Us.k1 s) (Us.k2 s) (Us.k3 s) (Us.k4 s) (Us.k5 s) (Us.k6 s) (fgt (Us.h s) (Us.st s)) (Us.l0 s) (Us.l1 s) (Us.l2 s) (Us.l3 s) (Us.l4 s) (Us.l5 s) (Us.b0 s) (Us.b1 s) (Us.b2 s) (Us.b3 s) (Us.b4 s) (Us.b5 s) (Us.b6 s) (Us.it s) (Us.ac s)) [13, 14, 15, 16, 17, 18, 1, 2, 3, 4, 5, 6] (by decide) (c_X7_becomeRow l hf (Sf.c (Us.ah s), Sf.c (Us.nw s)) 44 57 59 61 42 45 47 49) rfl rfl (by decide) (by decide) rfl ?_
          obtain ⟨r9, er9⟩ : ∃ z : Us, m_X11_go_p13 (Us.nw s, Us.kp s, (becR (Sf.c (Us.ah s)) (Sf.c (Us.nw s)), Sf.tp (Us.ah s), Sf.se (Us.ah s), Sf.pl (Us.ah s), Sf.bk (Us.ah s)), Us.h s, Us.k0 s, Us.k1 s, Us.k2 s, Us.k3 s, Us.k4 s, Us.k5 s, Us.k6 s, fgt (Us.h s) (Us.st s), Us.l0 s, Us.l1 s, Us.l2 s, Us.l3 s, Us.l4 s, Us.l5 s, Us.b0 s, Us.b1 s, Us.b2 s, Us.b3 s, Us.b4 s, Us.b5 s, Us.b6 s, Us.it s, Us.ac s) n = z := ⟨_, rfl⟩
          have hr9 := c_X11_go_p13 l hf (Us.nw s, Us.kp s, (becR (Sf.c (Us.ah s)) (Sf.c (Us.nw s)), Sf.tp (Us.ah s), Sf.se (Us.ah s), Sf.pl (Us.ah s), Sf.bk (Us.ah s)), Us.h s, Us.k0 s, Us.k1 s, Us.k2 s, Us.k3 s, Us.k4 s, Us.k5 s, Us.k6 s, fgt (Us.h s) (Us.st s), Us.l0 s, Us.l1 s, Us.l2 s, Us.l3 s, Us.l4 s, Us.l5 s, Us.b0 s, Us.b1 s, Us.b2 s, Us.b3 s, Us.b4 s, Us.b5 s, Us.b6 s, Us.it s, Us.ac s) n (B := 9999) hn (by omega) (by omega) (by exact hV.1) (by exact TPs.ch hV.2.1 rfl rfl rfl rfl rfl rfl) (by exact hK.cpy hV.2.2.1) (by exact hV.2.2.2.1)
          rw [er9] at hr9
          refine CALL_same (r := none) (h1 := hUs r9) (by decide) (hr9) ?_
          refine And.intro (fun c10 => ?_) (fun c10 => absurd (by decide) c10)
          refine hJ 95 _ _ _ ?_
          refine And.intro (fun c11 => ?_) (fun c11 => ?_)
          · skip
            refine hJ 109 _ _ _ ?_
            refine CALL_sub (r := some (.int (m_X7_held (Sc.kn (Sf.c (Us.ah r9))) (Sc.sz (Sf.c (Us.ah r9))) (Sc.ou (Sf.c (Us.ah r9)))))) (h' := hUs r9) [13, 14, 15, 16, 17, 18] (by decide) (c_X7_held l hf (Sf.c (Us.ah r9)) 44 57 59 61) rfl rfl (by decide) (by decide) rfl ?_
            exact And.intro True.intro (DPis (F := (fun z => hUs z)) (s' := r9) ((if_pos c1).trans ((if_neg c2).trans ((if_pos c7).trans ((if_neg c8).trans ((bindv_eq er9).trans (if_neg c11)))))))
          · skip
            refine CALL_sub (r := some (.int (m_X7_all (Sc.kn (Sf.c (Us.ah r9))) (Sc.sz (Sf.c (Us.ah r9))) (Sc.ou (Sf.c (Us.ah r9)))))) (h' := hUs r9) [13, 14, 15, 16, 17, 18] (by decide) (c_X7_all l hf (Sf.c (Us.ah r9)) 44 57 59 61) rfl rfl (by decide) (by decide) rfl ?_
            refine hJ 116 _ _ _ ?_
            exact And.intro True.intro (DPis (F := (fun z => hUs z)) (s' := r9) ((if_pos c1).trans ((if_neg c2).trans ((if_pos c7).trans ((if_neg c8).trans ((bindv_eq er9).trans (if_pos c11)))))))
        · skip
          exact And.intro True.intro (DPis (F := (fun z => hUs z)) (s' := s) ((if_pos c1).trans ((if_neg c2).trans ((if_pos c7).trans (if_pos c8)))))
      · skip
        refine And.intro (fun c12 => absurd (by decide) c12) (fun c12 => ?_)
        exact And.intro True.intro (DPis (F := (fun z => hUs z)) (s' := s) ((if_pos c1).trans ((if_neg c2).trans (if_neg c7))))
  · skip
    refine CALL_sub (r := some (.int (m_X7_has (Sc.sz (Sf.c (Us.nw s))) (w - nI 10)))) (h' := hUs s) [1, 2, 3, 4, 5, 6] (by decide) (c_X7_has l hf (Sf.c (Us.nw s)) 42 45 47 49 (w - nI 10)) rfl rfl (by decide) (by decide) rfl ?_
    refine And.intro (fun c13 => ?_) (fun c13 => ?_)
    · skip
      refine hJ 24 _ _ _ ?_
      refine And.intro (fun c14 => ?_) (fun c14 => ?_)
      · skip
        refine hJ 41 _ _ _ ?_
        refine CALL_sub (h' := hUs s) [] (by decide) (c_X11_areTides l hf n) rfl rfl (by decide) (by decide) rfl ?_
        refine And.intro (fun c15 => ?_) (fun c15 => ?_)
        · skip
          obtain ⟨N, hN, hn⟩ := at_of c15
          refine hJ 51 _ _ _ ?_
          refine CALL_sub (r := none) (h' := wUs (Us.nw s) (Us.kp s) (Us.ah s) (Us.h s) (Us.k0 s) (Us.k1 s) (Us.k2 s) (Us.k3 s) (Us.k4 s) (Us.k5 s) (Us.k6 s) (fgt (Us.h s) (Us.st s)) (Us.l0 s) (Us.l1 s) (Us.l2 s) (Us.l3 s) (Us.l4 s) (Us.l5 s) (Us.b0 s) (Us.b1 s) (Us.b2 s) (Us.b3 s) (Us.b4 s) (Us.b5 s) (Us.b6 s) (Us.it s) (Us.ac s)) [19, 28] (by decide) (c_X1_forget l hf (Us.h s, Us.st s) 21 20) rfl rfl (by decide) (by decide) rfl ?_
          refine CALL_sub (r := none) (h' := wUs (Us.nw s) (Us.kp s) (becR (Sf.c (Us.ah s)) (Sf.c (Us.nw s)), Sf.tp (Us.ah s), Sf.se (Us.ah s), Sf.pl (Us.ah s), Sf.bk (Us.ah s)) (Us.h s) (Us.k0 s) (Us.k1 s) (Us.k2 s) (Us.k3 s) (Us.k4 s) (Us.k5 s) (Us.k6 s) (fgt (Us.h s) (Us.st s)) (Us.l0 s) (Us.l1 s) (Us.l2 s) (Us.l3 s) (Us.l4 s) (Us.l5 s) (Us.b0 s) (Us.b1 s) (Us.b2 s) (Us.b3 s) (Us.b4 s) (Us.b5 s) (Us.b6 s) (Us.it s) (Us.ac s)) [13, 14, 15, 16, 17, 18, 1, 2, 3, 4, 5, 6] (by decide) (c_X7_becomeRow l hf (Sf.c (Us.ah s), Sf.c (Us.nw s)) 44 57 59 61 42 45 47 49) rfl rfl (by decide) (by decide) rfl ?_
          obtain ⟨r16, er16⟩ : ∃ z : Us, m_X11_go_p13 (Us.nw s, Us.kp s, (becR (Sf.c (Us.ah s)) (Sf.c (Us.nw s)), Sf.tp (Us.ah s), Sf.se (Us.ah s), Sf.pl (Us.ah s), Sf.bk (Us.ah s)), Us.h s, Us.k0 s, Us.k1 s, Us.k2 s, Us.k3 s, Us.k4 s, Us.k5 s, Us.k6 s, fgt (Us.h s) (Us.st s), Us.l0 s, Us.l1 s, Us.l2 s, Us.l3 s, Us.l4 s, Us.l5 s, Us.b0 s, Us.b1 s, Us.b2 s, Us.b3 s, Us.b4 s, Us.b5 s, Us.b6 s, Us.it s, Us.ac s) n = z := ⟨_, rfl⟩
          have hr16 := c_X11_go_p13 l hf (Us.nw s, Us.kp s, (becR (Sf.c (Us.ah s)) (Sf.c (Us.nw s)), Sf.tp (Us.ah s), Sf.se (Us.ah s), Sf.pl (Us.ah s), Sf.bk (Us.ah s)), Us.h s, Us.k0 s, Us.k1 s, Us.k2 s, Us.k3 s, Us.k4 s, Us.k5 s, Us.k6 s, fgt (Us.h s) (Us.st s), Us.l0 s, Us.l1 s, Us.l2 s, Us.l3 s, Us.l4 s, Us.l5 s, Us.b0 s, Us.b1 s, Us.b2 s, Us.b3 s, Us.b4 s, Us.b5 s, Us.b6 s, Us.it s, Us.ac s) n (B := 9999) hn (by omega) (by omega) (by exact hV.1) (by exact TPs.ch hV.2.1 rfl rfl rfl rfl rfl rfl) (by exact hK.cpy hV.2.2.1) (by exact hV.2.2.2.1)
          rw [er16] at hr16
          refine CALL_same (r := none) (h1 := hUs r16) (by decide) (hr16) ?_
          refine And.intro (fun c17 => ?_) (fun c17 => absurd (by decide) c17)
          refine hJ 95 _ _ _ ?_
          refine And.intro (fun c18 => ?_) (fun c18 => ?_)
          · skip
            refine hJ 109 _ _ _ ?_
            refine CALL_sub (r := some (.int (m_X7_held (Sc.kn (Sf.c (Us.ah r16))) (Sc.sz (Sf.c (Us.ah r16))) (Sc.ou (Sf.c (Us.ah r16)))))) (h' := hUs r16) [13, 14, 15, 16, 17, 18] (by decide) (c_X7_held l hf (Sf.c (Us.ah r16)) 44 57 59 61) rfl rfl (by decide) (by decide) rfl ?_
            exact And.intro True.intro (DPis (F := (fun z => hUs z)) (s' := r16) ((if_neg c1).trans ((if_pos c13).trans ((if_pos c14).trans ((if_neg c15).trans ((bindv_eq er16).trans (if_neg c18)))))))
          · skip
            refine CALL_sub (r := some (.int (m_X7_all (Sc.kn (Sf.c (Us.ah r16))) (Sc.sz (Sf.c (Us.ah r16))) (Sc.ou (Sf.c (Us.ah r16)))))) (h' := hUs r16) [13, 14, 15, 16, 17, 18] (by decide) (c_X7_all l hf (Sf.c (Us.ah r16)) 44 57 59 61) rfl rfl (by decide) (by decide) rfl ?_
            refine hJ 116 _ _ _ ?_
            exact And.intro True.intro (DPis (F := (fun z => hUs z)) (s' := r16) ((if_neg c1).trans ((if_pos c13).trans ((if_pos c14).trans ((if_neg c15).trans ((bindv_eq er16).trans (if_pos c18)))))))
        · skip
          exact And.intro True.intro (DPis (F := (fun z => hUs z)) (s' := s) ((if_neg c1).trans ((if_pos c13).trans ((if_pos c14).trans (if_pos c15)))))
      · skip
        refine And.intro (fun c19 => ?_) (fun c19 => ?_)
        · skip
          refine hJ 41 _ _ _ ?_
          refine CALL_sub (h' := hUs s) [] (by decide) (c_X11_areTides l hf n) rfl rfl (by decide) (by decide) rfl ?_
          refine And.intro (fun c20 => ?_) (fun c20 => ?_)
          · skip
            obtain ⟨N, hN, hn⟩ := at_of c20
            refine hJ 51 _ _ _ ?_
            refine CALL_sub (r := none) (h' := wUs (Us.nw s) (Us.kp s) (Us.ah s) (Us.h s) (Us.k0 s) (Us.k1 s) (Us.k2 s) (Us.k3 s) (Us.k4 s) (Us.k5 s) (Us.k6 s) (fgt (Us.h s) (Us.st s)) (Us.l0 s) (Us.l1 s) (Us.l2 s) (Us.l3 s) (Us.l4 s) (Us.l5 s) (Us.b0 s) (Us.b1 s) (Us.b2 s) (Us.b3 s) (Us.b4 s) (Us.b5 s) (Us.b6 s) (Us.it s) (Us.ac s)) [19, 28] (by decide) (c_X1_forget l hf (Us.h s, Us.st s) 21 20) rfl rfl (by decide) (by decide) rfl ?_
            refine CALL_sub (r := none) (h' := wUs (Us.nw s) (Us.kp s) (becR (Sf.c (Us.ah s)) (Sf.c (Us.nw s)), Sf.tp (Us.ah s), Sf.se (Us.ah s), Sf.pl (Us.ah s), Sf.bk (Us.ah s)) (Us.h s) (Us.k0 s) (Us.k1 s) (Us.k2 s) (Us.k3 s) (Us.k4 s) (Us.k5 s) (Us.k6 s) (fgt (Us.h s) (Us.st s)) (Us.l0 s) (Us.l1 s) (Us.l2 s) (Us.l3 s) (Us.l4 s) (Us.l5 s) (Us.b0 s) (Us.b1 s) (Us.b2 s) (Us.b3 s) (Us.b4 s) (Us.b5 s) (Us.b6 s) (Us.it s) (Us.ac s)) [13, 14, 15, 16, 17, 18, 1, 2, 3, 4, 5, 6] (by decide) (c_X7_becomeRow l hf (Sf.c (Us.ah s), Sf.c (Us.nw s)) 44 57 59 61 42 45 47 49) rfl rfl (by decide) (by decide) rfl ?_
            obtain ⟨r21, er21⟩ : ∃ z : Us, m_X11_go_p13 (Us.nw s, Us.kp s, (becR (Sf.c (Us.ah s)) (Sf.c (Us.nw s)), Sf.tp (Us.ah s), Sf.se (Us.ah s), Sf.pl (Us.ah s), Sf.bk (Us.ah s)), Us.h s, Us.k0 s, Us.k1 s, Us.k2 s, Us.k3 s, Us.k4 s, Us.k5 s, Us.k6 s, fgt (Us.h s) (Us.st s), Us.l0 s, Us.l1 s, Us.l2 s, Us.l3 s, Us.l4 s, Us.l5 s, Us.b0 s, Us.b1 s, Us.b2 s, Us.b3 s, Us.b4 s, Us.b5 s, Us.b6 s, Us.it s, Us.ac s) n = z := ⟨_, rfl⟩
            have hr21 := c_X11_go_p13 l hf (Us.nw s, Us.kp s, (becR (Sf.c (Us.ah s)) (Sf.c (Us.nw s)), Sf.tp (Us.ah s), Sf.se (Us.ah s), Sf.pl (Us.ah s), Sf.bk (Us.ah s)), Us.h s, Us.k0 s, Us.k1 s, Us.k2 s, Us.k3 s, Us.k4 s, Us.k5 s, Us.k6 s, fgt (Us.h s) (Us.st s), Us.l0 s, Us.l1 s, Us.l2 s, Us.l3 s, Us.l4 s, Us.l5 s, Us.b0 s, Us.b1 s, Us.b2 s, Us.b3 s, Us.b4 s, Us.b5 s, Us.b6 s, Us.it s, Us.ac s) n (B := 9999) hn (by omega) (by omega) (by exact hV.1) (by exact TPs.ch hV.2.1 rfl rfl rfl rfl rfl rfl) (by exact hK.cpy hV.2.2.1) (by exact hV.2.2.2.1)
            rw [er21] at hr21
            refine CALL_same (r := none) (h1 := hUs r21) (by decide) (hr21) ?_
            refine And.intro (fun c22 => ?_) (fun c22 => absurd (by decide) c22)
            refine hJ 95 _ _ _ ?_
            refine And.intro (fun c23 => ?_) (fun c23 => ?_)
            · skip
              refine hJ 109 _ _ _ ?_
              refine CALL_sub (r := some (.int (m_X7_held (Sc.kn (Sf.c (Us.ah r21))) (Sc.sz (Sf.c (Us.ah r21))) (Sc.ou (Sf.c (Us.ah r21)))))) (h' := hUs r21) [13, 14, 15, 16, 17, 18] (by decide) (c_X7_held l hf (Sf.c (Us.ah r21)) 44 57 59 61) rfl rfl (by decide) (by decide) rfl ?_
              exact And.intro True.intro (DPis (F := (fun z => hUs z)) (s' := r21) ((if_neg c1).trans ((if_pos c13).trans ((if_neg c14).trans ((if_pos c19).trans ((if_neg c20).trans ((bindv_eq er21).trans (if_neg c23))))))))
            · skip
              refine CALL_sub (r := some (.int (m_X7_all (Sc.kn (Sf.c (Us.ah r21))) (Sc.sz (Sf.c (Us.ah r21))) (Sc.ou (Sf.c (Us.ah r21)))))) (h' := hUs r21) [13, 14, 15, 16, 17, 18] (by decide) (c_X7_all l hf (Sf.c (Us.ah r21)) 44 57 59 61) rfl rfl (by decide) (by decide) rfl ?_
              refine hJ 116 _ _ _ ?_
              exact And.intro True.intro (DPis (F := (fun z => hUs z)) (s' := r21) ((if_neg c1).trans ((if_pos c13).trans ((if_neg c14).trans ((if_pos c19).trans ((if_neg c20).trans ((bindv_eq er21).trans (if_pos c23))))))))
          · skip
            exact And.intro True.intro (DPis (F := (fun z => hUs z)) (s' := s) ((if_neg c1).trans ((if_pos c13).trans ((if_neg c14).trans ((if_pos c19).trans (if_pos c20))))))
        · skip
          refine And.intro (fun c24 => absurd (by decide) c24) (fun c24 => ?_)
          exact And.intro True.intro (DPis (F := (fun z => hUs z)) (s' := s) ((if_neg c1).trans ((if_pos c13).trans ((if_neg c14).trans (if_neg c19)))))
    · skip
      have hq := has_of c13
      refine hJ 25 _ _ _ ?_
      refine And.intro (fun c25 => ?_) (fun c25 => ?_)
      · skip
        refine hJ 41 _ _ _ ?_
        refine CALL_sub (h' := hUs s) [] (by decide) (c_X11_areTides l hf n) rfl rfl (by decide) (by decide) rfl ?_
        refine And.intro (fun c26 => ?_) (fun c26 => ?_)
        · skip
          obtain ⟨N, hN, hn⟩ := at_of c26
          refine hJ 51 _ _ _ ?_
          refine CALL_sub (r := none) (h' := wUs (Us.nw s) (Us.kp s) (Us.ah s) (Us.h s) (Us.k0 s) (Us.k1 s) (Us.k2 s) (Us.k3 s) (Us.k4 s) (Us.k5 s) (Us.k6 s) (fgt (Us.h s) (Us.st s)) (Us.l0 s) (Us.l1 s) (Us.l2 s) (Us.l3 s) (Us.l4 s) (Us.l5 s) (Us.b0 s) (Us.b1 s) (Us.b2 s) (Us.b3 s) (Us.b4 s) (Us.b5 s) (Us.b6 s) (Us.it s) (Us.ac s)) [19, 28] (by decide) (c_X1_forget l hf (Us.h s, Us.st s) 21 20) rfl rfl (by decide) (by decide) rfl ?_
          refine CALL_sub (r := none) (h' := wUs (Us.nw s) (Us.kp s) (becR (Sf.c (Us.ah s)) (Sf.c (Us.nw s)), Sf.tp (Us.ah s), Sf.se (Us.ah s), Sf.pl (Us.ah s), Sf.bk (Us.ah s)) (Us.h s) (Us.k0 s) (Us.k1 s) (Us.k2 s) (Us.k3 s) (Us.k4 s) (Us.k5 s) (Us.k6 s) (fgt (Us.h s) (Us.st s)) (Us.l0 s) (Us.l1 s) (Us.l2 s) (Us.l3 s) (Us.l4 s) (Us.l5 s) (Us.b0 s) (Us.b1 s) (Us.b2 s) (Us.b3 s) (Us.b4 s) (Us.b5 s) (Us.b6 s) (Us.it s) (Us.ac s)) [13, 14, 15, 16, 17, 18, 1, 2, 3, 4, 5, 6] (by decide) (c_X7_becomeRow l hf (Sf.c (Us.ah s), Sf.c (Us.nw s)) 44 57 59 61 42 45 47 49) rfl rfl (by decide) (by decide) rfl ?_
          obtain ⟨r27, er27⟩ : ∃ z : Us, m_X11_go_p13 (Us.nw s, Us.kp s, (becR (Sf.c (Us.ah s)) (Sf.c (Us.nw s)), Sf.tp (Us.ah s), Sf.se (Us.ah s), Sf.pl (Us.ah s), Sf.bk (Us.ah s)), Us.h s, Us.k0 s, Us.k1 s, Us.k2 s, Us.k3 s, Us.k4 s, Us.k5 s, Us.k6 s, fgt (Us.h s) (Us.st s), Us.l0 s, Us.l1 s, Us.l2 s, Us.l3 s, Us.l4 s, Us.l5 s, Us.b0 s, Us.b1 s, Us.b2 s, Us.b3 s, Us.b4 s, Us.b5 s, Us.b6 s, Us.it s, Us.ac s) n = z := ⟨_, rfl⟩
          have hr27 := c_X11_go_p13 l hf (Us.nw s, Us.kp s, (becR (Sf.c (Us.ah s)) (Sf.c (Us.nw s)), Sf.tp (Us.ah s), Sf.se (Us.ah s), Sf.pl (Us.ah s), Sf.bk (Us.ah s)), Us.h s, Us.k0 s, Us.k1 s, Us.k2 s, Us.k3 s, Us.k4 s, Us.k5 s, Us.k6 s, fgt (Us.h s) (Us.st s), Us.l0 s, Us.l1 s, Us.l2 s, Us.l3 s, Us.l4 s, Us.l5 s, Us.b0 s, Us.b1 s, Us.b2 s, Us.b3 s, Us.b4 s, Us.b5 s, Us.b6 s, Us.it s, Us.ac s) n (B := 9999) hn (by omega) (by omega) (by exact hV.1) (by exact TPs.ch hV.2.1 rfl rfl rfl rfl rfl rfl) (by exact hK.cpy hV.2.2.1) (by exact hV.2.2.2.1)
          rw [er27] at hr27
          refine CALL_same (r := none) (h1 := hUs r27) (by decide) (hr27) ?_
          refine And.intro (fun c28 => absurd c28 (by decide)) (fun c28 => ?_)
          refine And.intro (hq) ?_
          exact And.intro True.intro (DPis (F := (fun z => hUs z)) (s' := r27) ((if_neg c1).trans ((if_neg c13).trans ((if_pos c25).trans ((if_neg c26).trans (bindv_eq er27))))))
        · skip
          exact And.intro True.intro (DPis (F := (fun z => hUs z)) (s' := s) ((if_neg c1).trans ((if_neg c13).trans ((if_pos c25).trans (if_pos c26)))))
      · skip
        refine And.intro (fun c29 => ?_) (fun c29 => ?_)
        · skip
          refine hJ 41 _ _ _ ?_
          refine CALL_sub (h' := hUs s) [] (by decide) (c_X11_areTides l hf n) rfl rfl (by decide) (by decide) rfl ?_
          refine And.intro (fun c30 => ?_) (fun c30 => ?_)
          · skip
            obtain ⟨N, hN, hn⟩ := at_of c30
            refine hJ 51 _ _ _ ?_
            refine CALL_sub (r := none) (h' := wUs (Us.nw s) (Us.kp s) (Us.ah s) (Us.h s) (Us.k0 s) (Us.k1 s) (Us.k2 s) (Us.k3 s) (Us.k4 s) (Us.k5 s) (Us.k6 s) (fgt (Us.h s) (Us.st s)) (Us.l0 s) (Us.l1 s) (Us.l2 s) (Us.l3 s) (Us.l4 s) (Us.l5 s) (Us.b0 s) (Us.b1 s) (Us.b2 s) (Us.b3 s) (Us.b4 s) (Us.b5 s) (Us.b6 s) (Us.it s) (Us.ac s)) [19, 28] (by decide) (c_X1_forget l hf (Us.h s, Us.st s) 21 20) rfl rfl (by decide) (by decide) rfl ?_
            refine CALL_sub (r := none) (h' := wUs (Us.nw s) (Us.kp s) (becR (Sf.c (Us.ah s)) (Sf.c (Us.nw s)), Sf.tp (Us.ah s), Sf.se (Us.ah s), Sf.pl (Us.ah s), Sf.bk (Us.ah s)) (Us.h s) (Us.k0 s) (Us.k1 s) (Us.k2 s) (Us.k3 s) (Us.k4 s) (Us.k5 s) (Us.k6 s) (fgt (Us.h s) (Us.st s)) (Us.l0 s) (Us.l1 s) (Us.l2 s) (Us.l3 s) (Us.l4 s) (Us.l5 s) (Us.b0 s) (Us.b1 s) (Us.b2 s) (Us.b3 s) (Us.b4 s) (Us.b5 s) (Us.b6 s) (Us.it s) (Us.ac s)) [13, 14, 15, 16, 17, 18, 1, 2, 3, 4, 5, 6] (by decide) (c_X7_becomeRow l hf (Sf.c (Us.ah s), Sf.c (Us.nw s)) 44 57 59 61 42 45 47 49) rfl rfl (by decide) (by decide) rfl ?_
            obtain ⟨r31, er31⟩ : ∃ z : Us, m_X11_go_p13 (Us.nw s, Us.kp s, (becR (Sf.c (Us.ah s)) (Sf.c (Us.nw s)), Sf.tp (Us.ah s), Sf.se (Us.ah s), Sf.pl (Us.ah s), Sf.bk (Us.ah s)), Us.h s, Us.k0 s, Us.k1 s, Us.k2 s, Us.k3 s, Us.k4 s, Us.k5 s, Us.k6 s, fgt (Us.h s) (Us.st s), Us.l0 s, Us.l1 s, Us.l2 s, Us.l3 s, Us.l4 s, Us.l5 s, Us.b0 s, Us.b1 s, Us.b2 s, Us.b3 s, Us.b4 s, Us.b5 s, Us.b6 s, Us.it s, Us.ac s) n = z := ⟨_, rfl⟩
            have hr31 := c_X11_go_p13 l hf (Us.nw s, Us.kp s, (becR (Sf.c (Us.ah s)) (Sf.c (Us.nw s)), Sf.tp (Us.ah s), Sf.se (Us.ah s), Sf.pl (Us.ah s), Sf.bk (Us.ah s)), Us.h s, Us.k0 s, Us.k1 s, Us.k2 s, Us.k3 s, Us.k4 s, Us.k5 s, Us.k6 s, fgt (Us.h s) (Us.st s), Us.l0 s, Us.l1 s, Us.l2 s, Us.l3 s, Us.l4 s, Us.l5 s, Us.b0 s, Us.b1 s, Us.b2 s, Us.b3 s, Us.b4 s, Us.b5 s, Us.b6 s, Us.it s, Us.ac s) n (B := 9999) hn (by omega) (by omega) (by exact hV.1) (by exact TPs.ch hV.2.1 rfl rfl rfl rfl rfl rfl) (by exact hK.cpy hV.2.2.1) (by exact hV.2.2.2.1)
            rw [er31] at hr31
            refine CALL_same (r := none) (h1 := hUs r31) (by decide) (hr31) ?_
            refine And.intro (fun c32 => absurd c32 (by decide)) (fun c32 => ?_)
            refine And.intro (hq) ?_
            exact And.intro True.intro (DPis (F := (fun z => hUs z)) (s' := r31) ((if_neg c1).trans ((if_neg c13).trans ((if_neg c25).trans ((if_pos c29).trans ((if_neg c30).trans (bindv_eq er31)))))))
          · skip
            exact And.intro True.intro (DPis (F := (fun z => hUs z)) (s' := s) ((if_neg c1).trans ((if_neg c13).trans ((if_neg c25).trans ((if_pos c29).trans (if_pos c30))))))
        · skip
          refine And.intro (fun c33 => ?_) (fun c33 => absurd c33 (by decide))
          refine hJ 41 _ _ _ ?_
          refine CALL_sub (h' := hUs s) [] (by decide) (c_X11_areTides l hf n) rfl rfl (by decide) (by decide) rfl ?_
          refine And.intro (fun c34 => ?_) (fun c34 => ?_)
          · skip
            obtain ⟨N, hN, hn⟩ := at_of c34
            refine hJ 51 _ _ _ ?_
            refine CALL_sub (r := none) (h' := wUs (Us.nw s) (Us.kp s) (Us.ah s) (Us.h s) (Us.k0 s) (Us.k1 s) (Us.k2 s) (Us.k3 s) (Us.k4 s) (Us.k5 s) (Us.k6 s) (fgt (Us.h s) (Us.st s)) (Us.l0 s) (Us.l1 s) (Us.l2 s) (Us.l3 s) (Us.l4 s) (Us.l5 s) (Us.b0 s) (Us.b1 s) (Us.b2 s) (Us.b3 s) (Us.b4 s) (Us.b5 s) (Us.b6 s) (Us.it s) (Us.ac s)) [19, 28] (by decide) (c_X1_forget l hf (Us.h s, Us.st s) 21 20) rfl rfl (by decide) (by decide) rfl ?_
            refine CALL_sub (r := none) (h' := wUs (Us.nw s) (Us.kp s) (becR (Sf.c (Us.ah s)) (Sf.c (Us.nw s)), Sf.tp (Us.ah s), Sf.se (Us.ah s), Sf.pl (Us.ah s), Sf.bk (Us.ah s)) (Us.h s) (Us.k0 s) (Us.k1 s) (Us.k2 s) (Us.k3 s) (Us.k4 s) (Us.k5 s) (Us.k6 s) (fgt (Us.h s) (Us.st s)) (Us.l0 s) (Us.l1 s) (Us.l2 s) (Us.l3 s) (Us.l4 s) (Us.l5 s) (Us.b0 s) (Us.b1 s) (Us.b2 s) (Us.b3 s) (Us.b4 s) (Us.b5 s) (Us.b6 s) (Us.it s) (Us.ac s)) [13, 14, 15, 16, 17, 18, 1, 2, 3, 4, 5, 6] (by decide) (c_X7_becomeRow l hf (Sf.c (Us.ah s), Sf.c (Us.nw s)) 44 57 59 61 42 45 47 49) rfl rfl (by decide) (by decide) rfl ?_
            obtain ⟨r35, er35⟩ : ∃ z : Us, m_X11_go_p13 (Us.nw s, Us.kp s, (becR (Sf.c (Us.ah s)) (Sf.c (Us.nw s)), Sf.tp (Us.ah s), Sf.se (Us.ah s), Sf.pl (Us.ah s), Sf.bk (Us.ah s)), Us.h s, Us.k0 s, Us.k1 s, Us.k2 s, Us.k3 s, Us.k4 s, Us.k5 s, Us.k6 s, fgt (Us.h s) (Us.st s), Us.l0 s, Us.l1 s, Us.l2 s, Us.l3 s, Us.l4 s, Us.l5 s, Us.b0 s, Us.b1 s, Us.b2 s, Us.b3 s, Us.b4 s, Us.b5 s, Us.b6 s, Us.it s, Us.ac s) n = z := ⟨_, rfl⟩
            have hr35 := c_X11_go_p13 l hf (Us.nw s, Us.kp s, (becR (Sf.c (Us.ah s)) (Sf.c (Us.nw s)), Sf.tp (Us.ah s), Sf.se (Us.ah s), Sf.pl (Us.ah s), Sf.bk (Us.ah s)), Us.h s, Us.k0 s, Us.k1 s, Us.k2 s, Us.k3 s, Us.k4 s, Us.k5 s, Us.k6 s, fgt (Us.h s) (Us.st s), Us.l0 s, Us.l1 s, Us.l2 s, Us.l3 s, Us.l4 s, Us.l5 s, Us.b0 s, Us.b1 s, Us.b2 s, Us.b3 s, Us.b4 s, Us.b5 s, Us.b6 s, Us.it s, Us.ac s) n (B := 9999) hn (by omega) (by omega) (by exact hV.1) (by exact TPs.ch hV.2.1 rfl rfl rfl rfl rfl rfl) (by exact hK.cpy hV.2.2.1) (by exact hV.2.2.2.1)
            rw [er35] at hr35
            refine CALL_same (r := none) (h1 := hUs r35) (by decide) (hr35) ?_
            refine And.intro (fun c36 => absurd c36 (by decide)) (fun c36 => ?_)
            refine And.intro (hq) ?_
            exact And.intro True.intro (DPis (F := (fun z => hUs z)) (s' := r35) ((if_neg c1).trans ((if_neg c13).trans ((if_neg c25).trans ((if_neg c29).trans ((if_neg c34).trans (bindv_eq er35)))))))
          · skip
            exact And.intro True.intro (DPis (F := (fun z => hUs z)) (s' := s) ((if_neg c1).trans ((if_neg c13).trans ((if_neg c25).trans ((if_neg c29).trans (if_pos c34))))))
def l_X11_tidesAheadWith_7 (s : Us) (f : Int32) (L : Lg) : Nat → Int32 → Us → Int32 × Us
  | 0, _, _ => (0, s)
  | n7 + 1, n, m1 => if nI 60 < n then (nI 61, m1) else (if ((m_X7_all (Sc.kn (Sf.c (Us.ah m1))) (Sc.sz (Sf.c (Us.ah m1))) (Sc.ou (Sf.c (Us.ah m1)))) &&& (nI 1 <<< (f &&& 31))) = 0 then (n, m1) else (bindv (m_X7_goTide (Sf.c (Us.ah m1), Us.h m1, Us.k0 m1, Us.k1 m1, Us.k2 m1, Us.k3 m1, Us.k4 m1, Us.k5 m1, Us.k6 m1, Us.st m1, L) (m_X7_lessonNow (Sc.le (Sf.c (Us.ah m1))) (Sc.ti (Sf.c (Us.ah m1))))) (fun r3 => l_X11_tidesAheadWith_7 s f L n7 (n + nI 1) (Us.nw m1, Us.kp m1, (Wt.c r3, Sf.tp (Us.ah m1), Sf.se (Us.ah m1), Sf.pl (Us.ah m1), Sf.bk (Us.ah m1)), Wt.h r3, Wt.k0 r3, Wt.k1 r3, Wt.k2 r3, Wt.k3 r3, Wt.k4 r3, Wt.k5 r3, Wt.k6 r3, Wt.st r3, Us.l0 m1, Us.l1 m1, Us.l2 m1, Us.l3 m1, Us.l4 m1, Us.l5 m1, Us.b0 m1, Us.b1 m1, Us.b2 m1, Us.b3 m1, Us.b4 m1, Us.b5 m1, Us.b6 m1, Us.it m1, Us.ac m1))))
theorem q_X11_tidesAheadWith_7 (s : Us) (f : Int32) (L : Lg) (n7 : Nat) (n : Int32) (m1 : Us) : l_X11_tidesAheadWith_7 s f L (n7 + 1) n m1 = (if nI 60 < n then (nI 61, m1) else (if ((m_X7_all (Sc.kn (Sf.c (Us.ah m1))) (Sc.sz (Sf.c (Us.ah m1))) (Sc.ou (Sf.c (Us.ah m1)))) &&& (nI 1 <<< (f &&& 31))) = 0 then (n, m1) else (bindv (m_X7_goTide (Sf.c (Us.ah m1), Us.h m1, Us.k0 m1, Us.k1 m1, Us.k2 m1, Us.k3 m1, Us.k4 m1, Us.k5 m1, Us.k6 m1, Us.st m1, L) (m_X7_lessonNow (Sc.le (Sf.c (Us.ah m1))) (Sc.ti (Sf.c (Us.ah m1))))) (fun r3 => l_X11_tidesAheadWith_7 s f L n7 (n + nI 1) (Us.nw m1, Us.kp m1, (Wt.c r3, Sf.tp (Us.ah m1), Sf.se (Us.ah m1), Sf.pl (Us.ah m1), Sf.bk (Us.ah m1)), Wt.h r3, Wt.k0 r3, Wt.k1 r3, Wt.k2 r3, Wt.k3 r3, Wt.k4 r3, Wt.k5 r3, Wt.k6 r3, Wt.st r3, Us.l0 m1, Us.l1 m1, Us.l2 m1, Us.l3 m1, Us.l4 m1, Us.l5 m1, Us.b0 m1, Us.b1 m1, Us.b2 m1, Us.b3 m1, Us.b4 m1, Us.b5 m1, Us.b6 m1, Us.it m1, Us.ac m1))))) := rfl
def m_X11_tidesAheadWith (s : Us) (f : Int32) : Int32 × Us := bindv (holdL (Sc.lg (Sf.c (Us.nw s))) (Us.l0 s) (Us.l1 s) (Us.l2 s) (Us.l3 s) (Us.l4 s) (Us.l5 s)) (fun L => l_X11_tidesAheadWith_7 s f L 62 (nI 0) s)
set_option maxRecDepth 100000 in
set_option maxHeartbeats 4000000 in
theorem c_X11_tidesAheadWith (l : Launch) {fv : Value} (hf : FV fv) (s : Us) (f : Int32) (hl : rl 5 (Sc.lg (Sf.c (Us.nw s)))) (ht : TPs s) (hk : hK (Sc.sz (Sf.c (Us.ah s))) (Sc.kd (Sf.c (Us.ah s)))) (hT : rl 9999 (Sc.ti (Sf.c (Us.ah s)))) : CT l fv 6 jX11_tidesAheadWith [.ref 0, .int f] (hUs s) (DP (some (.int (m_X11_tidesAheadWith s f).1)) (hUs ((m_X11_tidesAheadWith s f).2))) := by
  refine CT_of [7] mt_X11_tidesAheadWith (by decide +kernel) (tab_X11 hf) okX11_tidesAheadWith (Nat.le_of_ble_eq_true rfl) ?_
  intro J hJ hD
  refine hJ 0 _ _ _ ?_
  obtain ⟨L, eL⟩ : ∃ z, holdL (Sc.lg (Sf.c (Us.nw s))) (Us.l0 s) (Us.l1 s) (Us.l2 s) (Us.l3 s) (Us.l4 s) (Us.l5 s) = z := ⟨_, rfl⟩
  obtain ⟨q, eq⟩ : ∃ z, holdP (Sc.lg (Sf.c (Us.nw s))) = z := ⟨_, rfl⟩
  have hQ := hold_q (s := s) ht hl eL eq
  have hcq := c_X11_holding l hf s hl
  have hcq : CT l fv 1 jX11_holding [.ref 0] (hUs s) (DP (some (.ref q)) (hUs s)) := by rw [← eq]; exact hcq
  refine CALL_same (r := some (.ref q)) (h1 := hUs s) (by decide) hcq ?_
  have L7 : ∀ (n7 : Nat) (n : Int32) (m1 : Us), (∃ z9 : Nat, z9 ≤ 61 ∧ n7 + z9 = 62 ∧ n = nI z9 ∧ HQ q L m1 ∧ hK (Sc.sz (Sf.c (Us.ah m1))) (Sc.kd (Sf.c (Us.ah m1))) ∧ rl (9999 + z9) (Sc.ti (Sf.c (Us.ah m1)))) → m_X11_tidesAheadWith s f = l_X11_tidesAheadWith_7 s f L n7 n m1 → J 7 [(0, .ref 0), (1, .int f), (2, .ref q), (3, .int n)] [] (hUs m1) := by
    intro n7
    induction n7 with
    | zero =>
      intro n m1 hv
      obtain ⟨z9, h1, h2, h3, hQ, h6, h7⟩ := hv
      omega
    | succ n7 ih7 =>
      intro n m1 hv e7
      obtain ⟨z9, h1, h2, h3, hQ, h6, h7⟩ := hv
      refine hJ 7 _ _ _ ?_
      refine And.intro (fun c1 => ?_) (fun c1 => ?_)
      · skip
        refine hJ 54 _ _ _ ?_
        exact And.intro True.intro (DPis (F := (fun z => hUs z)) (s' := m1) (e7.trans ((q_X11_tidesAheadWith_7 s f L n7 n m1).trans (if_pos c1))))
      · skip
        have h4 : z9 ≤ 60 := cnt_le h3 (by omega) (by decide) c1
        refine CALL_sub (r := some (.int (m_X7_all (Sc.kn (Sf.c (Us.ah m1))) (Sc.sz (Sf.c (Us.ah m1))) (Sc.ou (Sf.c (Us.ah m1)))))) (h' := hUs m1) [13, 14, 15, 16, 17, 18] (by decide) (c_X7_all l hf (Sf.c (Us.ah m1)) 44 57 59 61) rfl rfl (by decide) (by decide) rfl ?_
        refine And.intro (fun c2 => ?_) (fun c2 => ?_)
        · skip
          refine hJ 29 _ _ _ ?_
          refine CALL_sub (r := some (.int (m_X7_lessonNow (Sc.le (Sf.c (Us.ah m1))) (Sc.ti (Sf.c (Us.ah m1)))))) (h' := hUs m1) [13, 14, 15, 16, 17, 18] (by decide) (c_X7_lessonNow l hf (Sf.c (Us.ah m1)) 44 57 59 61 (h7.mono (by omega))) rfl rfl (by decide) (by decide) rfl ?_
          obtain ⟨r3, er3⟩ : ∃ z : Wt, m_X7_goTide (Sf.c (Us.ah m1), Us.h m1, Us.k0 m1, Us.k1 m1, Us.k2 m1, Us.k3 m1, Us.k4 m1, Us.k5 m1, Us.k6 m1, Us.st m1, L) (m_X7_lessonNow (Sc.le (Sf.c (Us.ah m1))) (Sc.ti (Sf.c (Us.ah m1)))) = z := ⟨_, rfl⟩
          have gr3 := gl_goTide er3
          have h8 := Tw.hk gr3.2.1 h6
          have h9 := Tw.ti gr3.2.2 h7
          refine us_goTide_ah l hf m1 (HQ.ch hQ rfl rfl rfl rfl rfl rfl) (m_X7_lessonNow (Sc.le (Sf.c (Us.ah m1))) (Sc.ti (Sf.c (Us.ah m1)))) h6 er3 gr3.1 (by decide) ?_
          exact hD _ _ [1, 2, 3, 0] _ _ (ih7 _ (Us.nw m1, Us.kp m1, (Wt.c r3, Sf.tp (Us.ah m1), Sf.se (Us.ah m1), Sf.pl (Us.ah m1), Sf.bk (Us.ah m1)), Wt.h r3, Wt.k0 r3, Wt.k1 r3, Wt.k2 r3, Wt.k3 r3, Wt.k4 r3, Wt.k5 r3, Wt.k6 r3, Wt.st r3, Us.l0 m1, Us.l1 m1, Us.l2 m1, Us.l3 m1, Us.l4 m1, Us.l5 m1, Us.b0 m1, Us.b1 m1, Us.b2 m1, Us.b3 m1, Us.b4 m1, Us.b5 m1, Us.b6 m1, Us.it m1, Us.ac m1) ⟨z9 + 1, by omega, by omega, by rw [h3]; exact nI_add z9 1, by exact HQ.ch hQ rfl rfl rfl rfl rfl rfl, by exact h8, by exact h9⟩ (e7.trans ((q_X11_tidesAheadWith_7 s f L n7 n m1).trans ((if_neg c1).trans ((if_neg c2).trans (bindv_eq er3))))))
        · skip
          exact And.intro True.intro (DPis (F := (fun z => hUs z)) (s' := m1) (e7.trans ((q_X11_tidesAheadWith_7 s f L n7 n m1).trans ((if_neg c1).trans (if_pos c2)))))
  exact hD _ _ [2, 3, 1, 0] _ _ (L7 62 _ _ ⟨0, by omega, by omega, rfl, hQ, hk, hT⟩ (bindv_eq eL))
theorem un_tides_l (s : Us) (f : Int32) (L : Lg) : ∀ (n : Nat) (i : Int32) (m1 : Us), Un s m1 → Un s (l_X11_tidesAheadWith_7 s f L n i m1).2 := by
  intro n
  induction n with
  | zero => intro i m1 h; exact Un.rf s
  | succ n ih =>
    intro i m1 h
    rw [q_X11_tidesAheadWith_7]
    unfold bindv
    split
    · exact h
    · split
      · exact h
      · exact ih _ _ h
theorem un_tides {s : Us} {f : Int32} {r : Int32 × Us} (e : m_X11_tidesAheadWith s f = r) : Un s r.2 := by
  rw [← e]
  exact un_tides_l s f _ _ _ _ (Un.rf s)
def m_X11_lasts (s : Us) (f : Int32) : Int32 × Us := if (m_X11_isFact f.toInt64) = 0 then ((-nI 1), s) else (bindv (m_X11_tidesAheadWith (Us.nw s, Us.kp s, (becR (Sf.c (Us.ah s)) (Sf.c (Us.nw s)), Sf.tp (Us.ah s), Sf.se (Us.ah s), Sf.pl (Us.ah s), Sf.bk (Us.ah s)), Us.h s, Us.k0 s, Us.k1 s, Us.k2 s, Us.k3 s, Us.k4 s, Us.k5 s, Us.k6 s, fgt (Us.h s) (Us.st s), Us.l0 s, Us.l1 s, Us.l2 s, Us.l3 s, Us.l4 s, Us.l5 s, Us.b0 s, Us.b1 s, Us.b2 s, Us.b3 s, Us.b4 s, Us.b5 s, Us.b6 s, Us.it s, Us.ac s) f) (fun r2 => if r2.1 ≤ nI 60 then (r2.1, r2.2) else ((-nI 5), r2.2)))
set_option maxRecDepth 100000 in
set_option maxHeartbeats 4000000 in
theorem c_X11_lasts (l : Launch) {fv : Value} (hf : FV fv) (s : Us) (f : Int32) (hV : Vn s) : CT l fv 7 jX11_lasts [.ref 0, .int f] (hUs s) (DP (some (.int (m_X11_lasts s f).1)) (hUs ((m_X11_lasts s f).2))) := by
  refine CT_of [] mt_X11_lasts (by decide +kernel) (tab_X11 hf) okX11_lasts (Nat.le_of_ble_eq_true rfl) ?_
  intro J hJ hD
  refine hJ 0 _ _ _ ?_
  refine CALL_sub (h' := hUs s) [] (by decide) (c_X11_isFact l hf f.toInt64) rfl rfl (by decide) (by decide) rfl ?_
  refine And.intro (fun c1 => ?_) (fun c1 => ?_)
  · skip
    refine hJ 10 _ _ _ ?_
    refine CALL_sub (r := none) (h' := wUs (Us.nw s) (Us.kp s) (Us.ah s) (Us.h s) (Us.k0 s) (Us.k1 s) (Us.k2 s) (Us.k3 s) (Us.k4 s) (Us.k5 s) (Us.k6 s) (fgt (Us.h s) (Us.st s)) (Us.l0 s) (Us.l1 s) (Us.l2 s) (Us.l3 s) (Us.l4 s) (Us.l5 s) (Us.b0 s) (Us.b1 s) (Us.b2 s) (Us.b3 s) (Us.b4 s) (Us.b5 s) (Us.b6 s) (Us.it s) (Us.ac s)) [19, 28] (by decide) (c_X1_forget l hf (Us.h s, Us.st s) 21 20) rfl rfl (by decide) (by decide) rfl ?_
    refine CALL_sub (r := none) (h' := wUs (Us.nw s) (Us.kp s) (becR (Sf.c (Us.ah s)) (Sf.c (Us.nw s)), Sf.tp (Us.ah s), Sf.se (Us.ah s), Sf.pl (Us.ah s), Sf.bk (Us.ah s)) (Us.h s) (Us.k0 s) (Us.k1 s) (Us.k2 s) (Us.k3 s) (Us.k4 s) (Us.k5 s) (Us.k6 s) (fgt (Us.h s) (Us.st s)) (Us.l0 s) (Us.l1 s) (Us.l2 s) (Us.l3 s) (Us.l4 s) (Us.l5 s) (Us.b0 s) (Us.b1 s) (Us.b2 s) (Us.b3 s) (Us.b4 s) (Us.b5 s) (Us.b6 s) (Us.it s) (Us.ac s)) [13, 14, 15, 16, 17, 18, 1, 2, 3, 4, 5, 6] (by decide) (c_X7_becomeRow l hf (Sf.c (Us.ah s), Sf.c (Us.nw s)) 44 57 59 61 42 45 47 49) rfl rfl (by decide) (by decide) rfl ?_
    obtain ⟨r2, er2⟩ : ∃ z : Int32 × Us, m_X11_tidesAheadWith (Us.nw s, Us.kp s, (becR (Sf.c (Us.ah s)) (Sf.c (Us.nw s)), Sf.tp (Us.ah s), Sf.se (Us.ah s), Sf.pl (Us.ah s), Sf.bk (Us.ah s)), Us.h s, Us.k0 s, Us.k1 s, Us.k2 s, Us.k3 s, Us.k4 s, Us.k5 s, Us.k6 s, fgt (Us.h s) (Us.st s), Us.l0 s, Us.l1 s, Us.l2 s, Us.l3 s, Us.l4 s, Us.l5 s, Us.b0 s, Us.b1 s, Us.b2 s, Us.b3 s, Us.b4 s, Us.b5 s, Us.b6 s, Us.it s, Us.ac s) f = z := ⟨_, rfl⟩
    have hr2 := c_X11_tidesAheadWith l hf (Us.nw s, Us.kp s, (becR (Sf.c (Us.ah s)) (Sf.c (Us.nw s)), Sf.tp (Us.ah s), Sf.se (Us.ah s), Sf.pl (Us.ah s), Sf.bk (Us.ah s)), Us.h s, Us.k0 s, Us.k1 s, Us.k2 s, Us.k3 s, Us.k4 s, Us.k5 s, Us.k6 s, fgt (Us.h s) (Us.st s), Us.l0 s, Us.l1 s, Us.l2 s, Us.l3 s, Us.l4 s, Us.l5 s, Us.b0 s, Us.b1 s, Us.b2 s, Us.b3 s, Us.b4 s, Us.b5 s, Us.b6 s, Us.it s, Us.ac s) f (by exact hV.1) (by exact TPs.ch hV.2.1 rfl rfl rfl rfl rfl rfl) (by exact hK.cpy hV.2.2.1) (by exact hV.2.2.2.1)
    rw [er2] at hr2
    refine CALL_same (r := some (.int r2.1)) (h1 := hUs r2.2) (by decide) (hr2) ?_
    refine And.intro (fun c3 => ?_) (fun c3 => ?_)
    · skip
      refine hJ 45 _ _ _ ?_
      exact And.intro True.intro (DPis (F := (fun z => hUs z)) (s' := r2.2) ((if_neg c1).trans ((bindv_eq er2).trans (if_pos c3))))
    · skip
      refine hJ 46 _ _ _ ?_
      exact And.intro True.intro (DPis (F := (fun z => hUs z)) (s' := r2.2) ((if_neg c1).trans ((bindv_eq er2).trans (if_neg c3))))
  · skip
    exact And.intro True.intro (DPis (F := (fun z => hUs z)) (s' := s) (if_pos c1))

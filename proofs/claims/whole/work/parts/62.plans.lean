/-! printed by wip/whole/gen/specs62.py: calls of the class, plans, books, ledges, acts, image -/
def m_X11_isPlan (znw_c_sz : Int32) (w : Int32) (n : Int32) : Int32 := if w = nI 0 then nI 1 else (if w = nI 1 then (m_X7_has (znw_c_sz) n) else (if w = nI 2 then (m_X7_has (znw_c_sz) n) else (if w = nI 3 then (if n < 0 then nI 0 else (if (m_X7_has (znw_c_sz) (n / nI 10)) = 0 then nI 0 else (if (m_X11_isFact ((n - n / nI 10 * nI 10).toInt64)) = 0 then nI 0 else nI 1))) else nI 0)))
set_option maxRecDepth 100000 in
set_option maxHeartbeats 300000 in
theorem c_X11_isPlan (l : Launch) {fv : Value} (hf : FV fv) (s : Us) (w : Int32) (n : Int32) : CT l fv 2 jX11_isPlan [.ref 0, .int w, .int n] (hUs s) (DP (some (.int (m_X11_isPlan (Sc.sz (Sf.c (Us.nw s))) w n))) (hUs s)) := by
  refine CT_of [] mt_X11_isPlan (by decide +kernel) (tab_X11 hf) okX11_isPlan (Nat.le_of_ble_eq_true rfl) ?_
  intro J hJ hD
  refine hJ 0 _ _ _ ?_
  refine And.intro (fun c1 => ?_) (And.intro (by decide) (And.intro (fun c2 => ?_) (And.intro (fun c3 => ?_) (And.intro (fun c4 => ?_) (And.intro (fun c5 => ?_) (True.intro))))))
  · skip
    refine hJ 78 _ _ _ ?_
    exact And.intro xb0 (DPi ((if_neg (sw_ne 0 c1 (by decide) (by decide) (by decide))).trans ((if_neg (sw_ne 1 c1 (by decide) (by decide) (by decide))).trans ((if_neg (sw_ne 2 c1 (by decide) (by decide) (by decide))).trans (if_neg (sw_ne 3 c1 (by decide) (by decide) (by decide)))))))
  · skip
    refine hJ 32 _ _ _ ?_
    exact And.intro xb1 (DPi (if_pos (sw_eq 0 c2 rfl (by decide))))
  · skip
    refine hJ 34 _ _ _ ?_
    refine CALL_sub (r := some (.int (m_X7_has (Sc.sz (Sf.c (Us.nw s))) n))) (h' := hUs s) [1, 2, 3, 4, 5, 6] (by decide) (c_X7_has l hf (Sf.c (Us.nw s)) 42 45 47 49 n) rfl rfl (by decide) (by decide) rfl ?_
    exact And.intro (xret_bl bl_X7_has) (DPi ((if_neg (sw_ot 0 c3 (by decide) (by decide))).trans (if_pos (sw_eq 1 c3 rfl (by decide)))))
  · skip
    refine hJ 34 _ _ _ ?_
    refine CALL_sub (r := some (.int (m_X7_has (Sc.sz (Sf.c (Us.nw s))) n))) (h' := hUs s) [1, 2, 3, 4, 5, 6] (by decide) (c_X7_has l hf (Sf.c (Us.nw s)) 42 45 47 49 n) rfl rfl (by decide) (by decide) rfl ?_
    exact And.intro (xret_bl bl_X7_has) (DPi ((if_neg (sw_ot 0 c4 (by decide) (by decide))).trans ((if_neg (sw_ot 1 c4 (by decide) (by decide))).trans (if_pos (sw_eq 2 c4 rfl (by decide))))))
  · skip
    refine hJ 43 _ _ _ ?_
    refine And.intro (fun c6 => ?_) (fun c6 => ?_)
    · skip
      refine hJ 76 _ _ _ ?_
      exact And.intro xb0 (DPi ((if_neg (sw_ot 0 c5 (by decide) (by decide))).trans ((if_neg (sw_ot 1 c5 (by decide) (by decide))).trans ((if_neg (sw_ot 2 c5 (by decide) (by decide))).trans ((if_pos (sw_eq 3 c5 rfl (by decide))).trans (if_pos c6))))))
    · skip
      refine And.intro (by decide) ?_
      refine CALL_sub (r := some (.int (m_X7_has (Sc.sz (Sf.c (Us.nw s))) (n / nI 10)))) (h' := hUs s) [1, 2, 3, 4, 5, 6] (by decide) (c_X7_has l hf (Sf.c (Us.nw s)) 42 45 47 49 (n / nI 10)) rfl rfl (by decide) (by decide) rfl ?_
      refine And.intro (fun c7 => ?_) (fun c7 => ?_)
      · skip
        refine hJ 76 _ _ _ ?_
        exact And.intro xb0 (DPi ((if_neg (sw_ot 0 c5 (by decide) (by decide))).trans ((if_neg (sw_ot 1 c5 (by decide) (by decide))).trans ((if_neg (sw_ot 2 c5 (by decide) (by decide))).trans ((if_pos (sw_eq 3 c5 rfl (by decide))).trans ((if_neg c6).trans (if_pos c7)))))))
      · skip
        refine And.intro (by decide) ?_
        refine CALL_sub (h' := hUs s) [] (by decide) (c_X11_isFact l hf ((n - n / nI 10 * nI 10).toInt64)) rfl rfl (by decide) (by decide) rfl ?_
        refine And.intro (fun c8 => ?_) (fun c8 => ?_)
        · skip
          refine hJ 76 _ _ _ ?_
          exact And.intro xb0 (DPi ((if_neg (sw_ot 0 c5 (by decide) (by decide))).trans ((if_neg (sw_ot 1 c5 (by decide) (by decide))).trans ((if_neg (sw_ot 2 c5 (by decide) (by decide))).trans ((if_pos (sw_eq 3 c5 rfl (by decide))).trans ((if_neg c6).trans ((if_neg c7).trans (if_pos c8))))))))
        · skip
          refine hJ 77 _ _ _ ?_
          exact And.intro xb1 (DPi ((if_neg (sw_ot 0 c5 (by decide) (by decide))).trans ((if_neg (sw_ot 1 c5 (by decide) (by decide))).trans ((if_neg (sw_ot 2 c5 (by decide) (by decide))).trans ((if_pos (sw_eq 3 c5 rfl (by decide))).trans ((if_neg c6).trans ((if_neg c7).trans (if_neg c8))))))))
def m_X11_plan (s : Us) (w : Int32) (n : Int32) : Int32 × Us := if w = (-nI 1) then (bindv (m_X8_empty (Sf.pl (Us.nw s))) (fun r4 => (r4.1, ((Sf.c (Us.nw s), Sf.tp (Us.nw s), Sf.se (Us.nw s), r4.2, Sf.bk (Us.nw s)), Us.kp s, Us.ah s, Us.h s, Us.k0 s, Us.k1 s, Us.k2 s, Us.k3 s, Us.k4 s, Us.k5 s, Us.k6 s, Us.st s, Us.l0 s, Us.l1 s, Us.l2 s, Us.l3 s, Us.l4 s, Us.l5 s, Us.b0 s, Us.b1 s, Us.b2 s, Us.b3 s, Us.b4 s, Us.b5 s, Us.b6 s, Us.it s, Us.ac s)))) else (if (m_X11_isPlan (Sc.sz (Sf.c (Us.nw s))) w n) = 0 then ((-nI 1), s) else (bindv (m_X8_add (Sf.pl (Us.nw s)) w n (nI 0) (nI 0)) (fun r3 => (r3.1, ((Sf.c (Us.nw s), Sf.tp (Us.nw s), Sf.se (Us.nw s), r3.2, Sf.bk (Us.nw s)), Us.kp s, Us.ah s, Us.h s, Us.k0 s, Us.k1 s, Us.k2 s, Us.k3 s, Us.k4 s, Us.k5 s, Us.k6 s, Us.st s, Us.l0 s, Us.l1 s, Us.l2 s, Us.l3 s, Us.l4 s, Us.l5 s, Us.b0 s, Us.b1 s, Us.b2 s, Us.b3 s, Us.b4 s, Us.b5 s, Us.b6 s, Us.it s, Us.ac s)))))
set_option maxRecDepth 100000 in
set_option maxHeartbeats 300000 in
theorem c_X11_plan (l : Launch) {fv : Value} (hf : FV fv) (s : Us) (w : Int32) (n : Int32) (hli : rl 8 (Tb.li (Sf.pl (Us.nw s)))) : CT l fv 3 jX11_plan [.ref 0, .int w, .int n] (hUs s) (DP (some (.int (m_X11_plan s w n).1)) (hUs ((m_X11_plan s w n).2))) := by
  refine CT_of [] mt_X11_plan (by decide +kernel) (tab_X11 hf) okX11_plan (Nat.le_of_ble_eq_true rfl) ?_
  intro J hJ hD
  refine hJ 0 _ _ _ ?_
  refine And.intro (fun c1 => ?_) (fun c1 => ?_)
  · skip
    refine hJ 16 _ _ _ ?_
    refine CALL_same (r := some (.int (m_X11_isPlan (Sc.sz (Sf.c (Us.nw s))) w n))) (h1 := hUs s) (by decide) (c_X11_isPlan l hf s w n) ?_
    refine And.intro (fun c2 => ?_) (fun c2 => ?_)
    · skip
      refine hJ 27 _ _ _ ?_
      obtain ⟨r3, er3⟩ : ∃ z : Int32 × Tb, m_X8_add (Sf.pl (Us.nw s)) w n (nI 0) (nI 0) = z := ⟨_, rfl⟩
      have hr3 := c_X8_add l hf (Sf.pl (Us.nw s)) w n (nI 0) (nI 0) hli
      rw [er3] at hr3
      refine CALL_sub (r := some (.int r3.1)) (h' := wUs (Sf.c (Us.nw s), Sf.tp (Us.nw s), Sf.se (Us.nw s), r3.2, Sf.bk (Us.nw s)) (Us.kp s) (Us.ah s) (Us.h s) (Us.k0 s) (Us.k1 s) (Us.k2 s) (Us.k3 s) (Us.k4 s) (Us.k5 s) (Us.k6 s) (Us.st s) (Us.l0 s) (Us.l1 s) (Us.l2 s) (Us.l3 s) (Us.l4 s) (Us.l5 s) (Us.b0 s) (Us.b1 s) (Us.b2 s) (Us.b3 s) (Us.b4 s) (Us.b5 s) (Us.b6 s) (Us.it s) (Us.ac s)) [47, 48] (by decide) (hr3) rfl rfl (by decide) (by decide) rfl ?_
      exact And.intro True.intro (DPis (F := (fun z => hUs z)) (s' := ((Sf.c (Us.nw s), Sf.tp (Us.nw s), Sf.se (Us.nw s), r3.2, Sf.bk (Us.nw s)), Us.kp s, Us.ah s, Us.h s, Us.k0 s, Us.k1 s, Us.k2 s, Us.k3 s, Us.k4 s, Us.k5 s, Us.k6 s, Us.st s, Us.l0 s, Us.l1 s, Us.l2 s, Us.l3 s, Us.l4 s, Us.l5 s, Us.b0 s, Us.b1 s, Us.b2 s, Us.b3 s, Us.b4 s, Us.b5 s, Us.b6 s, Us.it s, Us.ac s)) ((if_neg c1).trans ((if_neg c2).trans (bindv_eq er3))))
    · skip
      exact And.intro True.intro (DPis (F := (fun z => hUs z)) (s' := s) ((if_neg c1).trans (if_pos c2)))
  · skip
    obtain ⟨r4, er4⟩ : ∃ z : Int32 × Tb, m_X8_empty (Sf.pl (Us.nw s)) = z := ⟨_, rfl⟩
    have hr4 := c_X8_empty l hf (Sf.pl (Us.nw s))
    rw [er4] at hr4
    refine CALL_sub (r := some (.int r4.1)) (h' := wUs (Sf.c (Us.nw s), Sf.tp (Us.nw s), Sf.se (Us.nw s), r4.2, Sf.bk (Us.nw s)) (Us.kp s) (Us.ah s) (Us.h s) (Us.k0 s) (Us.k1 s) (Us.k2 s) (Us.k3 s) (Us.k4 s) (Us.k5 s) (Us.k6 s) (Us.st s) (Us.l0 s) (Us.l1 s) (Us.l2 s) (Us.l3 s) (Us.l4 s) (Us.l5 s) (Us.b0 s) (Us.b1 s) (Us.b2 s) (Us.b3 s) (Us.b4 s) (Us.b5 s) (Us.b6 s) (Us.it s) (Us.ac s)) [47, 48] (by decide) (hr4) rfl rfl (by decide) (by decide) rfl ?_
    exact And.intro True.intro (DPis (F := (fun z => hUs z)) (s' := ((Sf.c (Us.nw s), Sf.tp (Us.nw s), Sf.se (Us.nw s), r4.2, Sf.bk (Us.nw s)), Us.kp s, Us.ah s, Us.h s, Us.k0 s, Us.k1 s, Us.k2 s, Us.k3 s, Us.k4 s, Us.k5 s, Us.k6 s, Us.st s, Us.l0 s, Us.l1 s, Us.l2 s, Us.l3 s, Us.l4 s, Us.l5 s, Us.b0 s, Us.b1 s, Us.b2 s, Us.b3 s, Us.b4 s, Us.b5 s, Us.b6 s, Us.it s, Us.ac s)) ((if_pos c1).trans (bindv_eq er4)))
def m_X11_book (s : Us) (u : Int32) (x : Int32) : Int32 × Us := if u = (-nI 1) then (bindv (m_X8_empty (Sf.bk (Us.nw s))) (fun r5 => (r5.1, ((Sf.c (Us.nw s), Sf.tp (Us.nw s), Sf.se (Us.nw s), Sf.pl (Us.nw s), r5.2), Us.kp s, Us.ah s, Us.h s, Us.k0 s, Us.k1 s, Us.k2 s, Us.k3 s, Us.k4 s, Us.k5 s, Us.k6 s, Us.st s, Us.l0 s, Us.l1 s, Us.l2 s, Us.l3 s, Us.l4 s, Us.l5 s, Us.b0 s, Us.b1 s, Us.b2 s, Us.b3 s, Us.b4 s, Us.b5 s, Us.b6 s, Us.it s, Us.ac s)))) else (if (m_X7_has (Sc.sz (Sf.c (Us.nw s))) u) = 0 then ((-nI 1), s) else (if (m_X11_isSet x) = 0 then ((-nI 2), s) else (bindv (m_X8_add (Sf.bk (Us.nw s)) u x (nI 0) (nI 0)) (fun r4 => (r4.1, ((Sf.c (Us.nw s), Sf.tp (Us.nw s), Sf.se (Us.nw s), Sf.pl (Us.nw s), r4.2), Us.kp s, Us.ah s, Us.h s, Us.k0 s, Us.k1 s, Us.k2 s, Us.k3 s, Us.k4 s, Us.k5 s, Us.k6 s, Us.st s, Us.l0 s, Us.l1 s, Us.l2 s, Us.l3 s, Us.l4 s, Us.l5 s, Us.b0 s, Us.b1 s, Us.b2 s, Us.b3 s, Us.b4 s, Us.b5 s, Us.b6 s, Us.it s, Us.ac s))))))
set_option maxRecDepth 100000 in
set_option maxHeartbeats 300000 in
theorem c_X11_book (l : Launch) {fv : Value} (hf : FV fv) (s : Us) (u : Int32) (x : Int32) (hli : rl 8 (Tb.li (Sf.bk (Us.nw s)))) : CT l fv 3 jX11_book [.ref 0, .int u, .int x] (hUs s) (DP (some (.int (m_X11_book s u x).1)) (hUs ((m_X11_book s u x).2))) := by
  refine CT_of [] mt_X11_book (by decide +kernel) (tab_X11 hf) okX11_book (Nat.le_of_ble_eq_true rfl) ?_
  intro J hJ hD
  refine hJ 0 _ _ _ ?_
  refine And.intro (fun c1 => ?_) (fun c1 => ?_)
  · skip
    refine hJ 16 _ _ _ ?_
    refine CALL_sub (r := some (.int (m_X7_has (Sc.sz (Sf.c (Us.nw s))) u))) (h' := hUs s) [1, 2, 3, 4, 5, 6] (by decide) (c_X7_has l hf (Sf.c (Us.nw s)) 42 45 47 49 u) rfl rfl (by decide) (by decide) rfl ?_
    refine And.intro (fun c2 => ?_) (fun c2 => ?_)
    · skip
      refine hJ 29 _ _ _ ?_
      refine CALL_sub (h' := hUs s) [] (by decide) (c_X11_isSet l hf x) rfl rfl (by decide) (by decide) rfl ?_
      refine And.intro (fun c3 => ?_) (fun c3 => ?_)
      · skip
        refine hJ 39 _ _ _ ?_
        obtain ⟨r4, er4⟩ : ∃ z : Int32 × Tb, m_X8_add (Sf.bk (Us.nw s)) u x (nI 0) (nI 0) = z := ⟨_, rfl⟩
        have hr4 := c_X8_add l hf (Sf.bk (Us.nw s)) u x (nI 0) (nI 0) hli
        rw [er4] at hr4
        refine CALL_sub (r := some (.int r4.1)) (h' := wUs (Sf.c (Us.nw s), Sf.tp (Us.nw s), Sf.se (Us.nw s), Sf.pl (Us.nw s), r4.2) (Us.kp s) (Us.ah s) (Us.h s) (Us.k0 s) (Us.k1 s) (Us.k2 s) (Us.k3 s) (Us.k4 s) (Us.k5 s) (Us.k6 s) (Us.st s) (Us.l0 s) (Us.l1 s) (Us.l2 s) (Us.l3 s) (Us.l4 s) (Us.l5 s) (Us.b0 s) (Us.b1 s) (Us.b2 s) (Us.b3 s) (Us.b4 s) (Us.b5 s) (Us.b6 s) (Us.it s) (Us.ac s)) [49, 50] (by decide) (hr4) rfl rfl (by decide) (by decide) rfl ?_
        exact And.intro True.intro (DPis (F := (fun z => hUs z)) (s' := ((Sf.c (Us.nw s), Sf.tp (Us.nw s), Sf.se (Us.nw s), Sf.pl (Us.nw s), r4.2), Us.kp s, Us.ah s, Us.h s, Us.k0 s, Us.k1 s, Us.k2 s, Us.k3 s, Us.k4 s, Us.k5 s, Us.k6 s, Us.st s, Us.l0 s, Us.l1 s, Us.l2 s, Us.l3 s, Us.l4 s, Us.l5 s, Us.b0 s, Us.b1 s, Us.b2 s, Us.b3 s, Us.b4 s, Us.b5 s, Us.b6 s, Us.it s, Us.ac s)) ((if_neg c1).trans ((if_neg c2).trans ((if_neg c3).trans (bindv_eq er4)))))
      · skip
        exact And.intro True.intro (DPis (F := (fun z => hUs z)) (s' := s) ((if_neg c1).trans ((if_neg c2).trans (if_pos c3))))
    · skip
      exact And.intro True.intro (DPis (F := (fun z => hUs z)) (s' := s) ((if_neg c1).trans (if_pos c2)))
  · skip
    obtain ⟨r5, er5⟩ : ∃ z : Int32 × Tb, m_X8_empty (Sf.bk (Us.nw s)) = z := ⟨_, rfl⟩
    have hr5 := c_X8_empty l hf (Sf.bk (Us.nw s))
    rw [er5] at hr5
    refine CALL_sub (r := some (.int r5.1)) (h' := wUs (Sf.c (Us.nw s), Sf.tp (Us.nw s), Sf.se (Us.nw s), Sf.pl (Us.nw s), r5.2) (Us.kp s) (Us.ah s) (Us.h s) (Us.k0 s) (Us.k1 s) (Us.k2 s) (Us.k3 s) (Us.k4 s) (Us.k5 s) (Us.k6 s) (Us.st s) (Us.l0 s) (Us.l1 s) (Us.l2 s) (Us.l3 s) (Us.l4 s) (Us.l5 s) (Us.b0 s) (Us.b1 s) (Us.b2 s) (Us.b3 s) (Us.b4 s) (Us.b5 s) (Us.b6 s) (Us.it s) (Us.ac s)) [49, 50] (by decide) (hr5) rfl rfl (by decide) (by decide) rfl ?_
    exact And.intro True.intro (DPis (F := (fun z => hUs z)) (s' := ((Sf.c (Us.nw s), Sf.tp (Us.nw s), Sf.se (Us.nw s), Sf.pl (Us.nw s), r5.2), Us.kp s, Us.ah s, Us.h s, Us.k0 s, Us.k1 s, Us.k2 s, Us.k3 s, Us.k4 s, Us.k5 s, Us.k6 s, Us.st s, Us.l0 s, Us.l1 s, Us.l2 s, Us.l3 s, Us.l4 s, Us.l5 s, Us.b0 s, Us.b1 s, Us.b2 s, Us.b3 s, Us.b4 s, Us.b5 s, Us.b6 s, Us.it s, Us.ac s)) ((if_pos c1).trans (bindv_eq er5)))
def m_X11_see (s : Us) (u : Int32) (n : Int32) (f : Int32) (b : Int32) : Int32 × Us := if u = (-nI 1) then (bindv (m_X8_empty (Sf.se (Us.nw s))) (fun r9 => (r9.1, ((Sf.c (Us.nw s), Sf.tp (Us.nw s), r9.2, Sf.pl (Us.nw s), Sf.bk (Us.nw s)), Us.kp s, Us.ah s, Us.h s, Us.k0 s, Us.k1 s, Us.k2 s, Us.k3 s, Us.k4 s, Us.k5 s, Us.k6 s, Us.st s, Us.l0 s, Us.l1 s, Us.l2 s, Us.l3 s, Us.l4 s, Us.l5 s, Us.b0 s, Us.b1 s, Us.b2 s, Us.b3 s, Us.b4 s, Us.b5 s, Us.b6 s, Us.it s, Us.ac s)))) else (if (m_X7_has (Sc.sz (Sf.c (Us.nw s))) u) = 0 then ((-nI 1), s) else (if (m_X11_isFact f.toInt64) = 0 then ((-nI 1), s) else (if n < 0 then ((-nI 2), s) else (if n ≤ nI 12 then (if b = 0 then (bindv (m_X8_add (Sf.se (Us.nw s)) u n f (nI 0)) (fun r7 => (r7.1, ((Sf.c (Us.nw s), Sf.tp (Us.nw s), r7.2, Sf.pl (Us.nw s), Sf.bk (Us.nw s)), Us.kp s, Us.ah s, Us.h s, Us.k0 s, Us.k1 s, Us.k2 s, Us.k3 s, Us.k4 s, Us.k5 s, Us.k6 s, Us.st s, Us.l0 s, Us.l1 s, Us.l2 s, Us.l3 s, Us.l4 s, Us.l5 s, Us.b0 s, Us.b1 s, Us.b2 s, Us.b3 s, Us.b4 s, Us.b5 s, Us.b6 s, Us.it s, Us.ac s)))) else (bindv (m_X8_add (Sf.se (Us.nw s)) u n f (nI 1)) (fun r8 => (r8.1, ((Sf.c (Us.nw s), Sf.tp (Us.nw s), r8.2, Sf.pl (Us.nw s), Sf.bk (Us.nw s)), Us.kp s, Us.ah s, Us.h s, Us.k0 s, Us.k1 s, Us.k2 s, Us.k3 s, Us.k4 s, Us.k5 s, Us.k6 s, Us.st s, Us.l0 s, Us.l1 s, Us.l2 s, Us.l3 s, Us.l4 s, Us.l5 s, Us.b0 s, Us.b1 s, Us.b2 s, Us.b3 s, Us.b4 s, Us.b5 s, Us.b6 s, Us.it s, Us.ac s))))) else ((-nI 2), s)))))
set_option maxRecDepth 100000 in
set_option maxHeartbeats 300000 in
theorem c_X11_see (l : Launch) {fv : Value} (hf : FV fv) (s : Us) (u : Int32) (n : Int32) (f : Int32) (b : Int32) (hli : rl 8 (Tb.li (Sf.se (Us.nw s)))) : CT l fv 3 jX11_see [.ref 0, .int u, .int n, .int f, .int b] (hUs s) (DP (some (.int (m_X11_see s u n f b).1)) (hUs ((m_X11_see s u n f b).2))) := by
  refine CT_of [] mt_X11_see (by decide +kernel) (tab_X11 hf) okX11_see (Nat.le_of_ble_eq_true rfl) ?_
  intro J hJ hD
  refine hJ 0 _ _ _ ?_
  refine And.intro (fun c1 => ?_) (fun c1 => ?_)
  · skip
    refine hJ 16 _ _ _ ?_
    refine CALL_sub (r := some (.int (m_X7_has (Sc.sz (Sf.c (Us.nw s))) u))) (h' := hUs s) [1, 2, 3, 4, 5, 6] (by decide) (c_X7_has l hf (Sf.c (Us.nw s)) 42 45 47 49 u) rfl rfl (by decide) (by decide) rfl ?_
    refine And.intro (fun c2 => ?_) (fun c2 => ?_)
    · skip
      refine hJ 35 _ _ _ ?_
      exact And.intro True.intro (DPis (F := (fun z => hUs z)) (s' := s) ((if_neg c1).trans (if_pos c2)))
    · skip
      refine CALL_sub (h' := hUs s) [] (by decide) (c_X11_isFact l hf f.toInt64) rfl rfl (by decide) (by decide) rfl ?_
      refine And.intro (fun c3 => ?_) (fun c3 => ?_)
      · skip
        refine hJ 37 _ _ _ ?_
        refine And.intro (fun c4 => ?_) (fun c4 => ?_)
        · skip
          refine hJ 47 _ _ _ ?_
          exact And.intro True.intro (DPis (F := (fun z => hUs z)) (s' := s) ((if_neg c1).trans ((if_neg c2).trans ((if_neg c3).trans (if_pos c4)))))
        · skip
          refine And.intro (fun c5 => ?_) (fun c5 => ?_)
          · skip
            refine hJ 50 _ _ _ ?_
            refine And.intro (fun c6 => ?_) (fun c6 => ?_)
            · skip
              refine hJ 69 _ _ _ ?_
              obtain ⟨r7, er7⟩ : ∃ z : Int32 × Tb, m_X8_add (Sf.se (Us.nw s)) u n f (nI 0) = z := ⟨_, rfl⟩
              have hr7 := c_X8_add l hf (Sf.se (Us.nw s)) u n f (nI 0) hli
              rw [er7] at hr7
              refine CALL_sub (r := some (.int r7.1)) (h' := wUs (Sf.c (Us.nw s), Sf.tp (Us.nw s), r7.2, Sf.pl (Us.nw s), Sf.bk (Us.nw s)) (Us.kp s) (Us.ah s) (Us.h s) (Us.k0 s) (Us.k1 s) (Us.k2 s) (Us.k3 s) (Us.k4 s) (Us.k5 s) (Us.k6 s) (Us.st s) (Us.l0 s) (Us.l1 s) (Us.l2 s) (Us.l3 s) (Us.l4 s) (Us.l5 s) (Us.b0 s) (Us.b1 s) (Us.b2 s) (Us.b3 s) (Us.b4 s) (Us.b5 s) (Us.b6 s) (Us.it s) (Us.ac s)) [45, 46] (by decide) (hr7) rfl rfl (by decide) (by decide) rfl ?_
              exact And.intro True.intro (DPis (F := (fun z => hUs z)) (s' := ((Sf.c (Us.nw s), Sf.tp (Us.nw s), r7.2, Sf.pl (Us.nw s), Sf.bk (Us.nw s)), Us.kp s, Us.ah s, Us.h s, Us.k0 s, Us.k1 s, Us.k2 s, Us.k3 s, Us.k4 s, Us.k5 s, Us.k6 s, Us.st s, Us.l0 s, Us.l1 s, Us.l2 s, Us.l3 s, Us.l4 s, Us.l5 s, Us.b0 s, Us.b1 s, Us.b2 s, Us.b3 s, Us.b4 s, Us.b5 s, Us.b6 s, Us.it s, Us.ac s)) ((if_neg c1).trans ((if_neg c2).trans ((if_neg c3).trans ((if_neg c4).trans ((if_pos c5).trans ((if_pos c6).trans (bindv_eq er7))))))))
            · skip
              refine hJ 70 _ _ _ ?_
              obtain ⟨r8, er8⟩ : ∃ z : Int32 × Tb, m_X8_add (Sf.se (Us.nw s)) u n f (nI 1) = z := ⟨_, rfl⟩
              have hr8 := c_X8_add l hf (Sf.se (Us.nw s)) u n f (nI 1) hli
              rw [er8] at hr8
              refine CALL_sub (r := some (.int r8.1)) (h' := wUs (Sf.c (Us.nw s), Sf.tp (Us.nw s), r8.2, Sf.pl (Us.nw s), Sf.bk (Us.nw s)) (Us.kp s) (Us.ah s) (Us.h s) (Us.k0 s) (Us.k1 s) (Us.k2 s) (Us.k3 s) (Us.k4 s) (Us.k5 s) (Us.k6 s) (Us.st s) (Us.l0 s) (Us.l1 s) (Us.l2 s) (Us.l3 s) (Us.l4 s) (Us.l5 s) (Us.b0 s) (Us.b1 s) (Us.b2 s) (Us.b3 s) (Us.b4 s) (Us.b5 s) (Us.b6 s) (Us.it s) (Us.ac s)) [45, 46] (by decide) (hr8) rfl rfl (by decide) (by decide) rfl ?_
              exact And.intro True.intro (DPis (F := (fun z => hUs z)) (s' := ((Sf.c (Us.nw s), Sf.tp (Us.nw s), r8.2, Sf.pl (Us.nw s), Sf.bk (Us.nw s)), Us.kp s, Us.ah s, Us.h s, Us.k0 s, Us.k1 s, Us.k2 s, Us.k3 s, Us.k4 s, Us.k5 s, Us.k6 s, Us.st s, Us.l0 s, Us.l1 s, Us.l2 s, Us.l3 s, Us.l4 s, Us.l5 s, Us.b0 s, Us.b1 s, Us.b2 s, Us.b3 s, Us.b4 s, Us.b5 s, Us.b6 s, Us.it s, Us.ac s)) ((if_neg c1).trans ((if_neg c2).trans ((if_neg c3).trans ((if_neg c4).trans ((if_pos c5).trans ((if_neg c6).trans (bindv_eq er8))))))))
          · skip
            exact And.intro True.intro (DPis (F := (fun z => hUs z)) (s' := s) ((if_neg c1).trans ((if_neg c2).trans ((if_neg c3).trans ((if_neg c4).trans (if_neg c5))))))
      · skip
        exact And.intro True.intro (DPis (F := (fun z => hUs z)) (s' := s) ((if_neg c1).trans ((if_neg c2).trans (if_pos c3))))
  · skip
    obtain ⟨r9, er9⟩ : ∃ z : Int32 × Tb, m_X8_empty (Sf.se (Us.nw s)) = z := ⟨_, rfl⟩
    have hr9 := c_X8_empty l hf (Sf.se (Us.nw s))
    rw [er9] at hr9
    refine CALL_sub (r := some (.int r9.1)) (h' := wUs (Sf.c (Us.nw s), Sf.tp (Us.nw s), r9.2, Sf.pl (Us.nw s), Sf.bk (Us.nw s)) (Us.kp s) (Us.ah s) (Us.h s) (Us.k0 s) (Us.k1 s) (Us.k2 s) (Us.k3 s) (Us.k4 s) (Us.k5 s) (Us.k6 s) (Us.st s) (Us.l0 s) (Us.l1 s) (Us.l2 s) (Us.l3 s) (Us.l4 s) (Us.l5 s) (Us.b0 s) (Us.b1 s) (Us.b2 s) (Us.b3 s) (Us.b4 s) (Us.b5 s) (Us.b6 s) (Us.it s) (Us.ac s)) [45, 46] (by decide) (hr9) rfl rfl (by decide) (by decide) rfl ?_
    exact And.intro True.intro (DPis (F := (fun z => hUs z)) (s' := ((Sf.c (Us.nw s), Sf.tp (Us.nw s), r9.2, Sf.pl (Us.nw s), Sf.bk (Us.nw s)), Us.kp s, Us.ah s, Us.h s, Us.k0 s, Us.k1 s, Us.k2 s, Us.k3 s, Us.k4 s, Us.k5 s, Us.k6 s, Us.st s, Us.l0 s, Us.l1 s, Us.l2 s, Us.l3 s, Us.l4 s, Us.l5 s, Us.b0 s, Us.b1 s, Us.b2 s, Us.b3 s, Us.b4 s, Us.b5 s, Us.b6 s, Us.it s, Us.ac s)) ((if_pos c1).trans (bindv_eq er9)))
def l_X11_looked_2 (znw_c_kn : Fn) (znw_c_sz : Int32) (znw_bk_ce : Fn) (znw_bk_n : Int32) : Nat → Int32 → Int32
  | 0, _ => 0
  | n2 + 1, i => if znw_bk_n ≤ i then (-nI 5) else (if (m_X7_has (znw_c_sz) (m_X8_cell (znw_bk_ce) (znw_bk_n) i (nI 0))) = 0 then l_X11_looked_2 znw_c_kn znw_c_sz znw_bk_ce znw_bk_n n2 (i + nI 1) else (if (znw_c_kn (m_X8_cell (znw_bk_ce) (znw_bk_n) i (nI 0)).toNatClampNeg) = (m_X8_cell (znw_bk_ce) (znw_bk_n) i (nI 1)) then l_X11_looked_2 znw_c_kn znw_c_sz znw_bk_ce znw_bk_n n2 (i + nI 1) else i))
theorem q_X11_looked_2 (znw_c_kn : Fn) (znw_c_sz : Int32) (znw_bk_ce : Fn) (znw_bk_n : Int32) (n2 : Nat) (i : Int32) : l_X11_looked_2 znw_c_kn znw_c_sz znw_bk_ce znw_bk_n (n2 + 1) i = (if znw_bk_n ≤ i then (-nI 5) else (if (m_X7_has (znw_c_sz) (m_X8_cell (znw_bk_ce) (znw_bk_n) i (nI 0))) = 0 then l_X11_looked_2 znw_c_kn znw_c_sz znw_bk_ce znw_bk_n n2 (i + nI 1) else (if (znw_c_kn (m_X8_cell (znw_bk_ce) (znw_bk_n) i (nI 0)).toNatClampNeg) = (m_X8_cell (znw_bk_ce) (znw_bk_n) i (nI 1)) then l_X11_looked_2 znw_c_kn znw_c_sz znw_bk_ce znw_bk_n n2 (i + nI 1) else i))) := rfl
def m_X11_looked (znw_c_kn : Fn) (znw_c_sz : Int32) (znw_bk_ce : Fn) (znw_bk_n : Int32) : Int32 := l_X11_looked_2 znw_c_kn znw_c_sz znw_bk_ce znw_bk_n 9 (nI 0)
set_option maxRecDepth 100000 in
set_option maxHeartbeats 300000 in
theorem c_X11_looked (l : Launch) {fv : Value} (hf : FV fv) (s : Us) (hbk : rl 8 (Tb.n (Sf.bk (Us.nw s)))) : CT l fv 2 jX11_looked [.ref 0] (hUs s) (DP (some (.int (m_X11_looked (Sc.kn (Sf.c (Us.nw s))) (Sc.sz (Sf.c (Us.nw s))) (Tb.ce (Sf.bk (Us.nw s))) (Tb.n (Sf.bk (Us.nw s)))))) (hUs s)) := by
  refine CT_of [2] mt_X11_looked (by decide +kernel) (tab_X11 hf) okX11_looked (Nat.le_of_ble_eq_true rfl) ?_
  intro J hJ hD
  refine hJ 0 _ _ _ ?_
  have L2 : ∀ (n2 : Nat) (i : Int32), (∃ z9 : Nat, z9 ≤ 8 ∧ n2 + z9 = 9 ∧ i = nI z9) → m_X11_looked (Sc.kn (Sf.c (Us.nw s))) (Sc.sz (Sf.c (Us.nw s))) (Tb.ce (Sf.bk (Us.nw s))) (Tb.n (Sf.bk (Us.nw s))) = l_X11_looked_2 (Sc.kn (Sf.c (Us.nw s))) (Sc.sz (Sf.c (Us.nw s))) (Tb.ce (Sf.bk (Us.nw s))) (Tb.n (Sf.bk (Us.nw s))) n2 i → J 2 [(0, .ref 0), (1, .int i)] [] (hUs s) := by
    intro n2
    induction n2 with
    | zero =>
      intro i hv
      obtain ⟨z9, h1, h2, h3⟩ := hv
      omega
    | succ n2 ih2 =>
      intro i hv e2
      obtain ⟨z9, h1, h2, h3⟩ := hv
      refine hJ 2 _ _ _ ?_
      refine And.intro (fun c1 => ?_) (fun c1 => ?_)
      · skip
        refine hJ 72 _ _ _ ?_
        exact And.intro True.intro (DPi (e2.trans ((q_X11_looked_2 (Sc.kn (Sf.c (Us.nw s))) (Sc.sz (Sf.c (Us.nw s))) (Tb.ce (Sf.bk (Us.nw s))) (Tb.n (Sf.bk (Us.nw s))) n2 i).trans (if_pos c1))))
      · skip
        have h4 := rl_lt hbk h3 h1 c1
        refine CALL_sub (r := some (.int (m_X8_cell (Tb.ce (Sf.bk (Us.nw s))) (Tb.n (Sf.bk (Us.nw s))) i (nI 0)))) (h' := hUs s) [49, 50] (by decide) (c_X8_cell l hf (Sf.bk (Us.nw s)) i (nI 0) hbk) rfl rfl (by decide) (by decide) rfl ?_
        refine CALL_sub (r := some (.int (m_X7_has (Sc.sz (Sf.c (Us.nw s))) (m_X8_cell (Tb.ce (Sf.bk (Us.nw s))) (Tb.n (Sf.bk (Us.nw s))) i (nI 0))))) (h' := hUs s) [1, 2, 3, 4, 5, 6] (by decide) (c_X7_has l hf (Sf.c (Us.nw s)) 42 45 47 49 (m_X8_cell (Tb.ce (Sf.bk (Us.nw s))) (Tb.n (Sf.bk (Us.nw s))) i (nI 0))) rfl rfl (by decide) (by decide) rfl ?_
        refine And.intro (fun c2 => ?_) (fun c2 => ?_)
        · skip
          refine hJ 66 _ _ _ ?_
          exact hD _ _ [2, 0] _ _ (ih2 _ ⟨z9 + 1, by omega, by omega, by rw [h3]; exact nI_add z9 1⟩ (e2.trans ((q_X11_looked_2 (Sc.kn (Sf.c (Us.nw s))) (Sc.sz (Sf.c (Us.nw s))) (Tb.ce (Sf.bk (Us.nw s))) (Tb.n (Sf.bk (Us.nw s))) n2 i).trans ((if_neg c1).trans (if_pos c2)))))
        · skip
          have hi := has_of c2
          refine And.intro (hi) ?_
          refine CALL_sub (r := some (.int (m_X8_cell (Tb.ce (Sf.bk (Us.nw s))) (Tb.n (Sf.bk (Us.nw s))) i (nI 1)))) (h' := hUs s) [49, 50] (by decide) (c_X8_cell l hf (Sf.bk (Us.nw s)) i (nI 1) hbk) rfl rfl (by decide) (by decide) rfl ?_
          refine And.intro (fun c3 => ?_) (fun c3 => ?_)
          · skip
            refine hJ 66 _ _ _ ?_
            exact hD _ _ [2, 0] _ _ (ih2 _ ⟨z9 + 1, by omega, by omega, by rw [h3]; exact nI_add z9 1⟩ (e2.trans ((q_X11_looked_2 (Sc.kn (Sf.c (Us.nw s))) (Sc.sz (Sf.c (Us.nw s))) (Tb.ce (Sf.bk (Us.nw s))) (Tb.n (Sf.bk (Us.nw s))) n2 i).trans ((if_neg c1).trans ((if_neg c2).trans (if_pos c3))))))
          · skip
            exact And.intro True.intro (DPi (e2.trans ((q_X11_looked_2 (Sc.kn (Sf.c (Us.nw s))) (Sc.sz (Sf.c (Us.nw s))) (Tb.ce (Sf.bk (Us.nw s))) (Tb.n (Sf.bk (Us.nw s))) n2 i).trans ((if_neg c1).trans ((if_neg c2).trans (if_neg c3))))))
  exact hD _ _ [1, 0] _ _ (L2 9 _ ⟨0, by decide, by decide, rfl⟩ (rfl))
set_option maxHeartbeats 300000 in
theorem ef_go_l (s : Us) {n : Int32} {N B : Nat} (hn : n = nI N) (hN : N ≤ 1000) (L : Lg) : ∀ (x k : Nat) (i : Int32) (m1 : Us), k ≤ N → x + k = N + 1 → i = nI k → hK (Sc.sz (Sf.c (Us.ah m1))) (Sc.kd (Sf.c (Us.ah m1))) → rl (B + k) (Sc.ti (Sf.c (Us.ah m1))) → hK (Sc.sz (Sf.c (Us.ah (l_X11_go_p13_8 s n L x i m1)))) (Sc.kd (Sf.c (Us.ah (l_X11_go_p13_8 s n L x i m1)))) ∧ rl (B + N) (Sc.ti (Sf.c (Us.ah (l_X11_go_p13_8 s n L x i m1)))) := by
  intro x
  induction x with
  | zero => intro k i m1 h1 h2; omega
  | succ x ih =>
    intro k i m1 h1 h2 h3 h4 h5
    rw [q_X11_go_p13_8]
    by_cases c : n ≤ i
    · rw [if_pos c]; exact ⟨h4, h5.mono (by omega)⟩
    · rw [if_neg c]
      have hk : k < N := cnt_lt h3 h1 (by omega) (by rw [← hn]; exact c)
      have g := gl_goTide (s := (Sf.c (Us.ah m1), Us.h m1, Us.k0 m1, Us.k1 m1, Us.k2 m1, Us.k3 m1, Us.k4 m1, Us.k5 m1, Us.k6 m1, Us.st m1, L)) (le := m_X7_lessonNow (Sc.le (Sf.c (Us.ah m1))) (Sc.ti (Sf.c (Us.ah m1)))) rfl
      unfold bindv
      refine ih (k + 1) _ _ (by omega) (by omega) (by rw [h3]; exact nI_add k 1) ?_ ?_
      · exact Tw.hk g.2.1 h4
      · exact Tw.ti g.2.2 h5
theorem ef_go {s r : Us} {n : Int32} {N B : Nat} (e : m_X11_go_p13 s n = r) (hn : n = nI N) (hN : N ≤ 1000) (hk : hK (Sc.sz (Sf.c (Us.ah s))) (Sc.kd (Sf.c (Us.ah s)))) (hT : rl B (Sc.ti (Sf.c (Us.ah s)))) : hK (Sc.sz (Sf.c (Us.ah r))) (Sc.kd (Sf.c (Us.ah r))) ∧ rl (B + N) (Sc.ti (Sf.c (Us.ah r))) := by
  rw [← e]
  unfold m_X11_go_p13
  rw [bindv]
  exact ef_go_l s hn hN _ _ 0 _ _ (Nat.zero_le N) (by rw [hn, nI_clamp (by omega)]) rfl hk hT
def m_X11_doPlanned (s : Us) (w : Int32) (n : Int32) : Us := if w = 0 then (bindv (m_X11_go_p13 s (nI 1)) (fun r7 => r7)) else (if w = nI 3 then (bindv (m_X7_tellFact (Sf.c (Us.ah s)) (n / nI 10) (n - n / nI 10 * nI 10)) (fun r6 => (Us.nw s, Us.kp s, (r6, Sf.tp (Us.ah s), Sf.se (Us.ah s), Sf.pl (Us.ah s), Sf.bk (Us.ah s)), Us.h s, Us.k0 s, Us.k1 s, Us.k2 s, Us.k3 s, Us.k4 s, Us.k5 s, Us.k6 s, Us.st s, Us.l0 s, Us.l1 s, Us.l2 s, Us.l3 s, Us.l4 s, Us.l5 s, Us.b0 s, Us.b1 s, Us.b2 s, Us.b3 s, Us.b4 s, Us.b5 s, Us.b6 s, Us.it s, Us.ac s))) else (if w = nI 1 then (bindv (m_X7_putOut (Sf.c (Us.ah s)) n (nI 1)) (fun r5 => (Us.nw s, Us.kp s, (r5, Sf.tp (Us.ah s), Sf.se (Us.ah s), Sf.pl (Us.ah s), Sf.bk (Us.ah s)), Us.h s, Us.k0 s, Us.k1 s, Us.k2 s, Us.k3 s, Us.k4 s, Us.k5 s, Us.k6 s, Us.st s, Us.l0 s, Us.l1 s, Us.l2 s, Us.l3 s, Us.l4 s, Us.l5 s, Us.b0 s, Us.b1 s, Us.b2 s, Us.b3 s, Us.b4 s, Us.b5 s, Us.b6 s, Us.it s, Us.ac s))) else (bindv (m_X7_putOut (Sf.c (Us.ah s)) n (nI 0)) (fun r4 => (Us.nw s, Us.kp s, (r4, Sf.tp (Us.ah s), Sf.se (Us.ah s), Sf.pl (Us.ah s), Sf.bk (Us.ah s)), Us.h s, Us.k0 s, Us.k1 s, Us.k2 s, Us.k3 s, Us.k4 s, Us.k5 s, Us.k6 s, Us.st s, Us.l0 s, Us.l1 s, Us.l2 s, Us.l3 s, Us.l4 s, Us.l5 s, Us.b0 s, Us.b1 s, Us.b2 s, Us.b3 s, Us.b4 s, Us.b5 s, Us.b6 s, Us.it s, Us.ac s)))))
set_option maxRecDepth 100000 in
set_option maxHeartbeats 300000 in
theorem c_X11_doPlanned (l : Launch) {fv : Value} (hf : FV fv) (s : Us) (w : Int32) (n : Int32) {B : Nat} (hB : B + 1 ≤ 1000000) (hl : rl 5 (Sc.lg (Sf.c (Us.nw s)))) (ht : TPs s) (hk : hK (Sc.sz (Sf.c (Us.ah s))) (Sc.kd (Sf.c (Us.ah s)))) (hT : rl B (Sc.ti (Sf.c (Us.ah s)))) : CT l fv 7 jX11_doPlanned [.ref 0, .int w, .int n] (hUs s) (DP none (hUs (m_X11_doPlanned s w n))) := by
  refine CT_of [] mt_X11_doPlanned (by decide +kernel) (tab_X11 hf) okX11_doPlanned (Nat.le_of_ble_eq_true rfl) ?_
  intro J hJ hD
  refine hJ 0 _ _ _ ?_
  refine And.intro (fun c1 => ?_) (fun c1 => ?_)
  · skip
    refine hJ 16 _ _ _ ?_
    refine And.intro (fun c2 => ?_) (fun c2 => ?_)
    · skip
      refine hJ 39 _ _ _ ?_
      refine And.intro (fun c3 => ?_) (fun c3 => ?_)
      · skip
        refine hJ 53 _ _ _ ?_
        obtain ⟨r4, er4⟩ : ∃ z : Sc, m_X7_putOut (Sf.c (Us.ah s)) n (nI 0) = z := ⟨_, rfl⟩
        have hr4 := c_X7_putOut l hf (Sf.c (Us.ah s)) 44 57 59 61 n (nI 0)
        rw [er4] at hr4
        refine CALL_sub (r := none) (h' := wUs (Us.nw s) (Us.kp s) (r4, Sf.tp (Us.ah s), Sf.se (Us.ah s), Sf.pl (Us.ah s), Sf.bk (Us.ah s)) (Us.h s) (Us.k0 s) (Us.k1 s) (Us.k2 s) (Us.k3 s) (Us.k4 s) (Us.k5 s) (Us.k6 s) (Us.st s) (Us.l0 s) (Us.l1 s) (Us.l2 s) (Us.l3 s) (Us.l4 s) (Us.l5 s) (Us.b0 s) (Us.b1 s) (Us.b2 s) (Us.b3 s) (Us.b4 s) (Us.b5 s) (Us.b6 s) (Us.it s) (Us.ac s)) [13, 14, 15, 16, 17, 18] (by decide) (hr4) rfl rfl (by decide) (by decide) rfl ?_
        exact And.intro rfl (DPs (F := (fun z => hUs z)) (s' := (Us.nw s, Us.kp s, (r4, Sf.tp (Us.ah s), Sf.se (Us.ah s), Sf.pl (Us.ah s), Sf.bk (Us.ah s)), Us.h s, Us.k0 s, Us.k1 s, Us.k2 s, Us.k3 s, Us.k4 s, Us.k5 s, Us.k6 s, Us.st s, Us.l0 s, Us.l1 s, Us.l2 s, Us.l3 s, Us.l4 s, Us.l5 s, Us.b0 s, Us.b1 s, Us.b2 s, Us.b3 s, Us.b4 s, Us.b5 s, Us.b6 s, Us.it s, Us.ac s)) ((if_neg c1).trans ((if_neg c2).trans ((if_neg c3).trans (bindv_eq er4)))))
      · skip
        refine hJ 54 _ _ _ ?_
        obtain ⟨r5, er5⟩ : ∃ z : Sc, m_X7_putOut (Sf.c (Us.ah s)) n (nI 1) = z := ⟨_, rfl⟩
        have hr5 := c_X7_putOut l hf (Sf.c (Us.ah s)) 44 57 59 61 n (nI 1)
        rw [er5] at hr5
        refine CALL_sub (r := none) (h' := wUs (Us.nw s) (Us.kp s) (r5, Sf.tp (Us.ah s), Sf.se (Us.ah s), Sf.pl (Us.ah s), Sf.bk (Us.ah s)) (Us.h s) (Us.k0 s) (Us.k1 s) (Us.k2 s) (Us.k3 s) (Us.k4 s) (Us.k5 s) (Us.k6 s) (Us.st s) (Us.l0 s) (Us.l1 s) (Us.l2 s) (Us.l3 s) (Us.l4 s) (Us.l5 s) (Us.b0 s) (Us.b1 s) (Us.b2 s) (Us.b3 s) (Us.b4 s) (Us.b5 s) (Us.b6 s) (Us.it s) (Us.ac s)) [13, 14, 15, 16, 17, 18] (by decide) (hr5) rfl rfl (by decide) (by decide) rfl ?_
        exact And.intro rfl (DPs (F := (fun z => hUs z)) (s' := (Us.nw s, Us.kp s, (r5, Sf.tp (Us.ah s), Sf.se (Us.ah s), Sf.pl (Us.ah s), Sf.bk (Us.ah s)), Us.h s, Us.k0 s, Us.k1 s, Us.k2 s, Us.k3 s, Us.k4 s, Us.k5 s, Us.k6 s, Us.st s, Us.l0 s, Us.l1 s, Us.l2 s, Us.l3 s, Us.l4 s, Us.l5 s, Us.b0 s, Us.b1 s, Us.b2 s, Us.b3 s, Us.b4 s, Us.b5 s, Us.b6 s, Us.it s, Us.ac s)) ((if_neg c1).trans ((if_neg c2).trans ((if_pos c3).trans (bindv_eq er5)))))
    · skip
      refine And.intro (by decide) ?_
      refine And.intro (by decide) ?_
      obtain ⟨r6, er6⟩ : ∃ z : Sc, m_X7_tellFact (Sf.c (Us.ah s)) (n / nI 10) (n - n / nI 10 * nI 10) = z := ⟨_, rfl⟩
      have hr6 := c_X7_tellFact l hf (Sf.c (Us.ah s)) 44 57 59 61 (n / nI 10) (n - n / nI 10 * nI 10)
      rw [er6] at hr6
      refine CALL_sub (r := none) (h' := wUs (Us.nw s) (Us.kp s) (r6, Sf.tp (Us.ah s), Sf.se (Us.ah s), Sf.pl (Us.ah s), Sf.bk (Us.ah s)) (Us.h s) (Us.k0 s) (Us.k1 s) (Us.k2 s) (Us.k3 s) (Us.k4 s) (Us.k5 s) (Us.k6 s) (Us.st s) (Us.l0 s) (Us.l1 s) (Us.l2 s) (Us.l3 s) (Us.l4 s) (Us.l5 s) (Us.b0 s) (Us.b1 s) (Us.b2 s) (Us.b3 s) (Us.b4 s) (Us.b5 s) (Us.b6 s) (Us.it s) (Us.ac s)) [13, 14, 15, 16, 17, 18] (by decide) (hr6) rfl rfl (by decide) (by decide) rfl ?_
      refine hJ 57 _ _ _ ?_
      exact And.intro rfl (DPs (F := (fun z => hUs z)) (s' := (Us.nw s, Us.kp s, (r6, Sf.tp (Us.ah s), Sf.se (Us.ah s), Sf.pl (Us.ah s), Sf.bk (Us.ah s)), Us.h s, Us.k0 s, Us.k1 s, Us.k2 s, Us.k3 s, Us.k4 s, Us.k5 s, Us.k6 s, Us.st s, Us.l0 s, Us.l1 s, Us.l2 s, Us.l3 s, Us.l4 s, Us.l5 s, Us.b0 s, Us.b1 s, Us.b2 s, Us.b3 s, Us.b4 s, Us.b5 s, Us.b6 s, Us.it s, Us.ac s)) ((if_neg c1).trans ((if_pos c2).trans (bindv_eq er6))))
  · skip
    obtain ⟨r7, er7⟩ : ∃ z : Us, m_X11_go_p13 s (nI 1) = z := ⟨_, rfl⟩
    have hr7 := c_X11_go_p13 l hf s (nI 1) (B := B) (N := 1) rfl hB (by decide) hl ht hk hT
    rw [er7] at hr7
    refine CALL_same (r := none) (h1 := hUs r7) (by decide) (hr7) ?_
    refine hJ 57 _ _ _ ?_
    exact And.intro rfl (DPs (F := (fun z => hUs z)) (s' := r7) ((if_pos c1).trans (bindv_eq er7)))
set_option maxHeartbeats 300000 in
theorem un_doP {s r : Us} {w n : Int32} {B : Nat} (e : m_X11_doPlanned s w n = r) (hk : hK (Sc.sz (Sf.c (Us.ah s))) (Sc.kd (Sf.c (Us.ah s)))) (hT : rl B (Sc.ti (Sf.c (Us.ah s)))) : Un s r ∧ hK (Sc.sz (Sf.c (Us.ah r))) (Sc.kd (Sf.c (Us.ah r))) ∧ rl (B + 1) (Sc.ti (Sf.c (Us.ah r))) := by
  rw [← e]
  unfold m_X11_doPlanned
  by_cases c : w = 0
  · rw [if_pos c, bindv]
    have g := ef_go (s := s) (n := nI 1) (N := 1) (B := B) rfl rfl (by decide) hk hT
    exact ⟨un_go rfl, g.1, g.2⟩
  · rw [if_neg c]
    by_cases c2 : w = nI 3
    · rw [if_pos c2, bindv]
      have g := hK.tf (i := n / nI 10) (f := (n - n / nI 10 * nI 10)) hk
      exact ⟨⟨rfl, rfl, rfl, rfl, rfl, rfl, rfl, rfl, rfl, rfl⟩, g.1, by show rl (B + 1) (Sc.ti (m_X7_tellFact (Sf.c (Us.ah s)) (n / nI 10) (n - n / nI 10 * nI 10))); rw [g.2]; exact hT.mono (by omega)⟩
    · rw [if_neg c2]
      have p : ∀ b, hK (Sc.sz (m_X7_putOut (Sf.c (Us.ah s)) n b)) (Sc.kd (m_X7_putOut (Sf.c (Us.ah s)) n b)) ∧ Sc.ti (m_X7_putOut (Sf.c (Us.ah s)) n b) = Sc.ti (Sf.c (Us.ah s)) := by
        intro b
        unfold m_X7_putOut
        first | exact ⟨hk, rfl⟩ | (rw [bindv]; exact ⟨hk, rfl⟩) | (split <;> exact ⟨hk, rfl⟩)
      split
      · rw [bindv]
        exact ⟨⟨rfl, rfl, rfl, rfl, rfl, rfl, rfl, rfl, rfl, rfl⟩, (p _).1, by show rl (B + 1) (Sc.ti (m_X7_putOut (Sf.c (Us.ah s)) n _)); rw [(p _).2]; exact hT.mono (by omega)⟩
      · rw [bindv]
        exact ⟨⟨rfl, rfl, rfl, rfl, rfl, rfl, rfl, rfl, rfl, rfl⟩, (p _).1, by show rl (B + 1) (Sc.ti (m_X7_putOut (Sf.c (Us.ah s)) n _)); rw [(p _).2]; exact hT.mono (by omega)⟩
def l_X11_done_29 (s : Us) (w : Int32) : Nat → Int32 → Us → Int32 × Us
  | 0, _, _ => (0, s)
  | n29 + 1, i, m1 => if Tb.n (Sf.pl (Us.nw m1)) ≤ i then (if w = 0 then ((m_X7_all (Sc.kn (Sf.c (Us.ah m1))) (Sc.sz (Sf.c (Us.ah m1))) (Sc.ou (Sf.c (Us.ah m1)))), m1) else ((m_X7_held (Sc.kn (Sf.c (Us.ah m1))) (Sc.sz (Sf.c (Us.ah m1))) (Sc.ou (Sf.c (Us.ah m1)))), m1)) else (bindv (m_X11_doPlanned m1 (m_X8_cell (Tb.ce (Sf.pl (Us.nw m1))) (Tb.n (Sf.pl (Us.nw m1))) i (nI 0)) (m_X8_cell (Tb.ce (Sf.pl (Us.nw m1))) (Tb.n (Sf.pl (Us.nw m1))) i (nI 1))) (fun r4 => l_X11_done_29 s w n29 (i + nI 1) r4))
theorem q_X11_done_29 (s : Us) (w : Int32) (n29 : Nat) (i : Int32) (m1 : Us) : l_X11_done_29 s w (n29 + 1) i m1 = (if Tb.n (Sf.pl (Us.nw m1)) ≤ i then (if w = 0 then ((m_X7_all (Sc.kn (Sf.c (Us.ah m1))) (Sc.sz (Sf.c (Us.ah m1))) (Sc.ou (Sf.c (Us.ah m1)))), m1) else ((m_X7_held (Sc.kn (Sf.c (Us.ah m1))) (Sc.sz (Sf.c (Us.ah m1))) (Sc.ou (Sf.c (Us.ah m1)))), m1)) else (bindv (m_X11_doPlanned m1 (m_X8_cell (Tb.ce (Sf.pl (Us.nw m1))) (Tb.n (Sf.pl (Us.nw m1))) i (nI 0)) (m_X8_cell (Tb.ce (Sf.pl (Us.nw m1))) (Tb.n (Sf.pl (Us.nw m1))) i (nI 1))) (fun r4 => l_X11_done_29 s w n29 (i + nI 1) r4))) := rfl
def m_X11_done (s : Us) (w : Int32) : Int32 × Us := if (m_X11_isPart w) = 0 then ((-nI 1), s) else l_X11_done_29 s w 9 (nI 0) (Us.nw s, Us.kp s, (becR (Sf.c (Us.ah s)) (Sf.c (Us.nw s)), Sf.tp (Us.ah s), Sf.se (Us.ah s), Sf.pl (Us.ah s), Sf.bk (Us.ah s)), Us.h s, Us.k0 s, Us.k1 s, Us.k2 s, Us.k3 s, Us.k4 s, Us.k5 s, Us.k6 s, fgt (Us.h s) (Us.st s), Us.l0 s, Us.l1 s, Us.l2 s, Us.l3 s, Us.l4 s, Us.l5 s, Us.b0 s, Us.b1 s, Us.b2 s, Us.b3 s, Us.b4 s, Us.b5 s, Us.b6 s, Us.it s, Us.ac s)
set_option maxRecDepth 100000 in
set_option maxHeartbeats 300000 in
theorem c_X11_done (l : Launch) {fv : Value} (hf : FV fv) (s : Us) (w : Int32) (hV : Vn s) (hpl : rl 8 (Tb.n (Sf.pl (Us.nw s)))) : CT l fv 8 jX11_done [.ref 0, .int w] (hUs s) (DP (some (.int (m_X11_done s w).1)) (hUs ((m_X11_done s w).2))) := by
  refine CT_of [29] mt_X11_done (by decide +kernel) (tab_X11 hf) okX11_done (Nat.le_of_ble_eq_true rfl) ?_
  intro J hJ hD
  refine hJ 0 _ _ _ ?_
  refine CALL_sub (h' := hUs s) [] (by decide) (c_X11_isPart l hf w) rfl rfl (by decide) (by decide) rfl ?_
  refine And.intro (fun c1 => ?_) (fun c1 => ?_)
  · skip
    refine hJ 9 _ _ _ ?_
    refine CALL_sub (r := none) (h' := wUs (Us.nw s) (Us.kp s) (Us.ah s) (Us.h s) (Us.k0 s) (Us.k1 s) (Us.k2 s) (Us.k3 s) (Us.k4 s) (Us.k5 s) (Us.k6 s) (fgt (Us.h s) (Us.st s)) (Us.l0 s) (Us.l1 s) (Us.l2 s) (Us.l3 s) (Us.l4 s) (Us.l5 s) (Us.b0 s) (Us.b1 s) (Us.b2 s) (Us.b3 s) (Us.b4 s) (Us.b5 s) (Us.b6 s) (Us.it s) (Us.ac s)) [19, 28] (by decide) (c_X1_forget l hf (Us.h s, Us.st s) 21 20) rfl rfl (by decide) (by decide) rfl ?_
    refine CALL_sub (r := none) (h' := wUs (Us.nw s) (Us.kp s) (becR (Sf.c (Us.ah s)) (Sf.c (Us.nw s)), Sf.tp (Us.ah s), Sf.se (Us.ah s), Sf.pl (Us.ah s), Sf.bk (Us.ah s)) (Us.h s) (Us.k0 s) (Us.k1 s) (Us.k2 s) (Us.k3 s) (Us.k4 s) (Us.k5 s) (Us.k6 s) (fgt (Us.h s) (Us.st s)) (Us.l0 s) (Us.l1 s) (Us.l2 s) (Us.l3 s) (Us.l4 s) (Us.l5 s) (Us.b0 s) (Us.b1 s) (Us.b2 s) (Us.b3 s) (Us.b4 s) (Us.b5 s) (Us.b6 s) (Us.it s) (Us.ac s)) [13, 14, 15, 16, 17, 18, 1, 2, 3, 4, 5, 6] (by decide) (c_X7_becomeRow l hf (Sf.c (Us.ah s), Sf.c (Us.nw s)) 44 57 59 61 42 45 47 49) rfl rfl (by decide) (by decide) rfl ?_
    have L29 : ∀ (n29 : Nat) (i : Int32) (m1 : Us), (∃ z9 : Nat, z9 ≤ 8 ∧ n29 + z9 = 9 ∧ i = nI z9 ∧ Un s m1 ∧ hK (Sc.sz (Sf.c (Us.ah m1))) (Sc.kd (Sf.c (Us.ah m1))) ∧ rl (9999 + z9) (Sc.ti (Sf.c (Us.ah m1)))) → m_X11_done s w = l_X11_done_29 s w n29 i m1 → J 29 [(0, .ref 0), (1, .int w), (2, .int i)] [] (hUs m1) := by
      intro n29
      induction n29 with
      | zero =>
        intro i m1 hv
        obtain ⟨z9, h1, h2, h3, h5, h6, h7⟩ := hv
        omega
      | succ n29 ih29 =>
        intro i m1 hv e29
        obtain ⟨z9, h1, h2, h3, h5, h6, h7⟩ := hv
        have hV1 := hV.un h5
        refine hJ 29 _ _ _ ?_
        refine And.intro (fun c2 => ?_) (fun c2 => ?_)
        · skip
          refine hJ 77 _ _ _ ?_
          refine And.intro (fun c3 => ?_) (fun c3 => ?_)
          · skip
            refine hJ 91 _ _ _ ?_
            refine CALL_sub (r := some (.int (m_X7_held (Sc.kn (Sf.c (Us.ah m1))) (Sc.sz (Sf.c (Us.ah m1))) (Sc.ou (Sf.c (Us.ah m1)))))) (h' := hUs m1) [13, 14, 15, 16, 17, 18] (by decide) (c_X7_held l hf (Sf.c (Us.ah m1)) 44 57 59 61) rfl rfl (by decide) (by decide) rfl ?_
            exact And.intro True.intro (DPis (F := (fun z => hUs z)) (s' := m1) (e29.trans ((q_X11_done_29 s w n29 i m1).trans ((if_pos c2).trans (if_neg c3)))))
          · skip
            refine CALL_sub (r := some (.int (m_X7_all (Sc.kn (Sf.c (Us.ah m1))) (Sc.sz (Sf.c (Us.ah m1))) (Sc.ou (Sf.c (Us.ah m1)))))) (h' := hUs m1) [13, 14, 15, 16, 17, 18] (by decide) (c_X7_all l hf (Sf.c (Us.ah m1)) 44 57 59 61) rfl rfl (by decide) (by decide) rfl ?_
            refine hJ 98 _ _ _ ?_
            exact And.intro True.intro (DPis (F := (fun z => hUs z)) (s' := m1) (e29.trans ((q_X11_done_29 s w n29 i m1).trans ((if_pos c2).trans (if_pos c3)))))
        · skip
          have h4 := rl_lt (by rw [h5.1]; exact hpl) h3 h1 c2
          refine CALL_sub (r := some (.int (m_X8_cell (Tb.ce (Sf.pl (Us.nw m1))) (Tb.n (Sf.pl (Us.nw m1))) i (nI 0)))) (h' := hUs m1) [47, 48] (by decide) (c_X8_cell l hf (Sf.pl (Us.nw m1)) i (nI 0) (by rw [h5.1]; exact hpl)) rfl rfl (by decide) (by decide) rfl ?_
          refine CALL_sub (r := some (.int (m_X8_cell (Tb.ce (Sf.pl (Us.nw m1))) (Tb.n (Sf.pl (Us.nw m1))) i (nI 1)))) (h' := hUs m1) [47, 48] (by decide) (c_X8_cell l hf (Sf.pl (Us.nw m1)) i (nI 1) (by rw [h5.1]; exact hpl)) rfl rfl (by decide) (by decide) rfl ?_
          obtain ⟨r4, er4⟩ : ∃ z : Us, m_X11_doPlanned m1 (m_X8_cell (Tb.ce (Sf.pl (Us.nw m1))) (Tb.n (Sf.pl (Us.nw m1))) i (nI 0)) (m_X8_cell (Tb.ce (Sf.pl (Us.nw m1))) (Tb.n (Sf.pl (Us.nw m1))) i (nI 1)) = z := ⟨_, rfl⟩
          have hr4 := c_X11_doPlanned l hf m1 (m_X8_cell (Tb.ce (Sf.pl (Us.nw m1))) (Tb.n (Sf.pl (Us.nw m1))) i (nI 0)) (m_X8_cell (Tb.ce (Sf.pl (Us.nw m1))) (Tb.n (Sf.pl (Us.nw m1))) i (nI 1)) (B := 9999 + z9) (by omega) hV1.1 hV1.2.1 h6 h7
          rw [er4] at hr4
          have h8 := un_doP er4 h6 h7
          refine CALL_same (r := none) (h1 := hUs r4) (by decide) (hr4) ?_
          exact hD _ _ [1, 2, 0] _ _ (ih29 _ _ ⟨z9 + 1, by omega, by omega, by rw [h3]; exact nI_add z9 1, h5.tr h8.1, h8.2.1, h8.2.2⟩ (e29.trans ((q_X11_done_29 s w n29 i m1).trans ((if_neg c2).trans (bindv_eq er4)))))
    exact hD _ _ [1, 2, 0] _ _ (L29 9 _ (Us.nw s, Us.kp s, (becR (Sf.c (Us.ah s)) (Sf.c (Us.nw s)), Sf.tp (Us.ah s), Sf.se (Us.ah s), Sf.pl (Us.ah s), Sf.bk (Us.ah s)), Us.h s, Us.k0 s, Us.k1 s, Us.k2 s, Us.k3 s, Us.k4 s, Us.k5 s, Us.k6 s, fgt (Us.h s) (Us.st s), Us.l0 s, Us.l1 s, Us.l2 s, Us.l3 s, Us.l4 s, Us.l5 s, Us.b0 s, Us.b1 s, Us.b2 s, Us.b3 s, Us.b4 s, Us.b5 s, Us.b6 s, Us.it s, Us.ac s) ⟨0, by omega, by omega, rfl, by exact ⟨rfl, rfl, rfl, rfl, rfl, rfl, rfl, rfl, rfl, rfl⟩, by exact hK.cpy hV.2.2.1, by exact hV.2.2.2.1⟩ (if_neg c1))
  · skip
    exact And.intro True.intro (DPis (F := (fun z => hUs z)) (s' := s) (if_pos c1))
def l_X11_as_36 (znw_c_kd : Fn) (znw_c_vv : Fn) (znw_c_sz : Int32) (u : Int32) (k : Int32) : Nat → Int32 → Int32 → Int32
  | 0, _, _ => 0
  | n36 + 1, kd, n => if nI 7 ≤ n then (-nI 6) else (if kd < 0 then (-nI 6) else (if nI 7 ≤ kd then (-nI 6) else (if kd = k then (znw_c_vv u.toNatClampNeg) else l_X11_as_36 znw_c_kd znw_c_vv znw_c_sz u k n36 (sAb kd.toNatClampNeg) (n + nI 1))))
theorem q_X11_as_36 (znw_c_kd : Fn) (znw_c_vv : Fn) (znw_c_sz : Int32) (u : Int32) (k : Int32) (n36 : Nat) (kd : Int32) (n : Int32) : l_X11_as_36 znw_c_kd znw_c_vv znw_c_sz u k (n36 + 1) kd n = (if nI 7 ≤ n then (-nI 6) else (if kd < 0 then (-nI 6) else (if nI 7 ≤ kd then (-nI 6) else (if kd = k then (znw_c_vv u.toNatClampNeg) else l_X11_as_36 znw_c_kd znw_c_vv znw_c_sz u k n36 (sAb kd.toNatClampNeg) (n + nI 1))))) := rfl
def m_X11_as (znw_c_kd : Fn) (znw_c_vv : Fn) (znw_c_sz : Int32) (u : Int32) (k : Int32) : Int32 := if (m_X7_has (znw_c_sz) u) = 0 then (-nI 1) else (if k < 0 then (-nI 1) else (if k < nI 7 then l_X11_as_36 znw_c_kd znw_c_vv znw_c_sz u k 8 (znw_c_kd u.toNatClampNeg) (nI 0) else (-nI 1)))
set_option maxRecDepth 100000 in
set_option maxHeartbeats 300000 in
theorem c_X11_as (l : Launch) {fv : Value} (hf : FV fv) (s : Us) (u : Int32) (k : Int32) : CT l fv 2 jX11_as [.ref 0, .int u, .int k] (hUs s) (DP (some (.int (m_X11_as (Sc.kd (Sf.c (Us.nw s))) (Sc.vv (Sf.c (Us.nw s))) (Sc.sz (Sf.c (Us.nw s))) u k))) (hUs s)) := by
  refine CT_of [36] mt_X11_as (by decide +kernel) (tab_X11 hf) okX11_as (Nat.le_of_ble_eq_true rfl) ?_
  intro J hJ hD
  refine hJ 0 _ _ _ ?_
  refine CALL_sub (r := some (.int (m_X7_has (Sc.sz (Sf.c (Us.nw s))) u))) (h' := hUs s) [1, 2, 3, 4, 5, 6] (by decide) (c_X7_has l hf (Sf.c (Us.nw s)) 42 45 47 49 u) rfl rfl (by decide) (by decide) rfl ?_
  refine And.intro (fun c1 => ?_) (fun c1 => ?_)
  · skip
    refine hJ 21 _ _ _ ?_
    exact And.intro True.intro (DPi (if_pos c1))
  · skip
    have hi := has_of c1
    refine And.intro (fun c2 => ?_) (fun c2 => ?_)
    · skip
      refine hJ 21 _ _ _ ?_
      exact And.intro True.intro (DPi ((if_neg c1).trans (if_pos c2)))
    · skip
      refine And.intro (fun c3 => ?_) (fun c3 => ?_)
      · skip
        refine hJ 23 _ _ _ ?_
        refine And.intro (hi) ?_
        have L36 : ∀ (n36 : Nat) (kd : Int32) (n : Int32), (∃ z9 : Nat, z9 ≤ 7 ∧ n36 + z9 = 8 ∧ n = nI z9) → m_X11_as (Sc.kd (Sf.c (Us.nw s))) (Sc.vv (Sf.c (Us.nw s))) (Sc.sz (Sf.c (Us.nw s))) u k = l_X11_as_36 (Sc.kd (Sf.c (Us.nw s))) (Sc.vv (Sf.c (Us.nw s))) (Sc.sz (Sf.c (Us.nw s))) u k n36 kd n → J 36 [(0, .ref 0), (1, .int u), (2, .int k), (3, .int kd), (4, .int n)] [] (hUs s) := by
          intro n36
          induction n36 with
          | zero =>
            intro kd n hv
            obtain ⟨z9, h1, h2, h3⟩ := hv
            omega
          | succ n36 ih36 =>
            intro kd n hv e36
            obtain ⟨z9, h1, h2, h3⟩ := hv
            refine hJ 36 _ _ _ ?_
            refine And.intro (fun c4 => ?_) (fun c4 => ?_)
            · skip
              refine hJ 82 _ _ _ ?_
              exact And.intro True.intro (DPi (e36.trans ((q_X11_as_36 (Sc.kd (Sf.c (Us.nw s))) (Sc.vv (Sf.c (Us.nw s))) (Sc.sz (Sf.c (Us.nw s))) u k n36 kd n).trans (if_pos c4))))
            · skip
              have h4 : z9 < 7 := cnt_lt h3 h1 (by decide) c4
              refine And.intro (fun c5 => ?_) (fun c5 => ?_)
              · skip
                refine hJ 82 _ _ _ ?_
                exact And.intro True.intro (DPi (e36.trans ((q_X11_as_36 (Sc.kd (Sf.c (Us.nw s))) (Sc.vv (Sf.c (Us.nw s))) (Sc.sz (Sf.c (Us.nw s))) u k n36 kd n).trans ((if_neg c4).trans (if_pos c5)))))
              · skip
                have k1 := c5
                refine And.intro (fun c6 => ?_) (fun c6 => ?_)
                · skip
                  refine hJ 82 _ _ _ ?_
                  exact And.intro True.intro (DPi (e36.trans ((q_X11_as_36 (Sc.kd (Sf.c (Us.nw s))) (Sc.vv (Sf.c (Us.nw s))) (Sc.sz (Sf.c (Us.nw s))) u k n36 kd n).trans ((if_neg c4).trans ((if_neg c5).trans (if_pos c6))))))
                · skip
                  have k2 := c6
                  refine And.intro (fun c7 => ?_) (fun c7 => ?_)
                  · skip
                    refine hJ 70 _ _ _ ?_
                    refine And.intro (vp_of3 k1 k2 (by decide)) ?_
                    exact hD _ _ [2, 3, 4, 1, 0] _ _ (ih36 _ _ ⟨z9 + 1, by omega, by omega, by rw [h3]; exact nI_add z9 1⟩ (e36.trans ((q_X11_as_36 (Sc.kd (Sf.c (Us.nw s))) (Sc.vv (Sf.c (Us.nw s))) (Sc.sz (Sf.c (Us.nw s))) u k n36 kd n).trans ((if_neg c4).trans ((if_neg c5).trans ((if_neg c6).trans (if_neg c7)))))))
                  · skip
                    refine And.intro (hi) ?_
                    exact And.intro True.intro (DPi (e36.trans ((q_X11_as_36 (Sc.kd (Sf.c (Us.nw s))) (Sc.vv (Sf.c (Us.nw s))) (Sc.sz (Sf.c (Us.nw s))) u k n36 kd n).trans ((if_neg c4).trans ((if_neg c5).trans ((if_neg c6).trans (if_pos c7)))))))
        exact hD _ _ [2, 3, 4, 1, 0] _ _ (L36 8 _ _ ⟨0, by decide, by decide, rfl⟩ ((if_neg c1).trans ((if_neg c2).trans (if_pos c3))))
      · skip
        exact And.intro True.intro (DPi ((if_neg c1).trans ((if_neg c2).trans (if_neg c3))))

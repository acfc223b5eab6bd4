/-! printed by wip/whole/gen/specs61.py: calls of the class, what was seen, odds -/
def l_X11_lowest_16  (up : Int32) (lo : Int32) (pa : Int32) : Nat → Int32 → Int32 → Int32 → Int64
  | 0, _, _, _ => 0
  | n16 + 1, di, re, n => if nI 100 ≤ n then (if 0 < di then (if pa = 0 then (up / di).toInt64 else (lo / di).toInt64) else (-9223372036854775808)) else (if re ≤ 0 then (if 0 < di then (if pa = 0 then (up / di).toInt64 else (lo / di).toInt64) else (-9223372036854775808)) else l_X11_lowest_16 up lo pa n16 re (di - di / re * re) (n + nI 1))
theorem q_X11_lowest_16  (up : Int32) (lo : Int32) (pa : Int32) (n16 : Nat) (di : Int32) (re : Int32) (n : Int32) : l_X11_lowest_16 up lo pa (n16 + 1) di re n = (if nI 100 ≤ n then (if 0 < di then (if pa = 0 then (up / di).toInt64 else (lo / di).toInt64) else (-9223372036854775808)) else (if re ≤ 0 then (if 0 < di then (if pa = 0 then (up / di).toInt64 else (lo / di).toInt64) else (-9223372036854775808)) else l_X11_lowest_16 up lo pa n16 re (di - di / re * re) (n + nI 1))) := rfl
def m_X11_lowest  (up : Int32) (lo : Int32) (pa : Int32) : Int64 := if 0 < lo then l_X11_lowest_16 up lo pa 101 lo up (nI 0) else (-9223372036854775808)
set_option maxRecDepth 100000 in
set_option maxHeartbeats 4000000 in
theorem c_X11_lowest (l : Launch) {fv : Value} (hf : FV fv)  (up : Int32) (lo : Int32) (pa : Int32) : CT l fv 1 jX11_lowest [.int up, .int lo, .int pa] ([]) (DP (some (.long (m_X11_lowest up lo pa))) ([])) := by
  refine CT_of [16] mt_X11_lowest (by decide +kernel) (tab_X11 hf) okX11_lowest (Nat.le_of_ble_eq_true rfl) ?_
  intro J hJ hD
  refine hJ 0 _ _ _ ?_
  refine And.intro (fun c1 => ?_) (fun c1 => ?_)
  · skip
    refine hJ 8 _ _ _ ?_
    have L16 : ∀ (n16 : Nat) (di : Int32) (re : Int32) (n : Int32), (∃ z9 : Nat, z9 ≤ 100 ∧ n16 + z9 = 101 ∧ n = nI z9) → m_X11_lowest up lo pa = l_X11_lowest_16 up lo pa n16 di re n → J 16 [(0, .int up), (1, .int lo), (2, .int pa), (3, .int di), (4, .int re), (5, .int n)] [] [] := by
      intro n16
      induction n16 with
      | zero =>
        intro di re n hv
        obtain ⟨z9, h1, h2, h3⟩ := hv
        omega
      | succ n16 ih16 =>
        intro di re n hv e16
        obtain ⟨z9, h1, h2, h3⟩ := hv
        refine hJ 16 _ _ _ ?_
        refine And.intro (fun c2 => ?_) (fun c2 => ?_)
        · skip
          refine hJ 47 _ _ _ ?_
          refine And.intro (fun c3 => ?_) (fun c3 => ?_)
          · skip
            have kd := c3
            refine hJ 55 _ _ _ ?_
            refine And.intro (fun c4 => ?_) (fun c4 => ?_)
            · skip
              refine hJ 66 _ _ _ ?_
              refine And.intro (fun h => absurd kd (by rw [h]; decide)) ?_
              exact And.intro rfl (DPl (e16.trans ((q_X11_lowest_16 up lo pa n16 di re n).trans ((if_pos c2).trans ((if_pos c3).trans (if_neg c4))))))
            · skip
              refine And.intro (fun h => absurd kd (by rw [h]; decide)) ?_
              refine hJ 70 _ _ _ ?_
              exact And.intro rfl (DPl (e16.trans ((q_X11_lowest_16 up lo pa n16 di re n).trans ((if_pos c2).trans ((if_pos c3).trans (if_pos c4))))))
          · skip
            exact And.intro rfl (DPl (e16.trans ((q_X11_lowest_16 up lo pa n16 di re n).trans ((if_pos c2).trans (if_neg c3)))))
        · skip
          have h4 : z9 < 100 := cnt_lt h3 h1 (by decide) c2
          refine And.intro (fun c5 => ?_) (fun c5 => ?_)
          · skip
            refine hJ 47 _ _ _ ?_
            refine And.intro (fun c6 => ?_) (fun c6 => ?_)
            · skip
              have kd := c6
              refine hJ 55 _ _ _ ?_
              refine And.intro (fun c7 => ?_) (fun c7 => ?_)
              · skip
                refine hJ 66 _ _ _ ?_
                refine And.intro (fun h => absurd kd (by rw [h]; decide)) ?_
                exact And.intro rfl (DPl (e16.trans ((q_X11_lowest_16 up lo pa n16 di re n).trans ((if_neg c2).trans ((if_pos c5).trans ((if_pos c6).trans (if_neg c7)))))))
              · skip
                refine And.intro (fun h => absurd kd (by rw [h]; decide)) ?_
                refine hJ 70 _ _ _ ?_
                exact And.intro rfl (DPl (e16.trans ((q_X11_lowest_16 up lo pa n16 di re n).trans ((if_neg c2).trans ((if_pos c5).trans ((if_pos c6).trans (if_pos c7)))))))
            · skip
              exact And.intro rfl (DPl (e16.trans ((q_X11_lowest_16 up lo pa n16 di re n).trans ((if_neg c2).trans ((if_pos c5).trans (if_neg c6))))))
          · skip
            have k1 := c5
            refine And.intro (fun h => k1 (by rw [h]; decide)) ?_
            exact hD _ _ [4, 5, 6, 2, 1, 0] _ _ (ih16 _ _ _ ⟨z9 + 1, by omega, by omega, by rw [h3]; exact nI_add z9 1⟩ (e16.trans ((q_X11_lowest_16 up lo pa n16 di re n).trans ((if_neg c2).trans (if_neg c5)))))
    exact hD _ _ [3, 4, 5, 2, 1, 0] _ _ (L16 101 _ _ _ ⟨0, by decide, by decide, rfl⟩ (if_pos c1))
  · skip
    exact And.intro rfl (DPl (if_neg c1))
def m_X11_mean (znw_c_kn : Fn) (znw_c_sz : Int32) (znw_c_ou : Int32) (pa : Int32) : Int64 := if (m_X11_isPart pa) = 0 then (-9223372036854775808) else (m_X11_lowest (m_X7_held (znw_c_kn) (znw_c_sz) (znw_c_ou)) (m_X7_notOut (znw_c_sz) (znw_c_ou)) pa)
set_option maxRecDepth 100000 in
set_option maxHeartbeats 4000000 in
theorem c_X11_mean (l : Launch) {fv : Value} (hf : FV fv) (s : Us) (pa : Int32) : CT l fv 3 jX11_mean [.ref 0, .int pa] (hUs s) (DP (some (.long (m_X11_mean (Sc.kn (Sf.c (Us.nw s))) (Sc.sz (Sf.c (Us.nw s))) (Sc.ou (Sf.c (Us.nw s))) pa))) (hUs s)) := by
  refine CT_of [] mt_X11_mean (by decide +kernel) (tab_X11 hf) okX11_mean (Nat.le_of_ble_eq_true rfl) ?_
  intro J hJ hD
  refine hJ 0 _ _ _ ?_
  refine CALL_sub (h' := hUs s) [] (by decide) (c_X11_isPart l hf pa) rfl rfl (by decide) (by decide) rfl ?_
  refine And.intro (fun c1 => ?_) (fun c1 => ?_)
  · skip
    refine hJ 28 _ _ _ ?_
    exact And.intro rfl (DPl (if_pos c1))
  · skip
    refine CALL_sub (r := some (.int (m_X7_held (Sc.kn (Sf.c (Us.nw s))) (Sc.sz (Sf.c (Us.nw s))) (Sc.ou (Sf.c (Us.nw s)))))) (h' := hUs s) [1, 2, 3, 4, 5, 6] (by decide) (c_X7_held l hf (Sf.c (Us.nw s)) 42 45 47 49) rfl rfl (by decide) (by decide) rfl ?_
    refine CALL_sub (r := some (.int (m_X7_notOut (Sc.sz (Sf.c (Us.nw s))) (Sc.ou (Sf.c (Us.nw s)))))) (h' := hUs s) [1, 2, 3, 4, 5, 6] (by decide) (c_X7_notOut l hf (Sf.c (Us.nw s)) 42 45 47 49) rfl rfl (by decide) (by decide) rfl ?_
    refine CALL_sub (h' := hUs s) [] (by decide) (c_X11_lowest l hf (m_X7_held (Sc.kn (Sf.c (Us.nw s))) (Sc.sz (Sf.c (Us.nw s))) (Sc.ou (Sf.c (Us.nw s)))) (m_X7_notOut (Sc.sz (Sf.c (Us.nw s))) (Sc.ou (Sf.c (Us.nw s)))) pa) rfl rfl (by decide) (by decide) rfl ?_
    refine hJ 31 _ _ _ ?_
    exact And.intro rfl (DPl (if_neg c1))
/-- what was seen: some rows, their tides 12 at most -/
def Sn (f : Sf) : Prop := rl 8 (Tb.n (Sf.se f)) ∧ ∀ j, j < 8 → rl 12 (Tb.ce (Sf.se f) (4 * j + 1))
theorem rl_cell {ce : Fn} {n i : Int32} (hn : rl 8 n) (h : ∀ j, j < 8 → rl 12 (ce (4 * j + 1))) : rl 12 (m_X8_cell ce n i (nI 1)) := by
  unfold m_X8_cell
  by_cases c1 : i < 0
  · rw [if_pos c1]; exact ⟨0, by omega, rfl⟩
  · rw [if_neg c1]
    by_cases c2 : n ≤ i
    · rw [if_pos c2]; exact ⟨0, by omega, rfl⟩
    · rw [if_neg c2]
      split
      · exact ⟨0, by omega, rfl⟩
      · split
        · exact ⟨0, by omega, rfl⟩
        · obtain ⟨k, hk, rfl⟩ := vp_in_of (vp_lim c1 (Int32.not_le.mp c2) hn) (by decide)
          rw [pk_mul, nI_add, nI_clamp (by omega), Nat.mul_comm k 4]
          exact h k hk
theorem rl_max {N : Nat} {a b : Int32} (ha : rl N a) (hb : rl N b) : rl N (m_J9_max_7cf53 a b) := by
  unfold m_J9_max_7cf53
  split <;> first | exact ha | exact hb
theorem ls_l (ce : Fn) (n : Int32) (hn : rl 8 n) (h : ∀ j, j < 8 → rl 12 (ce (4 * j + 1))) : ∀ (x : Nat) (a i : Int32), rl 12 a → rl 12 (l_X7_lastSeen_4 ce n x a i) := by
  intro x
  induction x with
  | zero => intro a i ha; exact ⟨0, by omega, rfl⟩
  | succ x ih =>
    intro a i ha
    rw [q_X7_lastSeen_4]
    split
    · exact ha
    · exact ih _ _ (rl_max ha (rl_cell hn h))
theorem ls_12 {f : Sf} (h : Sn f) : rl 12 (m_X7_lastSeen (Tb.ce (Sf.se f)) (Tb.n (Sf.se f))) := ls_l _ _ h.1 h.2 _ _ _ ⟨0, by omega, rfl⟩
def l_X11_seenIsSo_15 (s : Us) (L : Lg) : Nat → Int32 → Us → Int32 × Us
  | 0, _, _ => (0, s)
  | n15 + 1, n, m1 => if (m_X7_lastSeen (Tb.ce (Sf.se (Us.nw s))) (Tb.n (Sf.se (Us.nw s)))) < n then (nI 1, m1) else (if n ≤ 0 then (if (m_X7_isAsSeen (Sc.kn (Sf.c (Us.ah m1))) (Sc.sz (Sf.c (Us.ah m1))) (Tb.ce (Sf.se (Us.nw m1))) (Tb.n (Sf.se (Us.nw m1))) n) = 0 then (nI 0, m1) else l_X11_seenIsSo_15 s L n15 (n + nI 1) m1) else (bindv (m_X7_goTide (Sf.c (Us.ah m1), Us.h m1, Us.k0 m1, Us.k1 m1, Us.k2 m1, Us.k3 m1, Us.k4 m1, Us.k5 m1, Us.k6 m1, Us.st m1, L) (m_X7_lessonNow (Sc.le (Sf.c (Us.ah m1))) (Sc.ti (Sf.c (Us.ah m1))))) (fun r4 => if (m_X7_isAsSeen (Sc.kn (Wt.c r4)) (Sc.sz (Wt.c r4)) (Tb.ce (Sf.se (Us.nw m1))) (Tb.n (Sf.se (Us.nw m1))) n) = 0 then (nI 0, (Us.nw m1, Us.kp m1, (Wt.c r4, Sf.tp (Us.ah m1), Sf.se (Us.ah m1), Sf.pl (Us.ah m1), Sf.bk (Us.ah m1)), Wt.h r4, Wt.k0 r4, Wt.k1 r4, Wt.k2 r4, Wt.k3 r4, Wt.k4 r4, Wt.k5 r4, Wt.k6 r4, Wt.st r4, Us.l0 m1, Us.l1 m1, Us.l2 m1, Us.l3 m1, Us.l4 m1, Us.l5 m1, Us.b0 m1, Us.b1 m1, Us.b2 m1, Us.b3 m1, Us.b4 m1, Us.b5 m1, Us.b6 m1, Us.it m1, Us.ac m1)) else l_X11_seenIsSo_15 s L n15 (n + nI 1) (Us.nw m1, Us.kp m1, (Wt.c r4, Sf.tp (Us.ah m1), Sf.se (Us.ah m1), Sf.pl (Us.ah m1), Sf.bk (Us.ah m1)), Wt.h r4, Wt.k0 r4, Wt.k1 r4, Wt.k2 r4, Wt.k3 r4, Wt.k4 r4, Wt.k5 r4, Wt.k6 r4, Wt.st r4, Us.l0 m1, Us.l1 m1, Us.l2 m1, Us.l3 m1, Us.l4 m1, Us.l5 m1, Us.b0 m1, Us.b1 m1, Us.b2 m1, Us.b3 m1, Us.b4 m1, Us.b5 m1, Us.b6 m1, Us.it m1, Us.ac m1))))
theorem q_X11_seenIsSo_15 (s : Us) (L : Lg) (n15 : Nat) (n : Int32) (m1 : Us) : l_X11_seenIsSo_15 s L (n15 + 1) n m1 = (if (m_X7_lastSeen (Tb.ce (Sf.se (Us.nw s))) (Tb.n (Sf.se (Us.nw s)))) < n then (nI 1, m1) else (if n ≤ 0 then (if (m_X7_isAsSeen (Sc.kn (Sf.c (Us.ah m1))) (Sc.sz (Sf.c (Us.ah m1))) (Tb.ce (Sf.se (Us.nw m1))) (Tb.n (Sf.se (Us.nw m1))) n) = 0 then (nI 0, m1) else l_X11_seenIsSo_15 s L n15 (n + nI 1) m1) else (bindv (m_X7_goTide (Sf.c (Us.ah m1), Us.h m1, Us.k0 m1, Us.k1 m1, Us.k2 m1, Us.k3 m1, Us.k4 m1, Us.k5 m1, Us.k6 m1, Us.st m1, L) (m_X7_lessonNow (Sc.le (Sf.c (Us.ah m1))) (Sc.ti (Sf.c (Us.ah m1))))) (fun r4 => if (m_X7_isAsSeen (Sc.kn (Wt.c r4)) (Sc.sz (Wt.c r4)) (Tb.ce (Sf.se (Us.nw m1))) (Tb.n (Sf.se (Us.nw m1))) n) = 0 then (nI 0, (Us.nw m1, Us.kp m1, (Wt.c r4, Sf.tp (Us.ah m1), Sf.se (Us.ah m1), Sf.pl (Us.ah m1), Sf.bk (Us.ah m1)), Wt.h r4, Wt.k0 r4, Wt.k1 r4, Wt.k2 r4, Wt.k3 r4, Wt.k4 r4, Wt.k5 r4, Wt.k6 r4, Wt.st r4, Us.l0 m1, Us.l1 m1, Us.l2 m1, Us.l3 m1, Us.l4 m1, Us.l5 m1, Us.b0 m1, Us.b1 m1, Us.b2 m1, Us.b3 m1, Us.b4 m1, Us.b5 m1, Us.b6 m1, Us.it m1, Us.ac m1)) else l_X11_seenIsSo_15 s L n15 (n + nI 1) (Us.nw m1, Us.kp m1, (Wt.c r4, Sf.tp (Us.ah m1), Sf.se (Us.ah m1), Sf.pl (Us.ah m1), Sf.bk (Us.ah m1)), Wt.h r4, Wt.k0 r4, Wt.k1 r4, Wt.k2 r4, Wt.k3 r4, Wt.k4 r4, Wt.k5 r4, Wt.k6 r4, Wt.st r4, Us.l0 m1, Us.l1 m1, Us.l2 m1, Us.l3 m1, Us.l4 m1, Us.l5 m1, Us.b0 m1, Us.b1 m1, Us.b2 m1, Us.b3 m1, Us.b4 m1, Us.b5 m1, Us.b6 m1, Us.it m1, Us.ac m1))))) := rfl
def m_X11_seenIsSo (s : Us) : Int32 × Us := bindv (holdL (Sc.lg (Sf.c (Us.nw s))) (Us.l0 s) (Us.l1 s) (Us.l2 s) (Us.l3 s) (Us.l4 s) (Us.l5 s)) (fun L => l_X11_seenIsSo_15 s L 14 (nI 0) s)
set_option maxRecDepth 100000 in
set_option maxHeartbeats 4000000 in
theorem c_X11_seenIsSo (l : Launch) {fv : Value} (hf : FV fv) (s : Us) (hl : rl 5 (Sc.lg (Sf.c (Us.nw s)))) (ht : TPs s) (hk : hK (Sc.sz (Sf.c (Us.ah s))) (Sc.kd (Sf.c (Us.ah s)))) (hT : rl 9999 (Sc.ti (Sf.c (Us.ah s)))) (hse : Sn (Us.nw s)) : CT l fv 6 jX11_seenIsSo [.ref 0] (hUs s) (DP (some (.int (m_X11_seenIsSo s).1)) (hUs ((m_X11_seenIsSo s).2))) := by
  refine CT_of [15] mt_X11_seenIsSo (by decide +kernel) (tab_X11 hf) okX11_seenIsSo (Nat.le_of_ble_eq_true rfl) ?_
  intro J hJ hD
  obtain ⟨M, hM, hMe⟩ := ls_12 hse
  refine hJ 0 _ _ _ ?_
  obtain ⟨L, eL⟩ : ∃ z, holdL (Sc.lg (Sf.c (Us.nw s))) (Us.l0 s) (Us.l1 s) (Us.l2 s) (Us.l3 s) (Us.l4 s) (Us.l5 s) = z := ⟨_, rfl⟩
  obtain ⟨q, eq⟩ : ∃ z, holdP (Sc.lg (Sf.c (Us.nw s))) = z := ⟨_, rfl⟩
  have hQ := hold_q (s := s) ht hl eL eq
  have hcq := c_X11_holding l hf s hl
  have hcq : CT l fv 1 jX11_holding [.ref 0] (hUs s) (DP (some (.ref q)) (hUs s)) := by rw [← eq]; exact hcq
  refine CALL_same (r := some (.ref q)) (h1 := hUs s) (by decide) hcq ?_
  refine CALL_sub (r := some (.int (m_X7_lastSeen (Tb.ce (Sf.se (Us.nw s))) (Tb.n (Sf.se (Us.nw s)))))) (h' := hUs s) [1, 2, 3, 4, 5, 6, 45, 46] (by decide) (c_X7_lastSeen l hf (Sf.c (Us.nw s), Sf.se (Us.nw s)) 42 47 49 hse.1) rfl rfl (by decide) (by decide) rfl ?_
  have L15 : ∀ (n15 : Nat) (n : Int32) (m1 : Us), (∃ z9 : Nat, z9 ≤ 13 ∧ n15 + z9 = 14 ∧ n = nI z9 ∧ HQ q L m1 ∧ hK (Sc.sz (Sf.c (Us.ah m1))) (Sc.kd (Sf.c (Us.ah m1))) ∧ rl (9999 + z9) (Sc.ti (Sf.c (Us.ah m1))) ∧ Us.nw m1 = Us.nw s) → m_X11_seenIsSo s = l_X11_seenIsSo_15 s L n15 n m1 → J 15 [(0, .ref 0), (1, .ref q), (2, .int (m_X7_lastSeen (Tb.ce (Sf.se (Us.nw s))) (Tb.n (Sf.se (Us.nw s))))), (3, .int n)] [] (hUs m1) := by
    intro n15
    induction n15 with
    | zero =>
      intro n m1 hv
      obtain ⟨z9, h1, h2, h3, hQ, h6, h7, h10⟩ := hv
      omega
    | succ n15 ih15 =>
      intro n m1 hv e15
      obtain ⟨z9, h1, h2, h3, hQ, h6, h7, h10⟩ := hv
      refine hJ 15 _ _ _ ?_
      refine And.intro (fun c1 => ?_) (fun c1 => ?_)
      · skip
        refine hJ 69 _ _ _ ?_
        exact And.intro xb1 (DPis (F := (fun z => hUs z)) (s' := m1) (e15.trans ((q_X11_seenIsSo_15 s L n15 n m1).trans (if_pos c1))))
      · skip
        have h4 : z9 ≤ M := cnt_le h3 (by omega) (by omega) (by rw [← hMe]; exact c1)
        refine And.intro (fun c2 => ?_) (fun c2 => ?_)
        · skip
          refine hJ 43 _ _ _ ?_
          refine CALL_sub (r := some (.int (m_X7_isAsSeen (Sc.kn (Sf.c (Us.ah m1))) (Sc.sz (Sf.c (Us.ah m1))) (Tb.ce (Sf.se (Us.nw m1))) (Tb.n (Sf.se (Us.nw m1))) n))) (h' := hUs m1) [13, 14, 15, 16, 17, 18, 45, 46] (by decide) (c_X7_isAsSeen l hf (Sf.c (Us.ah m1), Sf.se (Us.nw m1)) 44 57 59 61 n (by rw [h10]; exact hse.1)) rfl rfl (by decide) (by decide) rfl ?_
          refine And.intro (fun c3 => ?_) (fun c3 => ?_)
          · skip
            refine hJ 63 _ _ _ ?_
            exact hD _ _ [1, 2, 3, 0] _ _ (ih15 _ _ ⟨z9 + 1, by omega, by omega, by rw [h3]; exact nI_add z9 1, by exact HQ.ch hQ rfl rfl rfl rfl rfl rfl, by first | exact h8 | exact h6, by first | exact h9 | exact h7.mono (by omega), by exact h10⟩ (e15.trans ((q_X11_seenIsSo_15 s L n15 n m1).trans ((if_neg c1).trans ((if_pos c2).trans (if_neg c3))))))
          · skip
            exact And.intro xb0 (DPis (F := (fun z => hUs z)) (s' := m1) (e15.trans ((q_X11_seenIsSo_15 s L n15 n m1).trans ((if_neg c1).trans ((if_pos c2).trans (if_pos c3))))))
        · skip
          refine CALL_sub (r := some (.int (m_X7_lessonNow (Sc.le (Sf.c (Us.ah m1))) (Sc.ti (Sf.c (Us.ah m1)))))) (h' := hUs m1) [13, 14, 15, 16, 17, 18] (by decide) (c_X7_lessonNow l hf (Sf.c (Us.ah m1)) 44 57 59 61 (h7.mono (by omega))) rfl rfl (by decide) (by decide) rfl ?_
          obtain ⟨r4, er4⟩ : ∃ z : Wt, m_X7_goTide (Sf.c (Us.ah m1), Us.h m1, Us.k0 m1, Us.k1 m1, Us.k2 m1, Us.k3 m1, Us.k4 m1, Us.k5 m1, Us.k6 m1, Us.st m1, L) (m_X7_lessonNow (Sc.le (Sf.c (Us.ah m1))) (Sc.ti (Sf.c (Us.ah m1)))) = z := ⟨_, rfl⟩
          have gr4 := gl_goTide er4
          have h8 := Tw.hk gr4.2.1 h6
          have h9 := Tw.ti gr4.2.2 h7
          refine us_goTide_ah l hf m1 (HQ.ch hQ rfl rfl rfl rfl rfl rfl) (m_X7_lessonNow (Sc.le (Sf.c (Us.ah m1))) (Sc.ti (Sf.c (Us.ah m1)))) h6 er4 gr4.1 (by decide) ?_
          refine CALL_sub (r := some (.int (m_X7_isAsSeen (Sc.kn (Wt.c r4)) (Sc.sz (Wt.c r4)) (Tb.ce (Sf.se (Us.nw m1))) (Tb.n (Sf.se (Us.nw m1))) n))) (h' := wUs (Us.nw m1) (Us.kp m1) (Wt.c r4, Sf.tp (Us.ah m1), Sf.se (Us.ah m1), Sf.pl (Us.ah m1), Sf.bk (Us.ah m1)) (Wt.h r4) (Wt.k0 r4) (Wt.k1 r4) (Wt.k2 r4) (Wt.k3 r4) (Wt.k4 r4) (Wt.k5 r4) (Wt.k6 r4) (Wt.st r4) (Us.l0 m1) (Us.l1 m1) (Us.l2 m1) (Us.l3 m1) (Us.l4 m1) (Us.l5 m1) (Us.b0 m1) (Us.b1 m1) (Us.b2 m1) (Us.b3 m1) (Us.b4 m1) (Us.b5 m1) (Us.b6 m1) (Us.it m1) (Us.ac m1)) [13, 14, 15, 16, 17, 18, 45, 46] (by decide) (c_X7_isAsSeen l hf (Wt.c r4, Sf.se (Us.nw m1)) 44 57 59 61 n (by rw [h10]; exact hse.1)) rfl rfl (by decide) (by decide) rfl ?_
          refine And.intro (fun c5 => ?_) (fun c5 => ?_)
          · skip
            refine hJ 63 _ _ _ ?_
            exact hD _ _ [1, 2, 3, 0] _ _ (ih15 _ (Us.nw m1, Us.kp m1, (Wt.c r4, Sf.tp (Us.ah m1), Sf.se (Us.ah m1), Sf.pl (Us.ah m1), Sf.bk (Us.ah m1)), Wt.h r4, Wt.k0 r4, Wt.k1 r4, Wt.k2 r4, Wt.k3 r4, Wt.k4 r4, Wt.k5 r4, Wt.k6 r4, Wt.st r4, Us.l0 m1, Us.l1 m1, Us.l2 m1, Us.l3 m1, Us.l4 m1, Us.l5 m1, Us.b0 m1, Us.b1 m1, Us.b2 m1, Us.b3 m1, Us.b4 m1, Us.b5 m1, Us.b6 m1, Us.it m1, Us.ac m1) ⟨z9 + 1, by omega, by omega, by rw [h3]; exact nI_add z9 1, by exact HQ.ch hQ rfl rfl rfl rfl rfl rfl, by first | exact h8 | exact h6, by first | exact h9 | exact h7.mono (by omega), by exact h10⟩ (e15.trans ((q_X11_seenIsSo_15 s L n15 n m1).trans ((if_neg c1).trans ((if_neg c2).trans ((bindv_eq er4).trans (if_neg c5)))))))
          · skip
            exact And.intro xb0 (DPis (F := (fun z => hUs z)) (s' := (Us.nw m1, Us.kp m1, (Wt.c r4, Sf.tp (Us.ah m1), Sf.se (Us.ah m1), Sf.pl (Us.ah m1), Sf.bk (Us.ah m1)), Wt.h r4, Wt.k0 r4, Wt.k1 r4, Wt.k2 r4, Wt.k3 r4, Wt.k4 r4, Wt.k5 r4, Wt.k6 r4, Wt.st r4, Us.l0 m1, Us.l1 m1, Us.l2 m1, Us.l3 m1, Us.l4 m1, Us.l5 m1, Us.b0 m1, Us.b1 m1, Us.b2 m1, Us.b3 m1, Us.b4 m1, Us.b5 m1, Us.b6 m1, Us.it m1, Us.ac m1)) (e15.trans ((q_X11_seenIsSo_15 s L n15 n m1).trans ((if_neg c1).trans ((if_neg c2).trans ((bindv_eq er4).trans (if_pos c5)))))))
  exact hD _ _ [3, 2, 1, 0] _ _ (L15 14 _ _ ⟨0, by omega, by omega, rfl, hQ, hk, hT, rfl⟩ (bindv_eq eL))
theorem un_seen_l (s : Us) (L : Lg) : ∀ (x : Nat) (n : Int32) (m1 : Us), Un s m1 → Un s (l_X11_seenIsSo_15 s L x n m1).2 := by
  intro x
  induction x with
  | zero => intro n m1 h; exact Un.rf s
  | succ x ih =>
    intro n m1 h
    rw [q_X11_seenIsSo_15]
    split
    · exact h
    · split
      · split
        · exact h
        · exact ih _ _ h
      · simp only [bindv]
        split
        · exact h
        · exact ih _ _ h
theorem un_seen {s : Us} {r : Int32 × Us} (e : m_X11_seenIsSo s = r) : Un s r.2 := by
  rw [← e]
  unfold m_X11_seenIsSo
  rw [bindv]
  exact un_seen_l s _ _ _ _ (Un.rf s)
theorem Un.sn {a b : Us} (u : Un a b) (h : Sn (Us.nw a)) : Sn (Us.nw b) := by rw [u.1]; exact h
def l_X11_knew_38 (s : Us) (u : Int32) (w : Int32) : Nat → Int32 → Int32 → Int32 → Us → Int32 × Us
  | 0, _, _, _, _ => (0, s)
  | n38 + 1, ma, le, v, m1 => if v < 0 then (if w = 0 then (ma, m1) else (le, m1)) else (bindv (m_X11_seenIsSo (Us.nw m1, Us.kp m1, ((Sc.kd (becR (Sf.c (Us.ah m1)) (Sf.c (Us.nw m1))), Sc.vv (becR (Sf.c (Us.ah m1)) (Sf.c (Us.nw m1))), (upd (Sc.kn (becR (Sf.c (Us.ah m1)) (Sf.c (Us.nw m1)))) u.toNatClampNeg v), Sc.rw (becR (Sf.c (Us.ah m1)) (Sf.c (Us.nw m1))), Sc.le (becR (Sf.c (Us.ah m1)) (Sf.c (Us.nw m1))), Sc.sz (becR (Sf.c (Us.ah m1)) (Sf.c (Us.nw m1))), Sc.ou (becR (Sf.c (Us.ah m1)) (Sf.c (Us.nw m1))), Sc.ti (becR (Sf.c (Us.ah m1)) (Sf.c (Us.nw m1))), Sc.sg (becR (Sf.c (Us.ah m1)) (Sf.c (Us.nw m1))), Sc.lg (becR (Sf.c (Us.ah m1)) (Sf.c (Us.nw m1)))), Sf.tp (Us.ah m1), Sf.se (Us.ah m1), Sf.pl (Us.ah m1), Sf.bk (Us.ah m1)), Us.h m1, Us.k0 m1, Us.k1 m1, Us.k2 m1, Us.k3 m1, Us.k4 m1, Us.k5 m1, Us.k6 m1, Us.st m1, Us.l0 m1, Us.l1 m1, Us.l2 m1, Us.l3 m1, Us.l4 m1, Us.l5 m1, Us.b0 m1, Us.b1 m1, Us.b2 m1, Us.b3 m1, Us.b4 m1, Us.b5 m1, Us.b6 m1, Us.it m1, Us.ac m1)) (fun r5 => if r5.1 = 0 then l_X11_knew_38 s u w n38 ma le (v + (-nI 1)) r5.2 else l_X11_knew_38 s u w n38 (ma + nI 1) v (v + (-nI 1)) r5.2))
theorem q_X11_knew_38 (s : Us) (u : Int32) (w : Int32) (n38 : Nat) (ma : Int32) (le : Int32) (v : Int32) (m1 : Us) : l_X11_knew_38 s u w (n38 + 1) ma le v m1 = (if v < 0 then (if w = 0 then (ma, m1) else (le, m1)) else (bindv (m_X11_seenIsSo (Us.nw m1, Us.kp m1, ((Sc.kd (becR (Sf.c (Us.ah m1)) (Sf.c (Us.nw m1))), Sc.vv (becR (Sf.c (Us.ah m1)) (Sf.c (Us.nw m1))), (upd (Sc.kn (becR (Sf.c (Us.ah m1)) (Sf.c (Us.nw m1)))) u.toNatClampNeg v), Sc.rw (becR (Sf.c (Us.ah m1)) (Sf.c (Us.nw m1))), Sc.le (becR (Sf.c (Us.ah m1)) (Sf.c (Us.nw m1))), Sc.sz (becR (Sf.c (Us.ah m1)) (Sf.c (Us.nw m1))), Sc.ou (becR (Sf.c (Us.ah m1)) (Sf.c (Us.nw m1))), Sc.ti (becR (Sf.c (Us.ah m1)) (Sf.c (Us.nw m1))), Sc.sg (becR (Sf.c (Us.ah m1)) (Sf.c (Us.nw m1))), Sc.lg (becR (Sf.c (Us.ah m1)) (Sf.c (Us.nw m1)))), Sf.tp (Us.ah m1), Sf.se (Us.ah m1), Sf.pl (Us.ah m1), Sf.bk (Us.ah m1)), Us.h m1, Us.k0 m1, Us.k1 m1, Us.k2 m1, Us.k3 m1, Us.k4 m1, Us.k5 m1, Us.k6 m1, Us.st m1, Us.l0 m1, Us.l1 m1, Us.l2 m1, Us.l3 m1, Us.l4 m1, Us.l5 m1, Us.b0 m1, Us.b1 m1, Us.b2 m1, Us.b3 m1, Us.b4 m1, Us.b5 m1, Us.b6 m1, Us.it m1, Us.ac m1)) (fun r5 => if r5.1 = 0 then l_X11_knew_38 s u w n38 ma le (v + (-nI 1)) r5.2 else l_X11_knew_38 s u w n38 (ma + nI 1) v (v + (-nI 1)) r5.2))) := rfl
def m_X11_knew (s : Us) (u : Int32) (w : Int32) : Int32 × Us := if (m_X7_has (Sc.sz (Sf.c (Us.nw s))) u) = 0 then ((-nI 1), s) else (if (m_X11_isPart w) = 0 then ((-nI 1), s) else l_X11_knew_38 s u w 257 (nI 0) (-nI 5) (nI 255) (Us.nw s, Us.kp s, Us.ah s, Us.h s, Us.k0 s, Us.k1 s, Us.k2 s, Us.k3 s, Us.k4 s, Us.k5 s, Us.k6 s, fgt (Us.h s) (Us.st s), Us.l0 s, Us.l1 s, Us.l2 s, Us.l3 s, Us.l4 s, Us.l5 s, Us.b0 s, Us.b1 s, Us.b2 s, Us.b3 s, Us.b4 s, Us.b5 s, Us.b6 s, Us.it s, Us.ac s))
set_option maxRecDepth 100000 in
set_option maxHeartbeats 4000000 in
theorem c_X11_knew (l : Launch) {fv : Value} (hf : FV fv) (s : Us) (u : Int32) (w : Int32) (hV : Vn s) (hse : Sn (Us.nw s)) : CT l fv 7 jX11_knew [.ref 0, .int u, .int w] (hUs s) (DP (some (.int (m_X11_knew s u w).1)) (hUs ((m_X11_knew s u w).2))) := by
  refine CT_of [38] mt_X11_knew (by decide +kernel) (tab_X11 hf) okX11_knew (Nat.le_of_ble_eq_true rfl) ?_
  intro J hJ hD
  refine hJ 0 _ _ _ ?_
  refine CALL_sub (r := some (.int (m_X7_has (Sc.sz (Sf.c (Us.nw s))) u))) (h' := hUs s) [1, 2, 3, 4, 5, 6] (by decide) (c_X7_has l hf (Sf.c (Us.nw s)) 42 45 47 49 u) rfl rfl (by decide) (by decide) rfl ?_
  refine And.intro (fun c1 => ?_) (fun c1 => ?_)
  · skip
    refine hJ 18 _ _ _ ?_
    exact And.intro True.intro (DPis (F := (fun z => hUs z)) (s' := s) (if_pos c1))
  · skip
    have hi := has_of c1
    refine CALL_sub (h' := hUs s) [] (by decide) (c_X11_isPart l hf w) rfl rfl (by decide) (by decide) rfl ?_
    refine And.intro (fun c2 => ?_) (fun c2 => ?_)
    · skip
      refine hJ 20 _ _ _ ?_
      refine CALL_sub (r := none) (h' := wUs (Us.nw s) (Us.kp s) (Us.ah s) (Us.h s) (Us.k0 s) (Us.k1 s) (Us.k2 s) (Us.k3 s) (Us.k4 s) (Us.k5 s) (Us.k6 s) (fgt (Us.h s) (Us.st s)) (Us.l0 s) (Us.l1 s) (Us.l2 s) (Us.l3 s) (Us.l4 s) (Us.l5 s) (Us.b0 s) (Us.b1 s) (Us.b2 s) (Us.b3 s) (Us.b4 s) (Us.b5 s) (Us.b6 s) (Us.it s) (Us.ac s)) [19, 28] (by decide) (c_X1_forget l hf (Us.h s, Us.st s) 21 20) rfl rfl (by decide) (by decide) rfl ?_
      have L38 : ∀ (n38 : Nat) (ma : Int32) (le : Int32) (v : Int32) (m1 : Us), (∃ z9 : Nat, z9 < n38 ∧ z9 ≤ 256 ∧ v + nI 1 = nI z9 ∧ Un s m1) → m_X11_knew s u w = l_X11_knew_38 s u w n38 ma le v m1 → J 38 [(0, .ref 0), (1, .int u), (2, .int w), (3, .int ma), (4, .int le), (5, .int v)] [] (hUs m1) := by
        intro n38
        induction n38 with
        | zero =>
          intro ma le v m1 hv
          obtain ⟨z9, h1, h2, h3, h5⟩ := hv
          omega
        | succ n38 ih38 =>
          intro ma le v m1 hv e38
          obtain ⟨z9, h1, h2, h3, h5⟩ := hv
          have hV1 := hV.un h5
          have hs1 := h5.sn hse
          refine hJ 38 _ _ _ ?_
          refine And.intro (fun c3 => ?_) (fun c3 => ?_)
          · skip
            refine hJ 85 _ _ _ ?_
            refine And.intro (fun c4 => ?_) (fun c4 => ?_)
            · skip
              refine hJ 93 _ _ _ ?_
              exact And.intro True.intro (DPis (F := (fun z => hUs z)) (s' := m1) (e38.trans ((q_X11_knew_38 s u w n38 ma le v m1).trans ((if_pos c3).trans (if_neg c4)))))
            · skip
              refine hJ 95 _ _ _ ?_
              exact And.intro True.intro (DPis (F := (fun z => hUs z)) (s' := m1) (e38.trans ((q_X11_knew_38 s u w n38 ma le v m1).trans ((if_pos c3).trans (if_pos c4)))))
          · skip
            obtain ⟨z8, rfl, hv8⟩ := fit_v h3 (by omega) c3
            refine CALL_sub (r := none) (h' := wUs (Us.nw m1) (Us.kp m1) (becR (Sf.c (Us.ah m1)) (Sf.c (Us.nw m1)), Sf.tp (Us.ah m1), Sf.se (Us.ah m1), Sf.pl (Us.ah m1), Sf.bk (Us.ah m1)) (Us.h m1) (Us.k0 m1) (Us.k1 m1) (Us.k2 m1) (Us.k3 m1) (Us.k4 m1) (Us.k5 m1) (Us.k6 m1) (Us.st m1) (Us.l0 m1) (Us.l1 m1) (Us.l2 m1) (Us.l3 m1) (Us.l4 m1) (Us.l5 m1) (Us.b0 m1) (Us.b1 m1) (Us.b2 m1) (Us.b3 m1) (Us.b4 m1) (Us.b5 m1) (Us.b6 m1) (Us.it m1) (Us.ac m1)) [13, 14, 15, 16, 17, 18, 1, 2, 3, 4, 5, 6] (by decide) (c_X7_becomeRow l hf (Sf.c (Us.ah m1), Sf.c (Us.nw m1)) 44 57 59 61 42 45 47 49) rfl rfl (by decide) (by decide) rfl ?_
            refine And.intro (hi) ?_
            obtain ⟨r5, er5⟩ : ∃ z : Int32 × Us, m_X11_seenIsSo (Us.nw m1, Us.kp m1, ((Sc.kd (becR (Sf.c (Us.ah m1)) (Sf.c (Us.nw m1))), Sc.vv (becR (Sf.c (Us.ah m1)) (Sf.c (Us.nw m1))), (upd (Sc.kn (becR (Sf.c (Us.ah m1)) (Sf.c (Us.nw m1)))) u.toNatClampNeg v), Sc.rw (becR (Sf.c (Us.ah m1)) (Sf.c (Us.nw m1))), Sc.le (becR (Sf.c (Us.ah m1)) (Sf.c (Us.nw m1))), Sc.sz (becR (Sf.c (Us.ah m1)) (Sf.c (Us.nw m1))), Sc.ou (becR (Sf.c (Us.ah m1)) (Sf.c (Us.nw m1))), Sc.ti (becR (Sf.c (Us.ah m1)) (Sf.c (Us.nw m1))), Sc.sg (becR (Sf.c (Us.ah m1)) (Sf.c (Us.nw m1))), Sc.lg (becR (Sf.c (Us.ah m1)) (Sf.c (Us.nw m1)))), Sf.tp (Us.ah m1), Sf.se (Us.ah m1), Sf.pl (Us.ah m1), Sf.bk (Us.ah m1)), Us.h m1, Us.k0 m1, Us.k1 m1, Us.k2 m1, Us.k3 m1, Us.k4 m1, Us.k5 m1, Us.k6 m1, Us.st m1, Us.l0 m1, Us.l1 m1, Us.l2 m1, Us.l3 m1, Us.l4 m1, Us.l5 m1, Us.b0 m1, Us.b1 m1, Us.b2 m1, Us.b3 m1, Us.b4 m1, Us.b5 m1, Us.b6 m1, Us.it m1, Us.ac m1) = z := ⟨_, rfl⟩
            have hr5 := c_X11_seenIsSo l hf (Us.nw m1, Us.kp m1, ((Sc.kd (becR (Sf.c (Us.ah m1)) (Sf.c (Us.nw m1))), Sc.vv (becR (Sf.c (Us.ah m1)) (Sf.c (Us.nw m1))), (upd (Sc.kn (becR (Sf.c (Us.ah m1)) (Sf.c (Us.nw m1)))) u.toNatClampNeg v), Sc.rw (becR (Sf.c (Us.ah m1)) (Sf.c (Us.nw m1))), Sc.le (becR (Sf.c (Us.ah m1)) (Sf.c (Us.nw m1))), Sc.sz (becR (Sf.c (Us.ah m1)) (Sf.c (Us.nw m1))), Sc.ou (becR (Sf.c (Us.ah m1)) (Sf.c (Us.nw m1))), Sc.ti (becR (Sf.c (Us.ah m1)) (Sf.c (Us.nw m1))), Sc.sg (becR (Sf.c (Us.ah m1)) (Sf.c (Us.nw m1))), Sc.lg (becR (Sf.c (Us.ah m1)) (Sf.c (Us.nw m1)))), Sf.tp (Us.ah m1), Sf.se (Us.ah m1), Sf.pl (Us.ah m1), Sf.bk (Us.ah m1)), Us.h m1, Us.k0 m1, Us.k1 m1, Us.k2 m1, Us.k3 m1, Us.k4 m1, Us.k5 m1, Us.k6 m1, Us.st m1, Us.l0 m1, Us.l1 m1, Us.l2 m1, Us.l3 m1, Us.l4 m1, Us.l5 m1, Us.b0 m1, Us.b1 m1, Us.b2 m1, Us.b3 m1, Us.b4 m1, Us.b5 m1, Us.b6 m1, Us.it m1, Us.ac m1) (by exact hV1.1) (by exact TPs.ch hV1.2.1 rfl rfl rfl rfl rfl rfl) (by exact hK.cpy hV1.2.2.1) (by exact hV1.2.2.2.1) (by exact hs1)
            rw [er5] at hr5
            have u6 := un_seen er5
            have h6 := h5.tr (by exact u6)
            refine CALL_same (r := some (.int r5.1)) (h1 := hUs r5.2) (by decide) (hr5) ?_
            refine And.intro (fun c6 => ?_) (fun c6 => ?_)
            · skip
              refine hJ 79 _ _ _ ?_
              exact hD _ _ [1, 2, 3, 4, 5, 0] _ _ (ih38 _ _ _ _ ⟨z8, by omega, by omega, by rw [m1p1]; exact hv8, h6⟩ (e38.trans ((q_X11_knew_38 s u w n38 ma le v m1).trans ((if_neg c3).trans ((bindv_eq er5).trans (if_pos c6))))))
            · skip
              exact hD _ _ [3, 4, 5, 2, 1, 0] _ _ (ih38 _ _ _ _ ⟨z8, by omega, by omega, by rw [m1p1]; exact hv8, h6⟩ (e38.trans ((q_X11_knew_38 s u w n38 ma le v m1).trans ((if_neg c3).trans ((bindv_eq er5).trans (if_neg c6))))))
      exact hD _ _ [3, 4, 5, 2, 1, 0] _ _ (L38 257 _ _ _ (Us.nw s, Us.kp s, Us.ah s, Us.h s, Us.k0 s, Us.k1 s, Us.k2 s, Us.k3 s, Us.k4 s, Us.k5 s, Us.k6 s, fgt (Us.h s) (Us.st s), Us.l0 s, Us.l1 s, Us.l2 s, Us.l3 s, Us.l4 s, Us.l5 s, Us.b0 s, Us.b1 s, Us.b2 s, Us.b3 s, Us.b4 s, Us.b5 s, Us.b6 s, Us.it s, Us.ac s) ⟨256, by decide, by decide, by decide, by exact ⟨rfl, rfl, rfl, rfl, rfl, rfl, rfl, rfl, rfl, rfl⟩⟩ ((if_neg c1).trans (if_neg c2)))
    · skip
      exact And.intro True.intro (DPis (F := (fun z => hUs z)) (s' := s) ((if_neg c1).trans (if_pos c2)))
def l_X11_firm_30 (s : Us) (u : Int32) (w : Int32) : Nat → Int32 → Int32 → Int32 → Us → Int32 × Us
  | 0, _, _, _, _ => (0, s)
  | n30 + 1, ma, le, v, m1 => if v < 0 then (if w = 0 then (ma, m1) else (le, m1)) else (bindv (m_X11_seenIsSo (Us.nw m1, Us.kp m1, ((Sc.kd (becR (Sf.c (Us.ah m1)) (Sf.c (Us.nw m1))), (upd (Sc.vv (becR (Sf.c (Us.ah m1)) (Sf.c (Us.nw m1)))) u.toNatClampNeg v), Sc.kn (becR (Sf.c (Us.ah m1)) (Sf.c (Us.nw m1))), Sc.rw (becR (Sf.c (Us.ah m1)) (Sf.c (Us.nw m1))), Sc.le (becR (Sf.c (Us.ah m1)) (Sf.c (Us.nw m1))), Sc.sz (becR (Sf.c (Us.ah m1)) (Sf.c (Us.nw m1))), Sc.ou (becR (Sf.c (Us.ah m1)) (Sf.c (Us.nw m1))), Sc.ti (becR (Sf.c (Us.ah m1)) (Sf.c (Us.nw m1))), Sc.sg (becR (Sf.c (Us.ah m1)) (Sf.c (Us.nw m1))), Sc.lg (becR (Sf.c (Us.ah m1)) (Sf.c (Us.nw m1)))), Sf.tp (Us.ah m1), Sf.se (Us.ah m1), Sf.pl (Us.ah m1), Sf.bk (Us.ah m1)), Us.h m1, Us.k0 m1, Us.k1 m1, Us.k2 m1, Us.k3 m1, Us.k4 m1, Us.k5 m1, Us.k6 m1, fgt (Us.h m1) (Us.st m1), Us.l0 m1, Us.l1 m1, Us.l2 m1, Us.l3 m1, Us.l4 m1, Us.l5 m1, Us.b0 m1, Us.b1 m1, Us.b2 m1, Us.b3 m1, Us.b4 m1, Us.b5 m1, Us.b6 m1, Us.it m1, Us.ac m1)) (fun r5 => if r5.1 = 0 then l_X11_firm_30 s u w n30 ma le (v + (-nI 1)) r5.2 else l_X11_firm_30 s u w n30 (ma + nI 1) v (v + (-nI 1)) r5.2))
theorem q_X11_firm_30 (s : Us) (u : Int32) (w : Int32) (n30 : Nat) (ma : Int32) (le : Int32) (v : Int32) (m1 : Us) : l_X11_firm_30 s u w (n30 + 1) ma le v m1 = (if v < 0 then (if w = 0 then (ma, m1) else (le, m1)) else (bindv (m_X11_seenIsSo (Us.nw m1, Us.kp m1, ((Sc.kd (becR (Sf.c (Us.ah m1)) (Sf.c (Us.nw m1))), (upd (Sc.vv (becR (Sf.c (Us.ah m1)) (Sf.c (Us.nw m1)))) u.toNatClampNeg v), Sc.kn (becR (Sf.c (Us.ah m1)) (Sf.c (Us.nw m1))), Sc.rw (becR (Sf.c (Us.ah m1)) (Sf.c (Us.nw m1))), Sc.le (becR (Sf.c (Us.ah m1)) (Sf.c (Us.nw m1))), Sc.sz (becR (Sf.c (Us.ah m1)) (Sf.c (Us.nw m1))), Sc.ou (becR (Sf.c (Us.ah m1)) (Sf.c (Us.nw m1))), Sc.ti (becR (Sf.c (Us.ah m1)) (Sf.c (Us.nw m1))), Sc.sg (becR (Sf.c (Us.ah m1)) (Sf.c (Us.nw m1))), Sc.lg (becR (Sf.c (Us.ah m1)) (Sf.c (Us.nw m1)))), Sf.tp (Us.ah m1), Sf.se (Us.ah m1), Sf.pl (Us.ah m1), Sf.bk (Us.ah m1)), Us.h m1, Us.k0 m1, Us.k1 m1, Us.k2 m1, Us.k3 m1, Us.k4 m1, Us.k5 m1, Us.k6 m1, fgt (Us.h m1) (Us.st m1), Us.l0 m1, Us.l1 m1, Us.l2 m1, Us.l3 m1, Us.l4 m1, Us.l5 m1, Us.b0 m1, Us.b1 m1, Us.b2 m1, Us.b3 m1, Us.b4 m1, Us.b5 m1, Us.b6 m1, Us.it m1, Us.ac m1)) (fun r5 => if r5.1 = 0 then l_X11_firm_30 s u w n30 ma le (v + (-nI 1)) r5.2 else l_X11_firm_30 s u w n30 (ma + nI 1) v (v + (-nI 1)) r5.2))) := rfl
def m_X11_firm (s : Us) (u : Int32) (w : Int32) : Int32 × Us := if (m_X7_has (Sc.sz (Sf.c (Us.nw s))) u) = 0 then ((-nI 1), s) else (if (m_X11_isPart w) = 0 then ((-nI 1), s) else l_X11_firm_30 s u w 11 (nI 0) (-nI 5) (nI 9) s)
set_option maxRecDepth 100000 in
set_option maxHeartbeats 4000000 in
theorem c_X11_firm (l : Launch) {fv : Value} (hf : FV fv) (s : Us) (u : Int32) (w : Int32) (hV : Vn s) (hse : Sn (Us.nw s)) : CT l fv 7 jX11_firm [.ref 0, .int u, .int w] (hUs s) (DP (some (.int (m_X11_firm s u w).1)) (hUs ((m_X11_firm s u w).2))) := by
  refine CT_of [30] mt_X11_firm (by decide +kernel) (tab_X11 hf) okX11_firm (Nat.le_of_ble_eq_true rfl) ?_
  intro J hJ hD
  refine hJ 0 _ _ _ ?_
  refine CALL_sub (r := some (.int (m_X7_has (Sc.sz (Sf.c (Us.nw s))) u))) (h' := hUs s) [1, 2, 3, 4, 5, 6] (by decide) (c_X7_has l hf (Sf.c (Us.nw s)) 42 45 47 49 u) rfl rfl (by decide) (by decide) rfl ?_
  refine And.intro (fun c1 => ?_) (fun c1 => ?_)
  · skip
    refine hJ 18 _ _ _ ?_
    exact And.intro True.intro (DPis (F := (fun z => hUs z)) (s' := s) (if_pos c1))
  · skip
    have hi := has_of c1
    refine CALL_sub (h' := hUs s) [] (by decide) (c_X11_isPart l hf w) rfl rfl (by decide) (by decide) rfl ?_
    refine And.intro (fun c2 => ?_) (fun c2 => ?_)
    · skip
      refine hJ 20 _ _ _ ?_
      have L30 : ∀ (n30 : Nat) (ma : Int32) (le : Int32) (v : Int32) (m1 : Us), (∃ z9 : Nat, z9 < n30 ∧ z9 ≤ 10 ∧ v + nI 1 = nI z9 ∧ Un s m1) → m_X11_firm s u w = l_X11_firm_30 s u w n30 ma le v m1 → J 30 [(0, .ref 0), (1, .int u), (2, .int w), (3, .int ma), (4, .int le), (5, .int v)] [] (hUs m1) := by
        intro n30
        induction n30 with
        | zero =>
          intro ma le v m1 hv
          obtain ⟨z9, h1, h2, h3, h5⟩ := hv
          omega
        | succ n30 ih30 =>
          intro ma le v m1 hv e30
          obtain ⟨z9, h1, h2, h3, h5⟩ := hv
          have hV1 := hV.un h5
          have hs1 := h5.sn hse
          refine hJ 30 _ _ _ ?_
          refine And.intro (fun c3 => ?_) (fun c3 => ?_)
          · skip
            refine hJ 84 _ _ _ ?_
            refine And.intro (fun c4 => ?_) (fun c4 => ?_)
            · skip
              refine hJ 92 _ _ _ ?_
              exact And.intro True.intro (DPis (F := (fun z => hUs z)) (s' := m1) (e30.trans ((q_X11_firm_30 s u w n30 ma le v m1).trans ((if_pos c3).trans (if_neg c4)))))
            · skip
              refine hJ 94 _ _ _ ?_
              exact And.intro True.intro (DPis (F := (fun z => hUs z)) (s' := m1) (e30.trans ((q_X11_firm_30 s u w n30 ma le v m1).trans ((if_pos c3).trans (if_pos c4)))))
          · skip
            obtain ⟨z8, rfl, hv8⟩ := fit_v h3 (by omega) c3
            refine CALL_sub (r := none) (h' := wUs (Us.nw m1) (Us.kp m1) (Us.ah m1) (Us.h m1) (Us.k0 m1) (Us.k1 m1) (Us.k2 m1) (Us.k3 m1) (Us.k4 m1) (Us.k5 m1) (Us.k6 m1) (fgt (Us.h m1) (Us.st m1)) (Us.l0 m1) (Us.l1 m1) (Us.l2 m1) (Us.l3 m1) (Us.l4 m1) (Us.l5 m1) (Us.b0 m1) (Us.b1 m1) (Us.b2 m1) (Us.b3 m1) (Us.b4 m1) (Us.b5 m1) (Us.b6 m1) (Us.it m1) (Us.ac m1)) [19, 28] (by decide) (c_X1_forget l hf (Us.h m1, Us.st m1) 21 20) rfl rfl (by decide) (by decide) rfl ?_
            refine CALL_sub (r := none) (h' := wUs (Us.nw m1) (Us.kp m1) (becR (Sf.c (Us.ah m1)) (Sf.c (Us.nw m1)), Sf.tp (Us.ah m1), Sf.se (Us.ah m1), Sf.pl (Us.ah m1), Sf.bk (Us.ah m1)) (Us.h m1) (Us.k0 m1) (Us.k1 m1) (Us.k2 m1) (Us.k3 m1) (Us.k4 m1) (Us.k5 m1) (Us.k6 m1) (fgt (Us.h m1) (Us.st m1)) (Us.l0 m1) (Us.l1 m1) (Us.l2 m1) (Us.l3 m1) (Us.l4 m1) (Us.l5 m1) (Us.b0 m1) (Us.b1 m1) (Us.b2 m1) (Us.b3 m1) (Us.b4 m1) (Us.b5 m1) (Us.b6 m1) (Us.it m1) (Us.ac m1)) [13, 14, 15, 16, 17, 18, 1, 2, 3, 4, 5, 6] (by decide) (c_X7_becomeRow l hf (Sf.c (Us.ah m1), Sf.c (Us.nw m1)) 44 57 59 61 42 45 47 49) rfl rfl (by decide) (by decide) rfl ?_
            refine And.intro (hi) ?_
            obtain ⟨r5, er5⟩ : ∃ z : Int32 × Us, m_X11_seenIsSo (Us.nw m1, Us.kp m1, ((Sc.kd (becR (Sf.c (Us.ah m1)) (Sf.c (Us.nw m1))), (upd (Sc.vv (becR (Sf.c (Us.ah m1)) (Sf.c (Us.nw m1)))) u.toNatClampNeg v), Sc.kn (becR (Sf.c (Us.ah m1)) (Sf.c (Us.nw m1))), Sc.rw (becR (Sf.c (Us.ah m1)) (Sf.c (Us.nw m1))), Sc.le (becR (Sf.c (Us.ah m1)) (Sf.c (Us.nw m1))), Sc.sz (becR (Sf.c (Us.ah m1)) (Sf.c (Us.nw m1))), Sc.ou (becR (Sf.c (Us.ah m1)) (Sf.c (Us.nw m1))), Sc.ti (becR (Sf.c (Us.ah m1)) (Sf.c (Us.nw m1))), Sc.sg (becR (Sf.c (Us.ah m1)) (Sf.c (Us.nw m1))), Sc.lg (becR (Sf.c (Us.ah m1)) (Sf.c (Us.nw m1)))), Sf.tp (Us.ah m1), Sf.se (Us.ah m1), Sf.pl (Us.ah m1), Sf.bk (Us.ah m1)), Us.h m1, Us.k0 m1, Us.k1 m1, Us.k2 m1, Us.k3 m1, Us.k4 m1, Us.k5 m1, Us.k6 m1, fgt (Us.h m1) (Us.st m1), Us.l0 m1, Us.l1 m1, Us.l2 m1, Us.l3 m1, Us.l4 m1, Us.l5 m1, Us.b0 m1, Us.b1 m1, Us.b2 m1, Us.b3 m1, Us.b4 m1, Us.b5 m1, Us.b6 m1, Us.it m1, Us.ac m1) = z := ⟨_, rfl⟩
            have hr5 := c_X11_seenIsSo l hf (Us.nw m1, Us.kp m1, ((Sc.kd (becR (Sf.c (Us.ah m1)) (Sf.c (Us.nw m1))), (upd (Sc.vv (becR (Sf.c (Us.ah m1)) (Sf.c (Us.nw m1)))) u.toNatClampNeg v), Sc.kn (becR (Sf.c (Us.ah m1)) (Sf.c (Us.nw m1))), Sc.rw (becR (Sf.c (Us.ah m1)) (Sf.c (Us.nw m1))), Sc.le (becR (Sf.c (Us.ah m1)) (Sf.c (Us.nw m1))), Sc.sz (becR (Sf.c (Us.ah m1)) (Sf.c (Us.nw m1))), Sc.ou (becR (Sf.c (Us.ah m1)) (Sf.c (Us.nw m1))), Sc.ti (becR (Sf.c (Us.ah m1)) (Sf.c (Us.nw m1))), Sc.sg (becR (Sf.c (Us.ah m1)) (Sf.c (Us.nw m1))), Sc.lg (becR (Sf.c (Us.ah m1)) (Sf.c (Us.nw m1)))), Sf.tp (Us.ah m1), Sf.se (Us.ah m1), Sf.pl (Us.ah m1), Sf.bk (Us.ah m1)), Us.h m1, Us.k0 m1, Us.k1 m1, Us.k2 m1, Us.k3 m1, Us.k4 m1, Us.k5 m1, Us.k6 m1, fgt (Us.h m1) (Us.st m1), Us.l0 m1, Us.l1 m1, Us.l2 m1, Us.l3 m1, Us.l4 m1, Us.l5 m1, Us.b0 m1, Us.b1 m1, Us.b2 m1, Us.b3 m1, Us.b4 m1, Us.b5 m1, Us.b6 m1, Us.it m1, Us.ac m1) (by exact hV1.1) (by exact TPs.ch hV1.2.1 rfl rfl rfl rfl rfl rfl) (by exact hK.cpy hV1.2.2.1) (by exact hV1.2.2.2.1) (by exact hs1)
            rw [er5] at hr5
            have u6 := un_seen er5
            have h6 := h5.tr (by exact u6)
            refine CALL_same (r := some (.int r5.1)) (h1 := hUs r5.2) (by decide) (hr5) ?_
            refine And.intro (fun c6 => ?_) (fun c6 => ?_)
            · skip
              refine hJ 78 _ _ _ ?_
              exact hD _ _ [1, 2, 3, 4, 5, 0] _ _ (ih30 _ _ _ _ ⟨z8, by omega, by omega, by rw [m1p1]; exact hv8, h6⟩ (e30.trans ((q_X11_firm_30 s u w n30 ma le v m1).trans ((if_neg c3).trans ((bindv_eq er5).trans (if_pos c6))))))
            · skip
              exact hD _ _ [3, 4, 5, 2, 1, 0] _ _ (ih30 _ _ _ _ ⟨z8, by omega, by omega, by rw [m1p1]; exact hv8, h6⟩ (e30.trans ((q_X11_firm_30 s u w n30 ma le v m1).trans ((if_neg c3).trans ((bindv_eq er5).trans (if_neg c6))))))
      exact hD _ _ [3, 4, 5, 2, 1, 0] _ _ (L30 11 _ _ _ _ ⟨10, by decide, by decide, by decide, by exact ⟨rfl, rfl, rfl, rfl, rfl, rfl, rfl, rfl, rfl, rfl⟩⟩ ((if_neg c1).trans (if_neg c2)))
    · skip
      exact And.intro True.intro (DPis (F := (fun z => hUs z)) (s' := s) ((if_neg c1).trans (if_pos c2)))
theorem un_go_l (s : Us) (n : Int32) (L : Lg) : ∀ (x : Nat) (i : Int32) (m1 : Us), Un s m1 → Un s (l_X11_go_p13_8 s n L x i m1) := by
  intro x
  induction x with
  | zero => intro n m1 h; exact Un.rf s
  | succ x ih =>
    intro i m1 h
    rw [q_X11_go_p13_8]
    split
    · exact h
    · rw [bindv]
      exact ih _ _ h
theorem un_go {s r : Us} {n : Int32} (e : m_X11_go_p13 s n = r) : Un s r := by
  rw [← e]
  unfold m_X11_go_p13
  rw [bindv]
  exact un_go_l s n _ _ _ _ (Un.rf s)
theorem fa_any {x : Int32} (h : ¬ m_X11_areTides x = 0) : ∃ N, N ≤ 60 ∧ x = nI N := at_of h
def l_X11_odds_39 (s : Us) (f : Int32) (n : Int32) (pa : Int32) : Nat → Int32 → Int32 → Us → Int64 × Us
  | 0, _, _, _ => (0, s)
  | n39 + 1, wi, i, m1 => if Sc.sz (Sf.c (Us.nw m1)) ≤ i then ((m_X11_lowest wi (m_X7_notOut (Sc.sz (Sf.c (Us.nw m1))) (Sc.ou (Sf.c (Us.nw m1)))) pa), m1) else (if nI 6 ≤ i then ((m_X11_lowest wi (m_X7_notOut (Sc.sz (Sf.c (Us.nw m1))) (Sc.ou (Sf.c (Us.nw m1)))) pa), m1) else (if (m_X7_isOut (Sc.ou (Sf.c (Us.nw m1))) i) = 0 then (bindv (m_X11_go_p13 (Us.nw m1, Us.kp m1, ((Sc.kd (becR (Sf.c (Us.ah m1)) (Sf.c (Us.nw m1))), Sc.vv (becR (Sf.c (Us.ah m1)) (Sf.c (Us.nw m1))), (upd (Sc.kn (becR (Sf.c (Us.ah m1)) (Sf.c (Us.nw m1)))) i.toNatClampNeg (nI 0)), Sc.rw (becR (Sf.c (Us.ah m1)) (Sf.c (Us.nw m1))), Sc.le (becR (Sf.c (Us.ah m1)) (Sf.c (Us.nw m1))), Sc.sz (becR (Sf.c (Us.ah m1)) (Sf.c (Us.nw m1))), Sc.ou (becR (Sf.c (Us.ah m1)) (Sf.c (Us.nw m1))), Sc.ti (becR (Sf.c (Us.ah m1)) (Sf.c (Us.nw m1))), Sc.sg (becR (Sf.c (Us.ah m1)) (Sf.c (Us.nw m1))), Sc.lg (becR (Sf.c (Us.ah m1)) (Sf.c (Us.nw m1)))), Sf.tp (Us.ah m1), Sf.se (Us.ah m1), Sf.pl (Us.ah m1), Sf.bk (Us.ah m1)), Us.h m1, Us.k0 m1, Us.k1 m1, Us.k2 m1, Us.k3 m1, Us.k4 m1, Us.k5 m1, Us.k6 m1, Us.st m1, Us.l0 m1, Us.l1 m1, Us.l2 m1, Us.l3 m1, Us.l4 m1, Us.l5 m1, Us.b0 m1, Us.b1 m1, Us.b2 m1, Us.b3 m1, Us.b4 m1, Us.b5 m1, Us.b6 m1, Us.it m1, Us.ac m1) n) (fun r7 => l_X11_odds_39 s f n pa n39 (wi + (((m_X7_all (Sc.kn (Sf.c (Us.ah r7))) (Sc.sz (Sf.c (Us.ah r7))) (Sc.ou (Sf.c (Us.ah r7)))) >>> (f &&& 31)) &&& nI 1)) (i + nI 1) r7)) else l_X11_odds_39 s f n pa n39 wi (i + nI 1) m1))
theorem q_X11_odds_39 (s : Us) (f : Int32) (n : Int32) (pa : Int32) (n39 : Nat) (wi : Int32) (i : Int32) (m1 : Us) : l_X11_odds_39 s f n pa (n39 + 1) wi i m1 = (if Sc.sz (Sf.c (Us.nw m1)) ≤ i then ((m_X11_lowest wi (m_X7_notOut (Sc.sz (Sf.c (Us.nw m1))) (Sc.ou (Sf.c (Us.nw m1)))) pa), m1) else (if nI 6 ≤ i then ((m_X11_lowest wi (m_X7_notOut (Sc.sz (Sf.c (Us.nw m1))) (Sc.ou (Sf.c (Us.nw m1)))) pa), m1) else (if (m_X7_isOut (Sc.ou (Sf.c (Us.nw m1))) i) = 0 then (bindv (m_X11_go_p13 (Us.nw m1, Us.kp m1, ((Sc.kd (becR (Sf.c (Us.ah m1)) (Sf.c (Us.nw m1))), Sc.vv (becR (Sf.c (Us.ah m1)) (Sf.c (Us.nw m1))), (upd (Sc.kn (becR (Sf.c (Us.ah m1)) (Sf.c (Us.nw m1)))) i.toNatClampNeg (nI 0)), Sc.rw (becR (Sf.c (Us.ah m1)) (Sf.c (Us.nw m1))), Sc.le (becR (Sf.c (Us.ah m1)) (Sf.c (Us.nw m1))), Sc.sz (becR (Sf.c (Us.ah m1)) (Sf.c (Us.nw m1))), Sc.ou (becR (Sf.c (Us.ah m1)) (Sf.c (Us.nw m1))), Sc.ti (becR (Sf.c (Us.ah m1)) (Sf.c (Us.nw m1))), Sc.sg (becR (Sf.c (Us.ah m1)) (Sf.c (Us.nw m1))), Sc.lg (becR (Sf.c (Us.ah m1)) (Sf.c (Us.nw m1)))), Sf.tp (Us.ah m1), Sf.se (Us.ah m1), Sf.pl (Us.ah m1), Sf.bk (Us.ah m1)), Us.h m1, Us.k0 m1, Us.k1 m1, Us.k2 m1, Us.k3 m1, Us.k4 m1, Us.k5 m1, Us.k6 m1, Us.st m1, Us.l0 m1, Us.l1 m1, Us.l2 m1, Us.l3 m1, Us.l4 m1, Us.l5 m1, Us.b0 m1, Us.b1 m1, Us.b2 m1, Us.b3 m1, Us.b4 m1, Us.b5 m1, Us.b6 m1, Us.it m1, Us.ac m1) n) (fun r7 => l_X11_odds_39 s f n pa n39 (wi + (((m_X7_all (Sc.kn (Sf.c (Us.ah r7))) (Sc.sz (Sf.c (Us.ah r7))) (Sc.ou (Sf.c (Us.ah r7)))) >>> (f &&& 31)) &&& nI 1)) (i + nI 1) r7)) else l_X11_odds_39 s f n pa n39 wi (i + nI 1) m1))) := rfl
def m_X11_odds (s : Us) (f : Int32) (n : Int32) (pa : Int32) : Int64 × Us := if (m_X11_isFact f.toInt64) = 0 then ((-9223372036854775808), s) else (if (m_X11_areTides n) = 0 then ((-9223372036854775808), s) else (if (m_X11_isPart pa) = 0 then ((-9223372036854775808), s) else l_X11_odds_39 s f n pa 7 (nI 0) (nI 0) (Us.nw s, Us.kp s, Us.ah s, Us.h s, Us.k0 s, Us.k1 s, Us.k2 s, Us.k3 s, Us.k4 s, Us.k5 s, Us.k6 s, fgt (Us.h s) (Us.st s), Us.l0 s, Us.l1 s, Us.l2 s, Us.l3 s, Us.l4 s, Us.l5 s, Us.b0 s, Us.b1 s, Us.b2 s, Us.b3 s, Us.b4 s, Us.b5 s, Us.b6 s, Us.it s, Us.ac s)))
set_option maxRecDepth 100000 in
set_option maxHeartbeats 4000000 in
theorem c_X11_odds (l : Launch) {fv : Value} (hf : FV fv) (s : Us) (f : Int32) (n : Int32) (pa : Int32) (hV : Vn s) : CT l fv 7 jX11_odds [.ref 0, .int f, .int n, .int pa] (hUs s) (DP (some (.long (m_X11_odds s f n pa).1)) (hUs ((m_X11_odds s f n pa).2))) := by
  refine CT_of [39] mt_X11_odds (by decide +kernel) (tab_X11 hf) okX11_odds (Nat.le_of_ble_eq_true rfl) ?_
  intro J hJ hD
  refine hJ 0 _ _ _ ?_
  refine CALL_sub (h' := hUs s) [] (by decide) (c_X11_isFact l hf f.toInt64) rfl rfl (by decide) (by decide) rfl ?_
  refine And.intro (fun c1 => ?_) (fun c1 => ?_)
  · skip
    refine hJ 22 _ _ _ ?_
    exact And.intro rfl (DPls (F := (fun z => hUs z)) (s' := s) (if_pos c1))
  · skip
    refine CALL_sub (h' := hUs s) [] (by decide) (c_X11_areTides l hf n) rfl rfl (by decide) (by decide) rfl ?_
    refine And.intro (fun c2 => ?_) (fun c2 => ?_)
    · skip
      refine hJ 22 _ _ _ ?_
      exact And.intro rfl (DPls (F := (fun z => hUs z)) (s' := s) ((if_neg c1).trans (if_pos c2)))
    · skip
      obtain ⟨N, hN, hn⟩ := at_of c2
      refine CALL_sub (h' := hUs s) [] (by decide) (c_X11_isPart l hf pa) rfl rfl (by decide) (by decide) rfl ?_
      refine And.intro (fun c3 => ?_) (fun c3 => ?_)
      · skip
        refine hJ 26 _ _ _ ?_
        refine CALL_sub (r := none) (h' := wUs (Us.nw s) (Us.kp s) (Us.ah s) (Us.h s) (Us.k0 s) (Us.k1 s) (Us.k2 s) (Us.k3 s) (Us.k4 s) (Us.k5 s) (Us.k6 s) (fgt (Us.h s) (Us.st s)) (Us.l0 s) (Us.l1 s) (Us.l2 s) (Us.l3 s) (Us.l4 s) (Us.l5 s) (Us.b0 s) (Us.b1 s) (Us.b2 s) (Us.b3 s) (Us.b4 s) (Us.b5 s) (Us.b6 s) (Us.it s) (Us.ac s)) [19, 28] (by decide) (c_X1_forget l hf (Us.h s, Us.st s) 21 20) rfl rfl (by decide) (by decide) rfl ?_
        have L39 : ∀ (n39 : Nat) (wi : Int32) (i : Int32) (m1 : Us), (∃ z9 : Nat, z9 ≤ 6 ∧ n39 + z9 = 7 ∧ i = nI z9 ∧ Un s m1) → m_X11_odds s f n pa = l_X11_odds_39 s f n pa n39 wi i m1 → J 39 [(0, .ref 0), (1, .int f), (2, .int n), (3, .int pa), (4, .int wi), (5, .int i)] [] (hUs m1) := by
          intro n39
          induction n39 with
          | zero =>
            intro wi i m1 hv
            obtain ⟨z9, h1, h2, h3, h5⟩ := hv
            omega
          | succ n39 ih39 =>
            intro wi i m1 hv e39
            obtain ⟨z9, h1, h2, h3, h5⟩ := hv
            have hV1 := hV.un h5
            refine hJ 39 _ _ _ ?_
            refine And.intro (fun c4 => ?_) (fun c4 => ?_)
            · skip
              refine hJ 123 _ _ _ ?_
              refine CALL_sub (r := some (.int (m_X7_notOut (Sc.sz (Sf.c (Us.nw m1))) (Sc.ou (Sf.c (Us.nw m1)))))) (h' := hUs m1) [1, 2, 3, 4, 5, 6] (by decide) (c_X7_notOut l hf (Sf.c (Us.nw m1)) 42 45 47 49) rfl rfl (by decide) (by decide) rfl ?_
              refine CALL_sub (h' := hUs m1) [] (by decide) (c_X11_lowest l hf wi (m_X7_notOut (Sc.sz (Sf.c (Us.nw m1))) (Sc.ou (Sf.c (Us.nw m1)))) pa) rfl rfl (by decide) (by decide) rfl ?_
              exact And.intro rfl (DPls (F := (fun z => hUs z)) (s' := m1) (e39.trans ((q_X11_odds_39 s f n pa n39 wi i m1).trans (if_pos c4))))
            · skip
              refine And.intro (fun c5 => ?_) (fun c5 => ?_)
              · skip
                refine hJ 123 _ _ _ ?_
                refine CALL_sub (r := some (.int (m_X7_notOut (Sc.sz (Sf.c (Us.nw m1))) (Sc.ou (Sf.c (Us.nw m1)))))) (h' := hUs m1) [1, 2, 3, 4, 5, 6] (by decide) (c_X7_notOut l hf (Sf.c (Us.nw m1)) 42 45 47 49) rfl rfl (by decide) (by decide) rfl ?_
                refine CALL_sub (h' := hUs m1) [] (by decide) (c_X11_lowest l hf wi (m_X7_notOut (Sc.sz (Sf.c (Us.nw m1))) (Sc.ou (Sf.c (Us.nw m1)))) pa) rfl rfl (by decide) (by decide) rfl ?_
                exact And.intro rfl (DPls (F := (fun z => hUs z)) (s' := m1) (e39.trans ((q_X11_odds_39 s f n pa n39 wi i m1).trans ((if_neg c4).trans (if_pos c5)))))
              · skip
                have h4 : z9 < 6 := cnt_lt h3 h1 (by decide) c5
                refine CALL_sub (r := some (.int (m_X7_isOut (Sc.ou (Sf.c (Us.nw m1))) i))) (h' := hUs m1) [1, 2, 3, 4, 5, 6] (by decide) (c_X7_isOut l hf (Sf.c (Us.nw m1)) 42 45 47 49 i) rfl rfl (by decide) (by decide) rfl ?_
                refine And.intro (fun c6 => ?_) (fun c6 => ?_)
                · skip
                  refine hJ 117 _ _ _ ?_
                  exact hD _ _ [1, 2, 3, 4, 5, 0] _ _ (ih39 _ _ _ ⟨z9 + 1, by omega, by omega, by rw [h3]; exact nI_add z9 1, by first | exact h6 | exact h5⟩ (e39.trans ((q_X11_odds_39 s f n pa n39 wi i m1).trans ((if_neg c4).trans ((if_neg c5).trans (if_neg c6))))))
                · skip
                  refine CALL_sub (r := none) (h' := wUs (Us.nw m1) (Us.kp m1) (becR (Sf.c (Us.ah m1)) (Sf.c (Us.nw m1)), Sf.tp (Us.ah m1), Sf.se (Us.ah m1), Sf.pl (Us.ah m1), Sf.bk (Us.ah m1)) (Us.h m1) (Us.k0 m1) (Us.k1 m1) (Us.k2 m1) (Us.k3 m1) (Us.k4 m1) (Us.k5 m1) (Us.k6 m1) (Us.st m1) (Us.l0 m1) (Us.l1 m1) (Us.l2 m1) (Us.l3 m1) (Us.l4 m1) (Us.l5 m1) (Us.b0 m1) (Us.b1 m1) (Us.b2 m1) (Us.b3 m1) (Us.b4 m1) (Us.b5 m1) (Us.b6 m1) (Us.it m1) (Us.ac m1)) [13, 14, 15, 16, 17, 18, 1, 2, 3, 4, 5, 6] (by decide) (c_X7_becomeRow l hf (Sf.c (Us.ah m1), Sf.c (Us.nw m1)) 44 57 59 61 42 45 47 49) rfl rfl (by decide) (by decide) rfl ?_
                  refine And.intro (vp_nI h3 h4 (by decide)) ?_
                  obtain ⟨r7, er7⟩ : ∃ z : Us, m_X11_go_p13 (Us.nw m1, Us.kp m1, ((Sc.kd (becR (Sf.c (Us.ah m1)) (Sf.c (Us.nw m1))), Sc.vv (becR (Sf.c (Us.ah m1)) (Sf.c (Us.nw m1))), (upd (Sc.kn (becR (Sf.c (Us.ah m1)) (Sf.c (Us.nw m1)))) i.toNatClampNeg (nI 0)), Sc.rw (becR (Sf.c (Us.ah m1)) (Sf.c (Us.nw m1))), Sc.le (becR (Sf.c (Us.ah m1)) (Sf.c (Us.nw m1))), Sc.sz (becR (Sf.c (Us.ah m1)) (Sf.c (Us.nw m1))), Sc.ou (becR (Sf.c (Us.ah m1)) (Sf.c (Us.nw m1))), Sc.ti (becR (Sf.c (Us.ah m1)) (Sf.c (Us.nw m1))), Sc.sg (becR (Sf.c (Us.ah m1)) (Sf.c (Us.nw m1))), Sc.lg (becR (Sf.c (Us.ah m1)) (Sf.c (Us.nw m1)))), Sf.tp (Us.ah m1), Sf.se (Us.ah m1), Sf.pl (Us.ah m1), Sf.bk (Us.ah m1)), Us.h m1, Us.k0 m1, Us.k1 m1, Us.k2 m1, Us.k3 m1, Us.k4 m1, Us.k5 m1, Us.k6 m1, Us.st m1, Us.l0 m1, Us.l1 m1, Us.l2 m1, Us.l3 m1, Us.l4 m1, Us.l5 m1, Us.b0 m1, Us.b1 m1, Us.b2 m1, Us.b3 m1, Us.b4 m1, Us.b5 m1, Us.b6 m1, Us.it m1, Us.ac m1) n = z := ⟨_, rfl⟩
                  have hr7 := c_X11_go_p13 l hf (Us.nw m1, Us.kp m1, ((Sc.kd (becR (Sf.c (Us.ah m1)) (Sf.c (Us.nw m1))), Sc.vv (becR (Sf.c (Us.ah m1)) (Sf.c (Us.nw m1))), (upd (Sc.kn (becR (Sf.c (Us.ah m1)) (Sf.c (Us.nw m1)))) i.toNatClampNeg (nI 0)), Sc.rw (becR (Sf.c (Us.ah m1)) (Sf.c (Us.nw m1))), Sc.le (becR (Sf.c (Us.ah m1)) (Sf.c (Us.nw m1))), Sc.sz (becR (Sf.c (Us.ah m1)) (Sf.c (Us.nw m1))), Sc.ou (becR (Sf.c (Us.ah m1)) (Sf.c (Us.nw m1))), Sc.ti (becR (Sf.c (Us.ah m1)) (Sf.c (Us.nw m1))), Sc.sg (becR (Sf.c (Us.ah m1)) (Sf.c (Us.nw m1))), Sc.lg (becR (Sf.c (Us.ah m1)) (Sf.c (Us.nw m1)))), Sf.tp (Us.ah m1), Sf.se (Us.ah m1), Sf.pl (Us.ah m1), Sf.bk (Us.ah m1)), Us.h m1, Us.k0 m1, Us.k1 m1, Us.k2 m1, Us.k3 m1, Us.k4 m1, Us.k5 m1, Us.k6 m1, Us.st m1, Us.l0 m1, Us.l1 m1, Us.l2 m1, Us.l3 m1, Us.l4 m1, Us.l5 m1, Us.b0 m1, Us.b1 m1, Us.b2 m1, Us.b3 m1, Us.b4 m1, Us.b5 m1, Us.b6 m1, Us.it m1, Us.ac m1) n (B := 9999) hn (by omega) (by omega) (by exact hV1.1) (by exact TPs.ch hV1.2.1 rfl rfl rfl rfl rfl rfl) (by exact hK.cpy hV1.2.2.1) (by exact hV1.2.2.2.1)
                  rw [er7] at hr7
                  have u6 := un_go er7
                  have h6 := h5.tr (by exact u6)
                  refine CALL_same (r := none) (h1 := hUs r7) (by decide) (hr7) ?_
                  refine CALL_sub (r := some (.int (m_X7_all (Sc.kn (Sf.c (Us.ah r7))) (Sc.sz (Sf.c (Us.ah r7))) (Sc.ou (Sf.c (Us.ah r7)))))) (h' := hUs r7) [13, 14, 15, 16, 17, 18] (by decide) (c_X7_all l hf (Sf.c (Us.ah r7)) 44 57 59 61) rfl rfl (by decide) (by decide) rfl ?_
                  exact hD _ _ [2, 3, 4, 5, 1, 0] _ _ (ih39 _ _ _ ⟨z9 + 1, by omega, by omega, by rw [h3]; exact nI_add z9 1, by first | exact h6 | exact h5⟩ (e39.trans ((q_X11_odds_39 s f n pa n39 wi i m1).trans ((if_neg c4).trans ((if_neg c5).trans ((if_pos c6).trans (bindv_eq er7)))))))
        exact hD _ _ [2, 3, 4, 5, 1, 0] _ _ (L39 7 _ _ (Us.nw s, Us.kp s, Us.ah s, Us.h s, Us.k0 s, Us.k1 s, Us.k2 s, Us.k3 s, Us.k4 s, Us.k5 s, Us.k6 s, fgt (Us.h s) (Us.st s), Us.l0 s, Us.l1 s, Us.l2 s, Us.l3 s, Us.l4 s, Us.l5 s, Us.b0 s, Us.b1 s, Us.b2 s, Us.b3 s, Us.b4 s, Us.b5 s, Us.b6 s, Us.it s, Us.ac s) ⟨0, by omega, by omega, rfl, by exact ⟨rfl, rfl, rfl, rfl, rfl, rfl, rfl, rfl, rfl, rfl⟩⟩ ((if_neg c1).trans ((if_neg c2).trans (if_neg c3))))
      · skip
        exact And.intro rfl (DPls (F := (fun z => hUs z)) (s' := s) ((if_neg c1).trans ((if_neg c2).trans (if_pos c3))))

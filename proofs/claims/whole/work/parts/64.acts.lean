/-! printed by wip/whole/gen/specs64.py: ledges, acts, the trace of the class -/
theorem or5 {x : Int32} (h : vp_in x 5) : x = nI 0 ∨ x = nI 1 ∨ x = nI 2 ∨ x = nI 3 ∨ x = nI 4 := by
  obtain ⟨k, hk, rfl⟩ := vp_in_of h (by decide)
  have : k = 0 ∨ k = 1 ∨ k = 2 ∨ k = 3 ∨ k = 4 := by omega
  rcases this with rfl | rfl | rfl | rfl | rfl
  · exact Or.inl rfl
  · exact Or.inr (Or.inl rfl)
  · exact Or.inr (Or.inr (Or.inl rfl))
  · exact Or.inr (Or.inr (Or.inr (Or.inl rfl)))
  · exact Or.inr (Or.inr (Or.inr (Or.inr rfl)))
theorem ef_read_l (s : Ld) (x : Int32) (r1 : Lr) : ∀ (n k : Nat) (i : Int32) (st : Fn) (a b c d e f g h : Int32) (ta : Fn), k ≤ 11 → n + k = 12 → i = nI k → Lg.tp (Ld.l (l_X4_read_37 s x r1 n i st a b c d e f g h ta).2) = .ref 2 := by
  intro n
  induction n with
  | zero => intro k i st a b c d e f g h ta h1 h2; omega
  | succ n ih =>
    intro k i st a b c d e f g h ta h1 h2 h3
    rw [q_X4_read_37]
    by_cases c1 : nI 10 < i
    · rw [if_pos c1]; rfl
    · rw [if_neg c1]
      have h4 : k ≤ 10 := cnt_le h3 (by omega) (by decide) c1
      simp only [bindv]
      split
      · rfl
      · split
        · rfl
        · split
          · rfl
          · split
            · rfl
            · exact ih (k + 1) _ _ _ _ _ _ _ _ _ _ _ (by omega) (by omega) (by rw [h3]; exact nI_add k 1)
theorem ef_read {s : Ld} {x : Int32} {r : Int32 × Ld} (e : m_X4_read s x = r) : Lg.tp (Ld.l r.2) = .ref 2 := by
  rw [← e]
  unfold m_X4_read
  rw [bindv]
  exact ef_read_l s x _ 11 1 _ _ _ _ _ _ _ _ _ _ _ (by decide) rfl rfl
def m_X11_ledge (s : Us) : Int32 × Us := if Sc.lg (Sf.c (Us.nw s)) < 0 then ((-nI 4), s) else (if Sc.lg (Sf.c (Us.nw s)) < nI 5 then (if Sc.lg (Sf.c (Us.nw s)) = nI 0 then (bindv (m_X4_read (Us.l1 s, Sf.tp (Us.nw s)) (Sc.sg (Sf.c (Us.nw s)))) (fun r8 => if r8.1 < 0 then (((Sc.lg (Sf.c (Us.nw s)) + nI 1) - nI 1), (((Sc.kd (Sf.c (Us.nw s)), Sc.vv (Sf.c (Us.nw s)), Sc.kn (Sf.c (Us.nw s)), Sc.rw (Sf.c (Us.nw s)), Sc.le (Sf.c (Us.nw s)), Sc.sz (Sf.c (Us.nw s)), Sc.ou (Sf.c (Us.nw s)), Sc.ti (Sf.c (Us.nw s)), nI 0, (Sc.lg (Sf.c (Us.nw s)) + nI 1)), Ld.ta r8.2, Sf.se (Us.nw s), Sf.pl (Us.nw s), Sf.bk (Us.nw s)), Us.kp s, Us.ah s, Us.h s, Us.k0 s, Us.k1 s, Us.k2 s, Us.k3 s, Us.k4 s, Us.k5 s, Us.k6 s, Us.st s, Us.l0 s, (Lg.st (Ld.l r8.2), Lg.sz (Ld.l r8.2), Lg.ke (Ld.l r8.2), Lg.pa (Ld.l r8.2), (Value.ref 42), Lg.sg (Ld.l r8.2), Lg.at (Ld.l r8.2), Lg.si (Ld.l r8.2), Lg.te (Ld.l r8.2), Lg.nu (Ld.l r8.2)), Us.l2 s, Us.l3 s, Us.l4 s, Us.l5 s, Us.b0 s, Us.b1 s, Us.b2 s, Us.b3 s, Us.b4 s, Us.b5 s, Us.b6 s, Us.it s, Us.ac s)) else (((-nI 10) - r8.1), (((Sc.kd (Sf.c (Us.nw s)), Sc.vv (Sf.c (Us.nw s)), Sc.kn (Sf.c (Us.nw s)), Sc.rw (Sf.c (Us.nw s)), Sc.le (Sf.c (Us.nw s)), Sc.sz (Sf.c (Us.nw s)), Sc.ou (Sf.c (Us.nw s)), Sc.ti (Sf.c (Us.nw s)), nI 0, Sc.lg (Sf.c (Us.nw s))), Ld.ta r8.2, Sf.se (Us.nw s), Sf.pl (Us.nw s), Sf.bk (Us.nw s)), Us.kp s, Us.ah s, Us.h s, Us.k0 s, Us.k1 s, Us.k2 s, Us.k3 s, Us.k4 s, Us.k5 s, Us.k6 s, Us.st s, Us.l0 s, (Lg.st (Ld.l r8.2), Lg.sz (Ld.l r8.2), Lg.ke (Ld.l r8.2), Lg.pa (Ld.l r8.2), (Value.ref 42), Lg.sg (Ld.l r8.2), Lg.at (Ld.l r8.2), Lg.si (Ld.l r8.2), Lg.te (Ld.l r8.2), Lg.nu (Ld.l r8.2)), Us.l2 s, Us.l3 s, Us.l4 s, Us.l5 s, Us.b0 s, Us.b1 s, Us.b2 s, Us.b3 s, Us.b4 s, Us.b5 s, Us.b6 s, Us.it s, Us.ac s)))) else (if Sc.lg (Sf.c (Us.nw s)) = nI 1 then (bindv (m_X4_read (Us.l2 s, Sf.tp (Us.nw s)) (Sc.sg (Sf.c (Us.nw s)))) (fun r10 => if r10.1 < 0 then (((Sc.lg (Sf.c (Us.nw s)) + nI 1) - nI 1), (((Sc.kd (Sf.c (Us.nw s)), Sc.vv (Sf.c (Us.nw s)), Sc.kn (Sf.c (Us.nw s)), Sc.rw (Sf.c (Us.nw s)), Sc.le (Sf.c (Us.nw s)), Sc.sz (Sf.c (Us.nw s)), Sc.ou (Sf.c (Us.nw s)), Sc.ti (Sf.c (Us.nw s)), nI 0, (Sc.lg (Sf.c (Us.nw s)) + nI 1)), Ld.ta r10.2, Sf.se (Us.nw s), Sf.pl (Us.nw s), Sf.bk (Us.nw s)), Us.kp s, Us.ah s, Us.h s, Us.k0 s, Us.k1 s, Us.k2 s, Us.k3 s, Us.k4 s, Us.k5 s, Us.k6 s, Us.st s, Us.l0 s, Us.l1 s, (Lg.st (Ld.l r10.2), Lg.sz (Ld.l r10.2), Lg.ke (Ld.l r10.2), Lg.pa (Ld.l r10.2), (Value.ref 42), Lg.sg (Ld.l r10.2), Lg.at (Ld.l r10.2), Lg.si (Ld.l r10.2), Lg.te (Ld.l r10.2), Lg.nu (Ld.l r10.2)), Us.l3 s, Us.l4 s, Us.l5 s, Us.b0 s, Us.b1 s, Us.b2 s, Us.b3 s, Us.b4 s, Us.b5 s, Us.b6 s, Us.it s, Us.ac s)) else (((-nI 10) - r10.1), (((Sc.kd (Sf.c (Us.nw s)), Sc.vv (Sf.c (Us.nw s)), Sc.kn (Sf.c (Us.nw s)), Sc.rw (Sf.c (Us.nw s)), Sc.le (Sf.c (Us.nw s)), Sc.sz (Sf.c (Us.nw s)), Sc.ou (Sf.c (Us.nw s)), Sc.ti (Sf.c (Us.nw s)), nI 0, Sc.lg (Sf.c (Us.nw s))), Ld.ta r10.2, Sf.se (Us.nw s), Sf.pl (Us.nw s), Sf.bk (Us.nw s)), Us.kp s, Us.ah s, Us.h s, Us.k0 s, Us.k1 s, Us.k2 s, Us.k3 s, Us.k4 s, Us.k5 s, Us.k6 s, Us.st s, Us.l0 s, Us.l1 s, (Lg.st (Ld.l r10.2), Lg.sz (Ld.l r10.2), Lg.ke (Ld.l r10.2), Lg.pa (Ld.l r10.2), (Value.ref 42), Lg.sg (Ld.l r10.2), Lg.at (Ld.l r10.2), Lg.si (Ld.l r10.2), Lg.te (Ld.l r10.2), Lg.nu (Ld.l r10.2)), Us.l3 s, Us.l4 s, Us.l5 s, Us.b0 s, Us.b1 s, Us.b2 s, Us.b3 s, Us.b4 s, Us.b5 s, Us.b6 s, Us.it s, Us.ac s)))) else (if Sc.lg (Sf.c (Us.nw s)) = nI 2 then (bindv (m_X4_read (Us.l3 s, Sf.tp (Us.nw s)) (Sc.sg (Sf.c (Us.nw s)))) (fun r12 => if r12.1 < 0 then (((Sc.lg (Sf.c (Us.nw s)) + nI 1) - nI 1), (((Sc.kd (Sf.c (Us.nw s)), Sc.vv (Sf.c (Us.nw s)), Sc.kn (Sf.c (Us.nw s)), Sc.rw (Sf.c (Us.nw s)), Sc.le (Sf.c (Us.nw s)), Sc.sz (Sf.c (Us.nw s)), Sc.ou (Sf.c (Us.nw s)), Sc.ti (Sf.c (Us.nw s)), nI 0, (Sc.lg (Sf.c (Us.nw s)) + nI 1)), Ld.ta r12.2, Sf.se (Us.nw s), Sf.pl (Us.nw s), Sf.bk (Us.nw s)), Us.kp s, Us.ah s, Us.h s, Us.k0 s, Us.k1 s, Us.k2 s, Us.k3 s, Us.k4 s, Us.k5 s, Us.k6 s, Us.st s, Us.l0 s, Us.l1 s, Us.l2 s, (Lg.st (Ld.l r12.2), Lg.sz (Ld.l r12.2), Lg.ke (Ld.l r12.2), Lg.pa (Ld.l r12.2), (Value.ref 42), Lg.sg (Ld.l r12.2), Lg.at (Ld.l r12.2), Lg.si (Ld.l r12.2), Lg.te (Ld.l r12.2), Lg.nu (Ld.l r12.2)), Us.l4 s, Us.l5 s, Us.b0 s, Us.b1 s, Us.b2 s, Us.b3 s, Us.b4 s, Us.b5 s, Us.b6 s, Us.it s, Us.ac s)) else (((-nI 10) - r12.1), (((Sc.kd (Sf.c (Us.nw s)), Sc.vv (Sf.c (Us.nw s)), Sc.kn (Sf.c (Us.nw s)), Sc.rw (Sf.c (Us.nw s)), Sc.le (Sf.c (Us.nw s)), Sc.sz (Sf.c (Us.nw s)), Sc.ou (Sf.c (Us.nw s)), Sc.ti (Sf.c (Us.nw s)), nI 0, Sc.lg (Sf.c (Us.nw s))), Ld.ta r12.2, Sf.se (Us.nw s), Sf.pl (Us.nw s), Sf.bk (Us.nw s)), Us.kp s, Us.ah s, Us.h s, Us.k0 s, Us.k1 s, Us.k2 s, Us.k3 s, Us.k4 s, Us.k5 s, Us.k6 s, Us.st s, Us.l0 s, Us.l1 s, Us.l2 s, (Lg.st (Ld.l r12.2), Lg.sz (Ld.l r12.2), Lg.ke (Ld.l r12.2), Lg.pa (Ld.l r12.2), (Value.ref 42), Lg.sg (Ld.l r12.2), Lg.at (Ld.l r12.2), Lg.si (Ld.l r12.2), Lg.te (Ld.l r12.2), Lg.nu (Ld.l r12.2)), Us.l4 s, Us.l5 s, Us.b0 s, Us.b1 s, Us.b2 s, Us.b3 s, Us.b4 s, Us.b5 s, Us.b6 s, Us.it s, Us.ac s)))) else (if Sc.lg (Sf.c (Us.nw s)) = nI 3 then (bindv (m_X4_read (Us.l4 s, Sf.tp (Us.nw s)) (Sc.sg (Sf.c (Us.nw s)))) (fun r14 => if r14.1 < 0 then (((Sc.lg (Sf.c (Us.nw s)) + nI 1) - nI 1), (((Sc.kd (Sf.c (Us.nw s)), Sc.vv (Sf.c (Us.nw s)), Sc.kn (Sf.c (Us.nw s)), Sc.rw (Sf.c (Us.nw s)), Sc.le (Sf.c (Us.nw s)), Sc.sz (Sf.c (Us.nw s)), Sc.ou (Sf.c (Us.nw s)), Sc.ti (Sf.c (Us.nw s)), nI 0, (Sc.lg (Sf.c (Us.nw s)) + nI 1)), Ld.ta r14.2, Sf.se (Us.nw s), Sf.pl (Us.nw s), Sf.bk (Us.nw s)), Us.kp s, Us.ah s, Us.h s, Us.k0 s, Us.k1 s, Us.k2 s, Us.k3 s, Us.k4 s, Us.k5 s, Us.k6 s, Us.st s, Us.l0 s, Us.l1 s, Us.l2 s, Us.l3 s, (Lg.st (Ld.l r14.2), Lg.sz (Ld.l r14.2), Lg.ke (Ld.l r14.2), Lg.pa (Ld.l r14.2), (Value.ref 42), Lg.sg (Ld.l r14.2), Lg.at (Ld.l r14.2), Lg.si (Ld.l r14.2), Lg.te (Ld.l r14.2), Lg.nu (Ld.l r14.2)), Us.l5 s, Us.b0 s, Us.b1 s, Us.b2 s, Us.b3 s, Us.b4 s, Us.b5 s, Us.b6 s, Us.it s, Us.ac s)) else (((-nI 10) - r14.1), (((Sc.kd (Sf.c (Us.nw s)), Sc.vv (Sf.c (Us.nw s)), Sc.kn (Sf.c (Us.nw s)), Sc.rw (Sf.c (Us.nw s)), Sc.le (Sf.c (Us.nw s)), Sc.sz (Sf.c (Us.nw s)), Sc.ou (Sf.c (Us.nw s)), Sc.ti (Sf.c (Us.nw s)), nI 0, Sc.lg (Sf.c (Us.nw s))), Ld.ta r14.2, Sf.se (Us.nw s), Sf.pl (Us.nw s), Sf.bk (Us.nw s)), Us.kp s, Us.ah s, Us.h s, Us.k0 s, Us.k1 s, Us.k2 s, Us.k3 s, Us.k4 s, Us.k5 s, Us.k6 s, Us.st s, Us.l0 s, Us.l1 s, Us.l2 s, Us.l3 s, (Lg.st (Ld.l r14.2), Lg.sz (Ld.l r14.2), Lg.ke (Ld.l r14.2), Lg.pa (Ld.l r14.2), (Value.ref 42), Lg.sg (Ld.l r14.2), Lg.at (Ld.l r14.2), Lg.si (Ld.l r14.2), Lg.te (Ld.l r14.2), Lg.nu (Ld.l r14.2)), Us.l5 s, Us.b0 s, Us.b1 s, Us.b2 s, Us.b3 s, Us.b4 s, Us.b5 s, Us.b6 s, Us.it s, Us.ac s)))) else (bindv (m_X4_read (Us.l5 s, Sf.tp (Us.nw s)) (Sc.sg (Sf.c (Us.nw s)))) (fun r16 => if r16.1 < 0 then (((Sc.lg (Sf.c (Us.nw s)) + nI 1) - nI 1), (((Sc.kd (Sf.c (Us.nw s)), Sc.vv (Sf.c (Us.nw s)), Sc.kn (Sf.c (Us.nw s)), Sc.rw (Sf.c (Us.nw s)), Sc.le (Sf.c (Us.nw s)), Sc.sz (Sf.c (Us.nw s)), Sc.ou (Sf.c (Us.nw s)), Sc.ti (Sf.c (Us.nw s)), nI 0, (Sc.lg (Sf.c (Us.nw s)) + nI 1)), Ld.ta r16.2, Sf.se (Us.nw s), Sf.pl (Us.nw s), Sf.bk (Us.nw s)), Us.kp s, Us.ah s, Us.h s, Us.k0 s, Us.k1 s, Us.k2 s, Us.k3 s, Us.k4 s, Us.k5 s, Us.k6 s, Us.st s, Us.l0 s, Us.l1 s, Us.l2 s, Us.l3 s, Us.l4 s, (Lg.st (Ld.l r16.2), Lg.sz (Ld.l r16.2), Lg.ke (Ld.l r16.2), Lg.pa (Ld.l r16.2), (Value.ref 42), Lg.sg (Ld.l r16.2), Lg.at (Ld.l r16.2), Lg.si (Ld.l r16.2), Lg.te (Ld.l r16.2), Lg.nu (Ld.l r16.2)), Us.b0 s, Us.b1 s, Us.b2 s, Us.b3 s, Us.b4 s, Us.b5 s, Us.b6 s, Us.it s, Us.ac s)) else (((-nI 10) - r16.1), (((Sc.kd (Sf.c (Us.nw s)), Sc.vv (Sf.c (Us.nw s)), Sc.kn (Sf.c (Us.nw s)), Sc.rw (Sf.c (Us.nw s)), Sc.le (Sf.c (Us.nw s)), Sc.sz (Sf.c (Us.nw s)), Sc.ou (Sf.c (Us.nw s)), Sc.ti (Sf.c (Us.nw s)), nI 0, Sc.lg (Sf.c (Us.nw s))), Ld.ta r16.2, Sf.se (Us.nw s), Sf.pl (Us.nw s), Sf.bk (Us.nw s)), Us.kp s, Us.ah s, Us.h s, Us.k0 s, Us.k1 s, Us.k2 s, Us.k3 s, Us.k4 s, Us.k5 s, Us.k6 s, Us.st s, Us.l0 s, Us.l1 s, Us.l2 s, Us.l3 s, Us.l4 s, (Lg.st (Ld.l r16.2), Lg.sz (Ld.l r16.2), Lg.ke (Ld.l r16.2), Lg.pa (Ld.l r16.2), (Value.ref 42), Lg.sg (Ld.l r16.2), Lg.at (Ld.l r16.2), Lg.si (Ld.l r16.2), Lg.te (Ld.l r16.2), Lg.nu (Ld.l r16.2)), Us.b0 s, Us.b1 s, Us.b2 s, Us.b3 s, Us.b4 s, Us.b5 s, Us.b6 s, Us.it s, Us.ac s)))))))) else ((-nI 4), s))
set_option maxRecDepth 100000 in
set_option maxHeartbeats 400000 in
theorem c_X11_ledge (l : Launch) {fv : Value} (hf : FV fv) (s : Us) (ht : TPs s) : CT l fv 33 jX11_ledge [.ref 0] (hUs s) (DP (some (.int (m_X11_ledge s).1)) (hUs ((m_X11_ledge s).2))) := by
  refine CT_of [] mt_X11_ledge (by decide +kernel) (tab_X11 hf) okX11_ledge (Nat.le_of_ble_eq_true rfl) ?_
  intro J hJ hD
  refine hJ 0 _ _ _ ?_
  refine And.intro (fun c1 => ?_) (fun c1 => ?_)
  · skip
    refine hJ 25 _ _ _ ?_
    exact And.intro True.intro (DPis (F := (fun z => hUs z)) (s' := s) (if_pos c1))
  · skip
    have k1 := c1
    refine And.intro (fun c2 => ?_) (fun c2 => ?_)
    · skip
      have k2 := c2
      refine hJ 28 _ _ _ ?_
      rcases (or5 (x := (Sc.lg (Sf.c (Us.nw s)))) (vp_of2 k1 k2 (by decide))) with hk3 | hk4 | hk5 | hk6 | hk7
      · skip
        refine ⟨Or.inl rfl, by rw [hk3]; exact vp_in_nI (by decide) (by decide), 31, by rw [hk3]; rfl, ?_⟩
        obtain ⟨r8, er8⟩ : ∃ z : Int32 × Ld, m_X4_read (Us.l1 s, Sf.tp (Us.nw s)) (Sc.sg (Sf.c (Us.nw s))) = z := ⟨_, rfl⟩
        have hr8 := c_X4_read l hf (Us.l1 s, Sf.tp (Us.nw s)) (Sc.sg (Sf.c (Us.nw s)))
        rw [er8] at hr8
        refine CALL_sub (r := some (.int r8.1)) (h' := wUs (Sf.c (Us.nw s), Ld.ta r8.2, Sf.se (Us.nw s), Sf.pl (Us.nw s), Sf.bk (Us.nw s)) (Us.kp s) (Us.ah s) (Us.h s) (Us.k0 s) (Us.k1 s) (Us.k2 s) (Us.k3 s) (Us.k4 s) (Us.k5 s) (Us.k6 s) (Us.st s) (Us.l0 s) (Lg.st (Ld.l r8.2), Lg.sz (Ld.l r8.2), Lg.ke (Ld.l r8.2), Lg.pa (Ld.l r8.2), (Value.ref 42), Lg.sg (Ld.l r8.2), Lg.at (Ld.l r8.2), Lg.si (Ld.l r8.2), Lg.te (Ld.l r8.2), Lg.nu (Ld.l r8.2)) (Us.l2 s) (Us.l3 s) (Us.l4 s) (Us.l5 s) (Us.b0 s) (Us.b1 s) (Us.b2 s) (Us.b3 s) (Us.b4 s) (Us.b5 s) (Us.b6 s) (Us.it s) (Us.ac s)) [31, 32, 42] (by decide) (hr8) rfl (w_sub_of ⟨congrArg (fun (z : Value) => some ((Sum.inr (4, [Value.ref 32, .int (Lg.sz (Us.l1 s)), .int (Lg.ke (Us.l1 s)), .int (Lg.pa (Us.l1 s)), z, .int (Lg.sg (Us.l1 s)), .int (Lg.at (Us.l1 s)), .int (Lg.si (Us.l1 s)), .int (Lg.te (Us.l1 s)), .int (Lg.nu (Us.l1 s))]) : AE))) (ht.2.1 [31, 32, 42] (by decide)).symm, rfl, rfl, True.intro⟩) (by decide) (by decide) ((show w_back _ [31, 32, 42] _ = gUs1 (Sf.c (Us.nw s), Ld.ta r8.2, Sf.se (Us.nw s), Sf.pl (Us.nw s), Sf.bk (Us.nw s)) (Us.kp s) (Us.ah s) (Us.h s) (Us.k0 s) (Us.k1 s) (Us.k2 s) (Us.k3 s) (Us.k4 s) (Us.k5 s) (Us.k6 s) (Us.st s) (Us.l0 s) (Ld.l r8.2) (Us.l2 s) (Us.l3 s) (Us.l4 s) (Us.l5 s) (Us.b0 s) (Us.b1 s) (Us.b2 s) (Us.b3 s) (Us.b4 s) (Us.b5 s) (Us.b6 s) (Us.it s) (Us.ac s) (fun j => l_get [21, 22, 23, 24, 25, 26, 27] j) (r_v [31, 32, 42] (Lg.tp (Ld.l r8.2))) from rfl).trans ((congrArg (fun z => gUs1 (Sf.c (Us.nw s), Ld.ta r8.2, Sf.se (Us.nw s), Sf.pl (Us.nw s), Sf.bk (Us.nw s)) (Us.kp s) (Us.ah s) (Us.h s) (Us.k0 s) (Us.k1 s) (Us.k2 s) (Us.k3 s) (Us.k4 s) (Us.k5 s) (Us.k6 s) (Us.st s) (Us.l0 s) (Ld.l r8.2) (Us.l2 s) (Us.l3 s) (Us.l4 s) (Us.l5 s) (Us.b0 s) (Us.b1 s) (Us.b2 s) (Us.b3 s) (Us.b4 s) (Us.b5 s) (Us.b6 s) (Us.it s) (Us.ac s) (fun j => l_get [21, 22, 23, 24, 25, 26, 27] j) z) (show r_v [31, 32, 42] (Lg.tp (Ld.l r8.2)) = .ref 42 from by rw [ef_read er8]; rfl)).trans rfl)) ?_
        refine And.intro True.intro ?_
        refine And.intro (fun c9 => ?_) (fun c9 => ?_)
        · skip
          refine hJ 75 _ _ _ ?_
          refine And.intro True.intro ?_
          exact And.intro True.intro (DPis (F := (fun z => hUs z)) (s' := (((Sc.kd (Sf.c (Us.nw s)), Sc.vv (Sf.c (Us.nw s)), Sc.kn (Sf.c (Us.nw s)), Sc.rw (Sf.c (Us.nw s)), Sc.le (Sf.c (Us.nw s)), Sc.sz (Sf.c (Us.nw s)), Sc.ou (Sf.c (Us.nw s)), Sc.ti (Sf.c (Us.nw s)), nI 0, (Sc.lg (Sf.c (Us.nw s)) + nI 1)), Ld.ta r8.2, Sf.se (Us.nw s), Sf.pl (Us.nw s), Sf.bk (Us.nw s)), Us.kp s, Us.ah s, Us.h s, Us.k0 s, Us.k1 s, Us.k2 s, Us.k3 s, Us.k4 s, Us.k5 s, Us.k6 s, Us.st s, Us.l0 s, (Lg.st (Ld.l r8.2), Lg.sz (Ld.l r8.2), Lg.ke (Ld.l r8.2), Lg.pa (Ld.l r8.2), (Value.ref 42), Lg.sg (Ld.l r8.2), Lg.at (Ld.l r8.2), Lg.si (Ld.l r8.2), Lg.te (Ld.l r8.2), Lg.nu (Ld.l r8.2)), Us.l2 s, Us.l3 s, Us.l4 s, Us.l5 s, Us.b0 s, Us.b1 s, Us.b2 s, Us.b3 s, Us.b4 s, Us.b5 s, Us.b6 s, Us.it s, Us.ac s)) ((if_neg c1).trans ((if_pos c2).trans ((if_pos hk3).trans ((bindv_eq er8).trans (if_pos c9))))))
        · skip
          exact And.intro True.intro (DPis (F := (fun z => hUs z)) (s' := (((Sc.kd (Sf.c (Us.nw s)), Sc.vv (Sf.c (Us.nw s)), Sc.kn (Sf.c (Us.nw s)), Sc.rw (Sf.c (Us.nw s)), Sc.le (Sf.c (Us.nw s)), Sc.sz (Sf.c (Us.nw s)), Sc.ou (Sf.c (Us.nw s)), Sc.ti (Sf.c (Us.nw s)), nI 0, Sc.lg (Sf.c (Us.nw s))), Ld.ta r8.2, Sf.se (Us.nw s), Sf.pl (Us.nw s), Sf.bk (Us.nw s)), Us.kp s, Us.ah s, Us.h s, Us.k0 s, Us.k1 s, Us.k2 s, Us.k3 s, Us.k4 s, Us.k5 s, Us.k6 s, Us.st s, Us.l0 s, (Lg.st (Ld.l r8.2), Lg.sz (Ld.l r8.2), Lg.ke (Ld.l r8.2), Lg.pa (Ld.l r8.2), (Value.ref 42), Lg.sg (Ld.l r8.2), Lg.at (Ld.l r8.2), Lg.si (Ld.l r8.2), Lg.te (Ld.l r8.2), Lg.nu (Ld.l r8.2)), Us.l2 s, Us.l3 s, Us.l4 s, Us.l5 s, Us.b0 s, Us.b1 s, Us.b2 s, Us.b3 s, Us.b4 s, Us.b5 s, Us.b6 s, Us.it s, Us.ac s)) ((if_neg c1).trans ((if_pos c2).trans ((if_pos hk3).trans ((bindv_eq er8).trans (if_neg c9))))))
      · skip
        refine ⟨Or.inl rfl, by rw [hk4]; exact vp_in_nI (by decide) (by decide), 33, by rw [hk4]; rfl, ?_⟩
        obtain ⟨r10, er10⟩ : ∃ z : Int32 × Ld, m_X4_read (Us.l2 s, Sf.tp (Us.nw s)) (Sc.sg (Sf.c (Us.nw s))) = z := ⟨_, rfl⟩
        have hr10 := c_X4_read l hf (Us.l2 s, Sf.tp (Us.nw s)) (Sc.sg (Sf.c (Us.nw s)))
        rw [er10] at hr10
        refine CALL_sub (r := some (.int r10.1)) (h' := wUs (Sf.c (Us.nw s), Ld.ta r10.2, Sf.se (Us.nw s), Sf.pl (Us.nw s), Sf.bk (Us.nw s)) (Us.kp s) (Us.ah s) (Us.h s) (Us.k0 s) (Us.k1 s) (Us.k2 s) (Us.k3 s) (Us.k4 s) (Us.k5 s) (Us.k6 s) (Us.st s) (Us.l0 s) (Us.l1 s) (Lg.st (Ld.l r10.2), Lg.sz (Ld.l r10.2), Lg.ke (Ld.l r10.2), Lg.pa (Ld.l r10.2), (Value.ref 42), Lg.sg (Ld.l r10.2), Lg.at (Ld.l r10.2), Lg.si (Ld.l r10.2), Lg.te (Ld.l r10.2), Lg.nu (Ld.l r10.2)) (Us.l3 s) (Us.l4 s) (Us.l5 s) (Us.b0 s) (Us.b1 s) (Us.b2 s) (Us.b3 s) (Us.b4 s) (Us.b5 s) (Us.b6 s) (Us.it s) (Us.ac s)) [33, 34, 42] (by decide) (hr10) rfl (w_sub_of ⟨congrArg (fun (z : Value) => some ((Sum.inr (4, [Value.ref 34, .int (Lg.sz (Us.l2 s)), .int (Lg.ke (Us.l2 s)), .int (Lg.pa (Us.l2 s)), z, .int (Lg.sg (Us.l2 s)), .int (Lg.at (Us.l2 s)), .int (Lg.si (Us.l2 s)), .int (Lg.te (Us.l2 s)), .int (Lg.nu (Us.l2 s))]) : AE))) (ht.2.2.1 [33, 34, 42] (by decide)).symm, rfl, rfl, True.intro⟩) (by decide) (by decide) ((show w_back _ [33, 34, 42] _ = gUs2 (Sf.c (Us.nw s), Ld.ta r10.2, Sf.se (Us.nw s), Sf.pl (Us.nw s), Sf.bk (Us.nw s)) (Us.kp s) (Us.ah s) (Us.h s) (Us.k0 s) (Us.k1 s) (Us.k2 s) (Us.k3 s) (Us.k4 s) (Us.k5 s) (Us.k6 s) (Us.st s) (Us.l0 s) (Us.l1 s) (Ld.l r10.2) (Us.l3 s) (Us.l4 s) (Us.l5 s) (Us.b0 s) (Us.b1 s) (Us.b2 s) (Us.b3 s) (Us.b4 s) (Us.b5 s) (Us.b6 s) (Us.it s) (Us.ac s) (fun j => l_get [21, 22, 23, 24, 25, 26, 27] j) (r_v [33, 34, 42] (Lg.tp (Ld.l r10.2))) from rfl).trans ((congrArg (fun z => gUs2 (Sf.c (Us.nw s), Ld.ta r10.2, Sf.se (Us.nw s), Sf.pl (Us.nw s), Sf.bk (Us.nw s)) (Us.kp s) (Us.ah s) (Us.h s) (Us.k0 s) (Us.k1 s) (Us.k2 s) (Us.k3 s) (Us.k4 s) (Us.k5 s) (Us.k6 s) (Us.st s) (Us.l0 s) (Us.l1 s) (Ld.l r10.2) (Us.l3 s) (Us.l4 s) (Us.l5 s) (Us.b0 s) (Us.b1 s) (Us.b2 s) (Us.b3 s) (Us.b4 s) (Us.b5 s) (Us.b6 s) (Us.it s) (Us.ac s) (fun j => l_get [21, 22, 23, 24, 25, 26, 27] j) z) (show r_v [33, 34, 42] (Lg.tp (Ld.l r10.2)) = .ref 42 from by rw [ef_read er10]; rfl)).trans rfl)) ?_
        refine And.intro True.intro ?_
        refine And.intro (fun c11 => ?_) (fun c11 => ?_)
        · skip
          refine hJ 75 _ _ _ ?_
          refine And.intro True.intro ?_
          exact And.intro True.intro (DPis (F := (fun z => hUs z)) (s' := (((Sc.kd (Sf.c (Us.nw s)), Sc.vv (Sf.c (Us.nw s)), Sc.kn (Sf.c (Us.nw s)), Sc.rw (Sf.c (Us.nw s)), Sc.le (Sf.c (Us.nw s)), Sc.sz (Sf.c (Us.nw s)), Sc.ou (Sf.c (Us.nw s)), Sc.ti (Sf.c (Us.nw s)), nI 0, (Sc.lg (Sf.c (Us.nw s)) + nI 1)), Ld.ta r10.2, Sf.se (Us.nw s), Sf.pl (Us.nw s), Sf.bk (Us.nw s)), Us.kp s, Us.ah s, Us.h s, Us.k0 s, Us.k1 s, Us.k2 s, Us.k3 s, Us.k4 s, Us.k5 s, Us.k6 s, Us.st s, Us.l0 s, Us.l1 s, (Lg.st (Ld.l r10.2), Lg.sz (Ld.l r10.2), Lg.ke (Ld.l r10.2), Lg.pa (Ld.l r10.2), (Value.ref 42), Lg.sg (Ld.l r10.2), Lg.at (Ld.l r10.2), Lg.si (Ld.l r10.2), Lg.te (Ld.l r10.2), Lg.nu (Ld.l r10.2)), Us.l3 s, Us.l4 s, Us.l5 s, Us.b0 s, Us.b1 s, Us.b2 s, Us.b3 s, Us.b4 s, Us.b5 s, Us.b6 s, Us.it s, Us.ac s)) ((if_neg c1).trans ((if_pos c2).trans ((if_neg (fun q => absurd (hk4.symm.trans q) (by decide))).trans ((if_pos hk4).trans ((bindv_eq er10).trans (if_pos c11)))))))
        · skip
          exact And.intro True.intro (DPis (F := (fun z => hUs z)) (s' := (((Sc.kd (Sf.c (Us.nw s)), Sc.vv (Sf.c (Us.nw s)), Sc.kn (Sf.c (Us.nw s)), Sc.rw (Sf.c (Us.nw s)), Sc.le (Sf.c (Us.nw s)), Sc.sz (Sf.c (Us.nw s)), Sc.ou (Sf.c (Us.nw s)), Sc.ti (Sf.c (Us.nw s)), nI 0, Sc.lg (Sf.c (Us.nw s))), Ld.ta r10.2, Sf.se (Us.nw s), Sf.pl (Us.nw s), Sf.bk (Us.nw s)), Us.kp s, Us.ah s, Us.h s, Us.k0 s, Us.k1 s, Us.k2 s, Us.k3 s, Us.k4 s, Us.k5 s, Us.k6 s, Us.st s, Us.l0 s, Us.l1 s, (Lg.st (Ld.l r10.2), Lg.sz (Ld.l r10.2), Lg.ke (Ld.l r10.2), Lg.pa (Ld.l r10.2), (Value.ref 42), Lg.sg (Ld.l r10.2), Lg.at (Ld.l r10.2), Lg.si (Ld.l r10.2), Lg.te (Ld.l r10.2), Lg.nu (Ld.l r10.2)), Us.l3 s, Us.l4 s, Us.l5 s, Us.b0 s, Us.b1 s, Us.b2 s, Us.b3 s, Us.b4 s, Us.b5 s, Us.b6 s, Us.it s, Us.ac s)) ((if_neg c1).trans ((if_pos c2).trans ((if_neg (fun q => absurd (hk4.symm.trans q) (by decide))).trans ((if_pos hk4).trans ((bindv_eq er10).trans (if_neg c11)))))))
      · skip
        refine ⟨Or.inl rfl, by rw [hk5]; exact vp_in_nI (by decide) (by decide), 35, by rw [hk5]; rfl, ?_⟩
        obtain ⟨r12, er12⟩ : ∃ z : Int32 × Ld, m_X4_read (Us.l3 s, Sf.tp (Us.nw s)) (Sc.sg (Sf.c (Us.nw s))) = z := ⟨_, rfl⟩
        have hr12 := c_X4_read l hf (Us.l3 s, Sf.tp (Us.nw s)) (Sc.sg (Sf.c (Us.nw s)))
        rw [er12] at hr12
        refine CALL_sub (r := some (.int r12.1)) (h' := wUs (Sf.c (Us.nw s), Ld.ta r12.2, Sf.se (Us.nw s), Sf.pl (Us.nw s), Sf.bk (Us.nw s)) (Us.kp s) (Us.ah s) (Us.h s) (Us.k0 s) (Us.k1 s) (Us.k2 s) (Us.k3 s) (Us.k4 s) (Us.k5 s) (Us.k6 s) (Us.st s) (Us.l0 s) (Us.l1 s) (Us.l2 s) (Lg.st (Ld.l r12.2), Lg.sz (Ld.l r12.2), Lg.ke (Ld.l r12.2), Lg.pa (Ld.l r12.2), (Value.ref 42), Lg.sg (Ld.l r12.2), Lg.at (Ld.l r12.2), Lg.si (Ld.l r12.2), Lg.te (Ld.l r12.2), Lg.nu (Ld.l r12.2)) (Us.l4 s) (Us.l5 s) (Us.b0 s) (Us.b1 s) (Us.b2 s) (Us.b3 s) (Us.b4 s) (Us.b5 s) (Us.b6 s) (Us.it s) (Us.ac s)) [35, 36, 42] (by decide) (hr12) rfl (w_sub_of ⟨congrArg (fun (z : Value) => some ((Sum.inr (4, [Value.ref 36, .int (Lg.sz (Us.l3 s)), .int (Lg.ke (Us.l3 s)), .int (Lg.pa (Us.l3 s)), z, .int (Lg.sg (Us.l3 s)), .int (Lg.at (Us.l3 s)), .int (Lg.si (Us.l3 s)), .int (Lg.te (Us.l3 s)), .int (Lg.nu (Us.l3 s))]) : AE))) (ht.2.2.2.1 [35, 36, 42] (by decide)).symm, rfl, rfl, True.intro⟩) (by decide) (by decide) ((show w_back _ [35, 36, 42] _ = gUs3 (Sf.c (Us.nw s), Ld.ta r12.2, Sf.se (Us.nw s), Sf.pl (Us.nw s), Sf.bk (Us.nw s)) (Us.kp s) (Us.ah s) (Us.h s) (Us.k0 s) (Us.k1 s) (Us.k2 s) (Us.k3 s) (Us.k4 s) (Us.k5 s) (Us.k6 s) (Us.st s) (Us.l0 s) (Us.l1 s) (Us.l2 s) (Ld.l r12.2) (Us.l4 s) (Us.l5 s) (Us.b0 s) (Us.b1 s) (Us.b2 s) (Us.b3 s) (Us.b4 s) (Us.b5 s) (Us.b6 s) (Us.it s) (Us.ac s) (fun j => l_get [21, 22, 23, 24, 25, 26, 27] j) (r_v [35, 36, 42] (Lg.tp (Ld.l r12.2))) from rfl).trans ((congrArg (fun z => gUs3 (Sf.c (Us.nw s), Ld.ta r12.2, Sf.se (Us.nw s), Sf.pl (Us.nw s), Sf.bk (Us.nw s)) (Us.kp s) (Us.ah s) (Us.h s) (Us.k0 s) (Us.k1 s) (Us.k2 s) (Us.k3 s) (Us.k4 s) (Us.k5 s) (Us.k6 s) (Us.st s) (Us.l0 s) (Us.l1 s) (Us.l2 s) (Ld.l r12.2) (Us.l4 s) (Us.l5 s) (Us.b0 s) (Us.b1 s) (Us.b2 s) (Us.b3 s) (Us.b4 s) (Us.b5 s) (Us.b6 s) (Us.it s) (Us.ac s) (fun j => l_get [21, 22, 23, 24, 25, 26, 27] j) z) (show r_v [35, 36, 42] (Lg.tp (Ld.l r12.2)) = .ref 42 from by rw [ef_read er12]; rfl)).trans rfl)) ?_
        refine And.intro True.intro ?_
        refine And.intro (fun c13 => ?_) (fun c13 => ?_)
        · skip
          refine hJ 75 _ _ _ ?_
          refine And.intro True.intro ?_
          exact And.intro True.intro (DPis (F := (fun z => hUs z)) (s' := (((Sc.kd (Sf.c (Us.nw s)), Sc.vv (Sf.c (Us.nw s)), Sc.kn (Sf.c (Us.nw s)), Sc.rw (Sf.c (Us.nw s)), Sc.le (Sf.c (Us.nw s)), Sc.sz (Sf.c (Us.nw s)), Sc.ou (Sf.c (Us.nw s)), Sc.ti (Sf.c (Us.nw s)), nI 0, (Sc.lg (Sf.c (Us.nw s)) + nI 1)), Ld.ta r12.2, Sf.se (Us.nw s), Sf.pl (Us.nw s), Sf.bk (Us.nw s)), Us.kp s, Us.ah s, Us.h s, Us.k0 s, Us.k1 s, Us.k2 s, Us.k3 s, Us.k4 s, Us.k5 s, Us.k6 s, Us.st s, Us.l0 s, Us.l1 s, Us.l2 s, (Lg.st (Ld.l r12.2), Lg.sz (Ld.l r12.2), Lg.ke (Ld.l r12.2), Lg.pa (Ld.l r12.2), (Value.ref 42), Lg.sg (Ld.l r12.2), Lg.at (Ld.l r12.2), Lg.si (Ld.l r12.2), Lg.te (Ld.l r12.2), Lg.nu (Ld.l r12.2)), Us.l4 s, Us.l5 s, Us.b0 s, Us.b1 s, Us.b2 s, Us.b3 s, Us.b4 s, Us.b5 s, Us.b6 s, Us.it s, Us.ac s)) ((if_neg c1).trans ((if_pos c2).trans ((if_neg (fun q => absurd (hk5.symm.trans q) (by decide))).trans ((if_neg (fun q => absurd (hk5.symm.trans q) (by decide))).trans ((if_pos hk5).trans ((bindv_eq er12).trans (if_pos c13))))))))
        · skip
          exact And.intro True.intro (DPis (F := (fun z => hUs z)) (s' := (((Sc.kd (Sf.c (Us.nw s)), Sc.vv (Sf.c (Us.nw s)), Sc.kn (Sf.c (Us.nw s)), Sc.rw (Sf.c (Us.nw s)), Sc.le (Sf.c (Us.nw s)), Sc.sz (Sf.c (Us.nw s)), Sc.ou (Sf.c (Us.nw s)), Sc.ti (Sf.c (Us.nw s)), nI 0, Sc.lg (Sf.c (Us.nw s))), Ld.ta r12.2, Sf.se (Us.nw s), Sf.pl (Us.nw s), Sf.bk (Us.nw s)), Us.kp s, Us.ah s, Us.h s, Us.k0 s, Us.k1 s, Us.k2 s, Us.k3 s, Us.k4 s, Us.k5 s, Us.k6 s, Us.st s, Us.l0 s, Us.l1 s, Us.l2 s, (Lg.st (Ld.l r12.2), Lg.sz (Ld.l r12.2), Lg.ke (Ld.l r12.2), Lg.pa (Ld.l r12.2), (Value.ref 42), Lg.sg (Ld.l r12.2), Lg.at (Ld.l r12.2), Lg.si (Ld.l r12.2), Lg.te (Ld.l r12.2), Lg.nu (Ld.l r12.2)), Us.l4 s, Us.l5 s, Us.b0 s, Us.b1 s, Us.b2 s, Us.b3 s, Us.b4 s, Us.b5 s, Us.b6 s, Us.it s, Us.ac s)) ((if_neg c1).trans ((if_pos c2).trans ((if_neg (fun q => absurd (hk5.symm.trans q) (by decide))).trans ((if_neg (fun q => absurd (hk5.symm.trans q) (by decide))).trans ((if_pos hk5).trans ((bindv_eq er12).trans (if_neg c13))))))))
      · skip
        refine ⟨Or.inl rfl, by rw [hk6]; exact vp_in_nI (by decide) (by decide), 37, by rw [hk6]; rfl, ?_⟩
        obtain ⟨r14, er14⟩ : ∃ z : Int32 × Ld, m_X4_read (Us.l4 s, Sf.tp (Us.nw s)) (Sc.sg (Sf.c (Us.nw s))) = z := ⟨_, rfl⟩
        have hr14 := c_X4_read l hf (Us.l4 s, Sf.tp (Us.nw s)) (Sc.sg (Sf.c (Us.nw s)))
        rw [er14] at hr14
        refine CALL_sub (r := some (.int r14.1)) (h' := wUs (Sf.c (Us.nw s), Ld.ta r14.2, Sf.se (Us.nw s), Sf.pl (Us.nw s), Sf.bk (Us.nw s)) (Us.kp s) (Us.ah s) (Us.h s) (Us.k0 s) (Us.k1 s) (Us.k2 s) (Us.k3 s) (Us.k4 s) (Us.k5 s) (Us.k6 s) (Us.st s) (Us.l0 s) (Us.l1 s) (Us.l2 s) (Us.l3 s) (Lg.st (Ld.l r14.2), Lg.sz (Ld.l r14.2), Lg.ke (Ld.l r14.2), Lg.pa (Ld.l r14.2), (Value.ref 42), Lg.sg (Ld.l r14.2), Lg.at (Ld.l r14.2), Lg.si (Ld.l r14.2), Lg.te (Ld.l r14.2), Lg.nu (Ld.l r14.2)) (Us.l5 s) (Us.b0 s) (Us.b1 s) (Us.b2 s) (Us.b3 s) (Us.b4 s) (Us.b5 s) (Us.b6 s) (Us.it s) (Us.ac s)) [37, 38, 42] (by decide) (hr14) rfl (w_sub_of ⟨congrArg (fun (z : Value) => some ((Sum.inr (4, [Value.ref 38, .int (Lg.sz (Us.l4 s)), .int (Lg.ke (Us.l4 s)), .int (Lg.pa (Us.l4 s)), z, .int (Lg.sg (Us.l4 s)), .int (Lg.at (Us.l4 s)), .int (Lg.si (Us.l4 s)), .int (Lg.te (Us.l4 s)), .int (Lg.nu (Us.l4 s))]) : AE))) (ht.2.2.2.2.1 [37, 38, 42] (by decide)).symm, rfl, rfl, True.intro⟩) (by decide) (by decide) ((show w_back _ [37, 38, 42] _ = gUs4 (Sf.c (Us.nw s), Ld.ta r14.2, Sf.se (Us.nw s), Sf.pl (Us.nw s), Sf.bk (Us.nw s)) (Us.kp s) (Us.ah s) (Us.h s) (Us.k0 s) (Us.k1 s) (Us.k2 s) (Us.k3 s) (Us.k4 s) (Us.k5 s) (Us.k6 s) (Us.st s) (Us.l0 s) (Us.l1 s) (Us.l2 s) (Us.l3 s) (Ld.l r14.2) (Us.l5 s) (Us.b0 s) (Us.b1 s) (Us.b2 s) (Us.b3 s) (Us.b4 s) (Us.b5 s) (Us.b6 s) (Us.it s) (Us.ac s) (fun j => l_get [21, 22, 23, 24, 25, 26, 27] j) (r_v [37, 38, 42] (Lg.tp (Ld.l r14.2))) from rfl).trans ((congrArg (fun z => gUs4 (Sf.c (Us.nw s), Ld.ta r14.2, Sf.se (Us.nw s), Sf.pl (Us.nw s), Sf.bk (Us.nw s)) (Us.kp s) (Us.ah s) (Us.h s) (Us.k0 s) (Us.k1 s) (Us.k2 s) (Us.k3 s) (Us.k4 s) (Us.k5 s) (Us.k6 s) (Us.st s) (Us.l0 s) (Us.l1 s) (Us.l2 s) (Us.l3 s) (Ld.l r14.2) (Us.l5 s) (Us.b0 s) (Us.b1 s) (Us.b2 s) (Us.b3 s) (Us.b4 s) (Us.b5 s) (Us.b6 s) (Us.it s) (Us.ac s) (fun j => l_get [21, 22, 23, 24, 25, 26, 27] j) z) (show r_v [37, 38, 42] (Lg.tp (Ld.l r14.2)) = .ref 42 from by rw [ef_read er14]; rfl)).trans rfl)) ?_
        refine And.intro True.intro ?_
        refine And.intro (fun c15 => ?_) (fun c15 => ?_)
        · skip
          refine hJ 75 _ _ _ ?_
          refine And.intro True.intro ?_
          exact And.intro True.intro (DPis (F := (fun z => hUs z)) (s' := (((Sc.kd (Sf.c (Us.nw s)), Sc.vv (Sf.c (Us.nw s)), Sc.kn (Sf.c (Us.nw s)), Sc.rw (Sf.c (Us.nw s)), Sc.le (Sf.c (Us.nw s)), Sc.sz (Sf.c (Us.nw s)), Sc.ou (Sf.c (Us.nw s)), Sc.ti (Sf.c (Us.nw s)), nI 0, (Sc.lg (Sf.c (Us.nw s)) + nI 1)), Ld.ta r14.2, Sf.se (Us.nw s), Sf.pl (Us.nw s), Sf.bk (Us.nw s)), Us.kp s, Us.ah s, Us.h s, Us.k0 s, Us.k1 s, Us.k2 s, Us.k3 s, Us.k4 s, Us.k5 s, Us.k6 s, Us.st s, Us.l0 s, Us.l1 s, Us.l2 s, Us.l3 s, (Lg.st (Ld.l r14.2), Lg.sz (Ld.l r14.2), Lg.ke (Ld.l r14.2), Lg.pa (Ld.l r14.2), (Value.ref 42), Lg.sg (Ld.l r14.2), Lg.at (Ld.l r14.2), Lg.si (Ld.l r14.2), Lg.te (Ld.l r14.2), Lg.nu (Ld.l r14.2)), Us.l5 s, Us.b0 s, Us.b1 s, Us.b2 s, Us.b3 s, Us.b4 s, Us.b5 s, Us.b6 s, Us.it s, Us.ac s)) ((if_neg c1).trans ((if_pos c2).trans ((if_neg (fun q => absurd (hk6.symm.trans q) (by decide))).trans ((if_neg (fun q => absurd (hk6.symm.trans q) (by decide))).trans ((if_neg (fun q => absurd (hk6.symm.trans q) (by decide))).trans ((if_pos hk6).trans ((bindv_eq er14).trans (if_pos c15)))))))))
        · skip
          exact And.intro True.intro (DPis (F := (fun z => hUs z)) (s' := (((Sc.kd (Sf.c (Us.nw s)), Sc.vv (Sf.c (Us.nw s)), Sc.kn (Sf.c (Us.nw s)), Sc.rw (Sf.c (Us.nw s)), Sc.le (Sf.c (Us.nw s)), Sc.sz (Sf.c (Us.nw s)), Sc.ou (Sf.c (Us.nw s)), Sc.ti (Sf.c (Us.nw s)), nI 0, Sc.lg (Sf.c (Us.nw s))), Ld.ta r14.2, Sf.se (Us.nw s), Sf.pl (Us.nw s), Sf.bk (Us.nw s)), Us.kp s, Us.ah s, Us.h s, Us.k0 s, Us.k1 s, Us.k2 s, Us.k3 s, Us.k4 s, Us.k5 s, Us.k6 s, Us.st s, Us.l0 s, Us.l1 s, Us.l2 s, Us.l3 s, (Lg.st (Ld.l r14.2), Lg.sz (Ld.l r14.2), Lg.ke (Ld.l r14.2), Lg.pa (Ld.l r14.2), (Value.ref 42), Lg.sg (Ld.l r14.2), Lg.at (Ld.l r14.2), Lg.si (Ld.l r14.2), Lg.te (Ld.l r14.2), Lg.nu (Ld.l r14.2)), Us.l5 s, Us.b0 s, Us.b1 s, Us.b2 s, Us.b3 s, Us.b4 s, Us.b5 s, Us.b6 s, Us.it s, Us.ac s)) ((if_neg c1).trans ((if_pos c2).trans ((if_neg (fun q => absurd (hk6.symm.trans q) (by decide))).trans ((if_neg (fun q => absurd (hk6.symm.trans q) (by decide))).trans ((if_neg (fun q => absurd (hk6.symm.trans q) (by decide))).trans ((if_pos hk6).trans ((bindv_eq er14).trans (if_neg c15)))))))))
      · skip
        refine ⟨Or.inl rfl, by rw [hk7]; exact vp_in_nI (by decide) (by decide), 39, by rw [hk7]; rfl, ?_⟩
        obtain ⟨r16, er16⟩ : ∃ z : Int32 × Ld, m_X4_read (Us.l5 s, Sf.tp (Us.nw s)) (Sc.sg (Sf.c (Us.nw s))) = z := ⟨_, rfl⟩
        have hr16 := c_X4_read l hf (Us.l5 s, Sf.tp (Us.nw s)) (Sc.sg (Sf.c (Us.nw s)))
        rw [er16] at hr16
        refine CALL_sub (r := some (.int r16.1)) (h' := wUs (Sf.c (Us.nw s), Ld.ta r16.2, Sf.se (Us.nw s), Sf.pl (Us.nw s), Sf.bk (Us.nw s)) (Us.kp s) (Us.ah s) (Us.h s) (Us.k0 s) (Us.k1 s) (Us.k2 s) (Us.k3 s) (Us.k4 s) (Us.k5 s) (Us.k6 s) (Us.st s) (Us.l0 s) (Us.l1 s) (Us.l2 s) (Us.l3 s) (Us.l4 s) (Lg.st (Ld.l r16.2), Lg.sz (Ld.l r16.2), Lg.ke (Ld.l r16.2), Lg.pa (Ld.l r16.2), (Value.ref 42), Lg.sg (Ld.l r16.2), Lg.at (Ld.l r16.2), Lg.si (Ld.l r16.2), Lg.te (Ld.l r16.2), Lg.nu (Ld.l r16.2)) (Us.b0 s) (Us.b1 s) (Us.b2 s) (Us.b3 s) (Us.b4 s) (Us.b5 s) (Us.b6 s) (Us.it s) (Us.ac s)) [39, 40, 42] (by decide) (hr16) rfl (w_sub_of ⟨congrArg (fun (z : Value) => some ((Sum.inr (4, [Value.ref 40, .int (Lg.sz (Us.l5 s)), .int (Lg.ke (Us.l5 s)), .int (Lg.pa (Us.l5 s)), z, .int (Lg.sg (Us.l5 s)), .int (Lg.at (Us.l5 s)), .int (Lg.si (Us.l5 s)), .int (Lg.te (Us.l5 s)), .int (Lg.nu (Us.l5 s))]) : AE))) (ht.2.2.2.2.2 [39, 40, 42] (by decide)).symm, rfl, rfl, True.intro⟩) (by decide) (by decide) ((show w_back _ [39, 40, 42] _ = gUs5 (Sf.c (Us.nw s), Ld.ta r16.2, Sf.se (Us.nw s), Sf.pl (Us.nw s), Sf.bk (Us.nw s)) (Us.kp s) (Us.ah s) (Us.h s) (Us.k0 s) (Us.k1 s) (Us.k2 s) (Us.k3 s) (Us.k4 s) (Us.k5 s) (Us.k6 s) (Us.st s) (Us.l0 s) (Us.l1 s) (Us.l2 s) (Us.l3 s) (Us.l4 s) (Ld.l r16.2) (Us.b0 s) (Us.b1 s) (Us.b2 s) (Us.b3 s) (Us.b4 s) (Us.b5 s) (Us.b6 s) (Us.it s) (Us.ac s) (fun j => l_get [21, 22, 23, 24, 25, 26, 27] j) (r_v [39, 40, 42] (Lg.tp (Ld.l r16.2))) from rfl).trans ((congrArg (fun z => gUs5 (Sf.c (Us.nw s), Ld.ta r16.2, Sf.se (Us.nw s), Sf.pl (Us.nw s), Sf.bk (Us.nw s)) (Us.kp s) (Us.ah s) (Us.h s) (Us.k0 s) (Us.k1 s) (Us.k2 s) (Us.k3 s) (Us.k4 s) (Us.k5 s) (Us.k6 s) (Us.st s) (Us.l0 s) (Us.l1 s) (Us.l2 s) (Us.l3 s) (Us.l4 s) (Ld.l r16.2) (Us.b0 s) (Us.b1 s) (Us.b2 s) (Us.b3 s) (Us.b4 s) (Us.b5 s) (Us.b6 s) (Us.it s) (Us.ac s) (fun j => l_get [21, 22, 23, 24, 25, 26, 27] j) z) (show r_v [39, 40, 42] (Lg.tp (Ld.l r16.2)) = .ref 42 from by rw [ef_read er16]; rfl)).trans rfl)) ?_
        refine And.intro True.intro ?_
        refine And.intro (fun c17 => ?_) (fun c17 => ?_)
        · skip
          refine hJ 75 _ _ _ ?_
          refine And.intro True.intro ?_
          exact And.intro True.intro (DPis (F := (fun z => hUs z)) (s' := (((Sc.kd (Sf.c (Us.nw s)), Sc.vv (Sf.c (Us.nw s)), Sc.kn (Sf.c (Us.nw s)), Sc.rw (Sf.c (Us.nw s)), Sc.le (Sf.c (Us.nw s)), Sc.sz (Sf.c (Us.nw s)), Sc.ou (Sf.c (Us.nw s)), Sc.ti (Sf.c (Us.nw s)), nI 0, (Sc.lg (Sf.c (Us.nw s)) + nI 1)), Ld.ta r16.2, Sf.se (Us.nw s), Sf.pl (Us.nw s), Sf.bk (Us.nw s)), Us.kp s, Us.ah s, Us.h s, Us.k0 s, Us.k1 s, Us.k2 s, Us.k3 s, Us.k4 s, Us.k5 s, Us.k6 s, Us.st s, Us.l0 s, Us.l1 s, Us.l2 s, Us.l3 s, Us.l4 s, (Lg.st (Ld.l r16.2), Lg.sz (Ld.l r16.2), Lg.ke (Ld.l r16.2), Lg.pa (Ld.l r16.2), (Value.ref 42), Lg.sg (Ld.l r16.2), Lg.at (Ld.l r16.2), Lg.si (Ld.l r16.2), Lg.te (Ld.l r16.2), Lg.nu (Ld.l r16.2)), Us.b0 s, Us.b1 s, Us.b2 s, Us.b3 s, Us.b4 s, Us.b5 s, Us.b6 s, Us.it s, Us.ac s)) ((if_neg c1).trans ((if_pos c2).trans ((if_neg (fun q => absurd (hk7.symm.trans q) (by decide))).trans ((if_neg (fun q => absurd (hk7.symm.trans q) (by decide))).trans ((if_neg (fun q => absurd (hk7.symm.trans q) (by decide))).trans ((if_neg (fun q => absurd (hk7.symm.trans q) (by decide))).trans ((bindv_eq er16).trans (if_pos c17)))))))))
        · skip
          exact And.intro True.intro (DPis (F := (fun z => hUs z)) (s' := (((Sc.kd (Sf.c (Us.nw s)), Sc.vv (Sf.c (Us.nw s)), Sc.kn (Sf.c (Us.nw s)), Sc.rw (Sf.c (Us.nw s)), Sc.le (Sf.c (Us.nw s)), Sc.sz (Sf.c (Us.nw s)), Sc.ou (Sf.c (Us.nw s)), Sc.ti (Sf.c (Us.nw s)), nI 0, Sc.lg (Sf.c (Us.nw s))), Ld.ta r16.2, Sf.se (Us.nw s), Sf.pl (Us.nw s), Sf.bk (Us.nw s)), Us.kp s, Us.ah s, Us.h s, Us.k0 s, Us.k1 s, Us.k2 s, Us.k3 s, Us.k4 s, Us.k5 s, Us.k6 s, Us.st s, Us.l0 s, Us.l1 s, Us.l2 s, Us.l3 s, Us.l4 s, (Lg.st (Ld.l r16.2), Lg.sz (Ld.l r16.2), Lg.ke (Ld.l r16.2), Lg.pa (Ld.l r16.2), (Value.ref 42), Lg.sg (Ld.l r16.2), Lg.at (Ld.l r16.2), Lg.si (Ld.l r16.2), Lg.te (Ld.l r16.2), Lg.nu (Ld.l r16.2)), Us.b0 s, Us.b1 s, Us.b2 s, Us.b3 s, Us.b4 s, Us.b5 s, Us.b6 s, Us.it s, Us.ac s)) ((if_neg c1).trans ((if_pos c2).trans ((if_neg (fun q => absurd (hk7.symm.trans q) (by decide))).trans ((if_neg (fun q => absurd (hk7.symm.trans q) (by decide))).trans ((if_neg (fun q => absurd (hk7.symm.trans q) (by decide))).trans ((if_neg (fun q => absurd (hk7.symm.trans q) (by decide))).trans ((bindv_eq er16).trans (if_neg c17)))))))))
    · skip
      exact And.intro True.intro (DPis (F := (fun z => hUs z)) (s' := s) ((if_neg c1).trans (if_neg c2)))
set_option maxRecDepth 100000 in
set_option maxHeartbeats 400000 in
theorem c_X1_kindOf_u0 (l : Launch) {fv : Value} (hf : FV fv) (s : Us) (x : Int32) (hk : x = nI 0) : CT l fv 1 jX1_kindOf [.ref 19, .int x] (hUs s) (DP (some (.ref 21)) (hUs s)) := by
  refine CT_of [] mt_X1_kindOf (by decide +kernel) (tab_X1 hf) okX1_kindOf (Nat.le_of_ble_eq_true rfl) ?_
  intro J hJ hD
  refine hJ 0 _ _ _ ?_
  refine And.intro (fun c1 => absurd c1 (by rw [hk]; decide)) (fun c1 => ?_)
  refine And.intro (fun c2 => absurd c2 (by rw [hk]; decide)) (fun c2 => ?_)
  refine ⟨Or.inr rfl, by rw [hk]; exact vp_in_nI (by decide) (by decide), 21, by rw [hk]; rfl, ?_⟩
  refine hJ 26 _ _ _ ?_
  refine hJ 38 _ _ _ ?_
  exact And.intro ⟨_, rfl⟩ ⟨rfl, rfl⟩
set_option maxRecDepth 100000 in
set_option maxHeartbeats 400000 in
theorem c_X1_kindOf_u1 (l : Launch) {fv : Value} (hf : FV fv) (s : Us) (x : Int32) (hk : x = nI 1) : CT l fv 1 jX1_kindOf [.ref 19, .int x] (hUs s) (DP (some (.ref 22)) (hUs s)) := by
  refine CT_of [] mt_X1_kindOf (by decide +kernel) (tab_X1 hf) okX1_kindOf (Nat.le_of_ble_eq_true rfl) ?_
  intro J hJ hD
  refine hJ 0 _ _ _ ?_
  refine And.intro (fun c1 => absurd c1 (by rw [hk]; decide)) (fun c1 => ?_)
  refine And.intro (fun c2 => absurd c2 (by rw [hk]; decide)) (fun c2 => ?_)
  refine ⟨Or.inr rfl, by rw [hk]; exact vp_in_nI (by decide) (by decide), 22, by rw [hk]; rfl, ?_⟩
  refine hJ 26 _ _ _ ?_
  refine hJ 38 _ _ _ ?_
  exact And.intro ⟨_, rfl⟩ ⟨rfl, rfl⟩
set_option maxRecDepth 100000 in
set_option maxHeartbeats 400000 in
theorem c_X1_kindOf_u2 (l : Launch) {fv : Value} (hf : FV fv) (s : Us) (x : Int32) (hk : x = nI 2) : CT l fv 1 jX1_kindOf [.ref 19, .int x] (hUs s) (DP (some (.ref 23)) (hUs s)) := by
  refine CT_of [] mt_X1_kindOf (by decide +kernel) (tab_X1 hf) okX1_kindOf (Nat.le_of_ble_eq_true rfl) ?_
  intro J hJ hD
  refine hJ 0 _ _ _ ?_
  refine And.intro (fun c1 => absurd c1 (by rw [hk]; decide)) (fun c1 => ?_)
  refine And.intro (fun c2 => absurd c2 (by rw [hk]; decide)) (fun c2 => ?_)
  refine ⟨Or.inr rfl, by rw [hk]; exact vp_in_nI (by decide) (by decide), 23, by rw [hk]; rfl, ?_⟩
  refine hJ 26 _ _ _ ?_
  refine hJ 38 _ _ _ ?_
  exact And.intro ⟨_, rfl⟩ ⟨rfl, rfl⟩
set_option maxRecDepth 100000 in
set_option maxHeartbeats 400000 in
theorem c_X1_kindOf_u3 (l : Launch) {fv : Value} (hf : FV fv) (s : Us) (x : Int32) (hk : x = nI 3) : CT l fv 1 jX1_kindOf [.ref 19, .int x] (hUs s) (DP (some (.ref 24)) (hUs s)) := by
  refine CT_of [] mt_X1_kindOf (by decide +kernel) (tab_X1 hf) okX1_kindOf (Nat.le_of_ble_eq_true rfl) ?_
  intro J hJ hD
  refine hJ 0 _ _ _ ?_
  refine And.intro (fun c1 => absurd c1 (by rw [hk]; decide)) (fun c1 => ?_)
  refine And.intro (fun c2 => absurd c2 (by rw [hk]; decide)) (fun c2 => ?_)
  refine ⟨Or.inr rfl, by rw [hk]; exact vp_in_nI (by decide) (by decide), 24, by rw [hk]; rfl, ?_⟩
  refine hJ 26 _ _ _ ?_
  refine hJ 38 _ _ _ ?_
  exact And.intro ⟨_, rfl⟩ ⟨rfl, rfl⟩
set_option maxRecDepth 100000 in
set_option maxHeartbeats 400000 in
theorem c_X1_kindOf_u4 (l : Launch) {fv : Value} (hf : FV fv) (s : Us) (x : Int32) (hk : x = nI 4) : CT l fv 1 jX1_kindOf [.ref 19, .int x] (hUs s) (DP (some (.ref 25)) (hUs s)) := by
  refine CT_of [] mt_X1_kindOf (by decide +kernel) (tab_X1 hf) okX1_kindOf (Nat.le_of_ble_eq_true rfl) ?_
  intro J hJ hD
  refine hJ 0 _ _ _ ?_
  refine And.intro (fun c1 => absurd c1 (by rw [hk]; decide)) (fun c1 => ?_)
  refine And.intro (fun c2 => absurd c2 (by rw [hk]; decide)) (fun c2 => ?_)
  refine ⟨Or.inr rfl, by rw [hk]; exact vp_in_nI (by decide) (by decide), 25, by rw [hk]; rfl, ?_⟩
  refine hJ 26 _ _ _ ?_
  refine hJ 38 _ _ _ ?_
  exact And.intro ⟨_, rfl⟩ ⟨rfl, rfl⟩
set_option maxRecDepth 100000 in
set_option maxHeartbeats 400000 in
theorem c_X1_kindOf_u5 (l : Launch) {fv : Value} (hf : FV fv) (s : Us) (x : Int32) (hk : x = nI 5) : CT l fv 1 jX1_kindOf [.ref 19, .int x] (hUs s) (DP (some (.ref 26)) (hUs s)) := by
  refine CT_of [] mt_X1_kindOf (by decide +kernel) (tab_X1 hf) okX1_kindOf (Nat.le_of_ble_eq_true rfl) ?_
  intro J hJ hD
  refine hJ 0 _ _ _ ?_
  refine And.intro (fun c1 => absurd c1 (by rw [hk]; decide)) (fun c1 => ?_)
  refine And.intro (fun c2 => absurd c2 (by rw [hk]; decide)) (fun c2 => ?_)
  refine ⟨Or.inr rfl, by rw [hk]; exact vp_in_nI (by decide) (by decide), 26, by rw [hk]; rfl, ?_⟩
  refine hJ 26 _ _ _ ?_
  refine hJ 38 _ _ _ ?_
  exact And.intro ⟨_, rfl⟩ ⟨rfl, rfl⟩
set_option maxRecDepth 100000 in
set_option maxHeartbeats 400000 in
theorem c_X1_kindOf_u6 (l : Launch) {fv : Value} (hf : FV fv) (s : Us) (x : Int32) (hk : x = nI 6) : CT l fv 1 jX1_kindOf [.ref 19, .int x] (hUs s) (DP (some (.ref 27)) (hUs s)) := by
  refine CT_of [] mt_X1_kindOf (by decide +kernel) (tab_X1 hf) okX1_kindOf (Nat.le_of_ble_eq_true rfl) ?_
  intro J hJ hD
  refine hJ 0 _ _ _ ?_
  refine And.intro (fun c1 => absurd c1 (by rw [hk]; decide)) (fun c1 => ?_)
  refine And.intro (fun c2 => absurd c2 (by rw [hk]; decide)) (fun c2 => ?_)
  refine ⟨Or.inr rfl, by rw [hk]; exact vp_in_nI (by decide) (by decide), 27, by rw [hk]; rfl, ?_⟩
  refine hJ 26 _ _ _ ?_
  refine hJ 38 _ _ _ ?_
  exact And.intro ⟨_, rfl⟩ ⟨rfl, rfl⟩
def m_X11_act (s : Us) (u : Int32) (a : Int32) (x : Int32) : Int32 × Us := if (m_X7_has (Sc.sz (Sf.c (Us.nw s))) u) = 0 then (nI 0, (Us.nw s, Us.kp s, Us.ah s, Us.h s, Us.k0 s, Us.k1 s, Us.k2 s, Us.k3 s, Us.k4 s, Us.k5 s, Us.k6 s, Us.st s, Us.l0 s, Us.l1 s, Us.l2 s, Us.l3 s, Us.l4 s, Us.l5 s, Us.b0 s, Us.b1 s, Us.b2 s, Us.b3 s, Us.b4 s, Us.b5 s, Us.b6 s, Us.it s, Value.null)) else (if a < 0 then (nI 0, (Us.nw s, Us.kp s, Us.ah s, Us.h s, Us.k0 s, Us.k1 s, Us.k2 s, Us.k3 s, Us.k4 s, Us.k5 s, Us.k6 s, Us.st s, Us.l0 s, Us.l1 s, Us.l2 s, Us.l3 s, Us.l4 s, Us.l5 s, Us.b0 s, Us.b1 s, Us.b2 s, Us.b3 s, Us.b4 s, Us.b5 s, Us.b6 s, Us.it s, Value.null)) else (if a ≤ nI 2 then (if (Sc.kd (Sf.c (Us.nw s)) u.toNatClampNeg) = nI 0 then (bindv (m_X10_wake_c10 (Us.k0 s, Us.b0 s) u (Sc.vv (Sf.c (Us.nw s)) u.toNatClampNeg)) (fun r11 => if a = 0 then (bindv (m_X10_leans_c10 r11 x) (fun r16 => (r16.1, (Us.nw s, Us.kp s, Us.ah s, Us.h s, Ut.u r16.2, Us.k1 s, Us.k2 s, Us.k3 s, Us.k4 s, Us.k5 s, Us.k6 s, Us.st s, Us.l0 s, Us.l1 s, Us.l2 s, Us.l3 s, Us.l4 s, Us.l5 s, Ut.bo r16.2, Us.b1 s, Us.b2 s, Us.b3 s, Us.b4 s, Us.b5 s, Us.b6 s, Us.it s, (Value.ref 21))))) else (if a = nI 1 then (bindv (m_X10_says_c10 r11 x) (fun r15 => (r15.1, (Us.nw s, Us.kp s, Us.ah s, Us.h s, Ut.u r15.2, Us.k1 s, Us.k2 s, Us.k3 s, Us.k4 s, Us.k5 s, Us.k6 s, Us.st s, Us.l0 s, Us.l1 s, Us.l2 s, Us.l3 s, Us.l4 s, Us.l5 s, Ut.bo r15.2, Us.b1 s, Us.b2 s, Us.b3 s, Us.b4 s, Us.b5 s, Us.b6 s, Us.it s, (Value.ref 21))))) else (bindv (m_X10_bristles_c10 r11 x) (fun r14 => (r14.1, (Us.nw s, Us.kp s, Us.ah s, Us.h s, Ut.u r14.2, Us.k1 s, Us.k2 s, Us.k3 s, Us.k4 s, Us.k5 s, Us.k6 s, Us.st s, Us.l0 s, Us.l1 s, Us.l2 s, Us.l3 s, Us.l4 s, Us.l5 s, Ut.bo r14.2, Us.b1 s, Us.b2 s, Us.b3 s, Us.b4 s, Us.b5 s, Us.b6 s, Us.it s, (Value.ref 21)))))))) else (if (Sc.kd (Sf.c (Us.nw s)) u.toNatClampNeg) = nI 1 then (bindv (m_X10_wake_c3 (Us.k1 s, Us.b1 s) u (Sc.vv (Sf.c (Us.nw s)) u.toNatClampNeg)) (fun r17 => if a = 0 then (bindv (m_X3_leans_c3 r17 x) (fun r22 => (r22.1, (Us.nw s, Us.kp s, Us.ah s, Us.h s, Us.k0 s, Ut.u r22.2, Us.k2 s, Us.k3 s, Us.k4 s, Us.k5 s, Us.k6 s, Us.st s, Us.l0 s, Us.l1 s, Us.l2 s, Us.l3 s, Us.l4 s, Us.l5 s, Us.b0 s, Ut.bo r22.2, Us.b2 s, Us.b3 s, Us.b4 s, Us.b5 s, Us.b6 s, Us.it s, (Value.ref 22))))) else (if a = nI 1 then (bindv (m_X10_says_c3 r17 x) (fun r21 => (r21.1, (Us.nw s, Us.kp s, Us.ah s, Us.h s, Us.k0 s, Ut.u r21.2, Us.k2 s, Us.k3 s, Us.k4 s, Us.k5 s, Us.k6 s, Us.st s, Us.l0 s, Us.l1 s, Us.l2 s, Us.l3 s, Us.l4 s, Us.l5 s, Us.b0 s, Ut.bo r21.2, Us.b2 s, Us.b3 s, Us.b4 s, Us.b5 s, Us.b6 s, Us.it s, (Value.ref 22))))) else (bindv (m_X10_bristles_c3 r17 x) (fun r20 => (r20.1, (Us.nw s, Us.kp s, Us.ah s, Us.h s, Us.k0 s, Ut.u r20.2, Us.k2 s, Us.k3 s, Us.k4 s, Us.k5 s, Us.k6 s, Us.st s, Us.l0 s, Us.l1 s, Us.l2 s, Us.l3 s, Us.l4 s, Us.l5 s, Us.b0 s, Ut.bo r20.2, Us.b2 s, Us.b3 s, Us.b4 s, Us.b5 s, Us.b6 s, Us.it s, (Value.ref 22)))))))) else (if (Sc.kd (Sf.c (Us.nw s)) u.toNatClampNeg) = nI 2 then (bindv (m_X10_wake_c2 (Us.k2 s, Us.b2 s) u (Sc.vv (Sf.c (Us.nw s)) u.toNatClampNeg)) (fun r23 => if a = 0 then (bindv (m_X10_leans_c2 r23 x) (fun r28 => (r28.1, (Us.nw s, Us.kp s, Us.ah s, Us.h s, Us.k0 s, Us.k1 s, Ut.u r28.2, Us.k3 s, Us.k4 s, Us.k5 s, Us.k6 s, Us.st s, Us.l0 s, Us.l1 s, Us.l2 s, Us.l3 s, Us.l4 s, Us.l5 s, Us.b0 s, Us.b1 s, Ut.bo r28.2, Us.b3 s, Us.b4 s, Us.b5 s, Us.b6 s, Us.it s, (Value.ref 23))))) else (if a = nI 1 then (bindv (m_X2_says_c2 r23 x) (fun r27 => (r27.1, (Us.nw s, Us.kp s, Us.ah s, Us.h s, Us.k0 s, Us.k1 s, Ut.u r27.2, Us.k3 s, Us.k4 s, Us.k5 s, Us.k6 s, Us.st s, Us.l0 s, Us.l1 s, Us.l2 s, Us.l3 s, Us.l4 s, Us.l5 s, Us.b0 s, Us.b1 s, Ut.bo r27.2, Us.b3 s, Us.b4 s, Us.b5 s, Us.b6 s, Us.it s, (Value.ref 23))))) else (bindv (m_X10_bristles_c2 r23 x) (fun r26 => (r26.1, (Us.nw s, Us.kp s, Us.ah s, Us.h s, Us.k0 s, Us.k1 s, Ut.u r26.2, Us.k3 s, Us.k4 s, Us.k5 s, Us.k6 s, Us.st s, Us.l0 s, Us.l1 s, Us.l2 s, Us.l3 s, Us.l4 s, Us.l5 s, Us.b0 s, Us.b1 s, Ut.bo r26.2, Us.b3 s, Us.b4 s, Us.b5 s, Us.b6 s, Us.it s, (Value.ref 23)))))))) else (if (Sc.kd (Sf.c (Us.nw s)) u.toNatClampNeg) = nI 3 then (bindv (m_X10_wake_c0 (Us.k3 s, Us.b3 s) u (Sc.vv (Sf.c (Us.nw s)) u.toNatClampNeg)) (fun r29 => if a = 0 then (bindv (m_X10_leans_c0 r29 x) (fun r34 => (r34.1, (Us.nw s, Us.kp s, Us.ah s, Us.h s, Us.k0 s, Us.k1 s, Us.k2 s, Ut.u r34.2, Us.k4 s, Us.k5 s, Us.k6 s, Us.st s, Us.l0 s, Us.l1 s, Us.l2 s, Us.l3 s, Us.l4 s, Us.l5 s, Us.b0 s, Us.b1 s, Us.b2 s, Ut.bo r34.2, Us.b4 s, Us.b5 s, Us.b6 s, Us.it s, (Value.ref 24))))) else (if a = nI 1 then (bindv (m_X10_says_c0 r29 x) (fun r33 => (r33.1, (Us.nw s, Us.kp s, Us.ah s, Us.h s, Us.k0 s, Us.k1 s, Us.k2 s, Ut.u r33.2, Us.k4 s, Us.k5 s, Us.k6 s, Us.st s, Us.l0 s, Us.l1 s, Us.l2 s, Us.l3 s, Us.l4 s, Us.l5 s, Us.b0 s, Us.b1 s, Us.b2 s, Ut.bo r33.2, Us.b4 s, Us.b5 s, Us.b6 s, Us.it s, (Value.ref 24))))) else (bindv (m_X0_bristles_c0 r29 x) (fun r32 => (r32.1, (Us.nw s, Us.kp s, Us.ah s, Us.h s, Us.k0 s, Us.k1 s, Us.k2 s, Ut.u r32.2, Us.k4 s, Us.k5 s, Us.k6 s, Us.st s, Us.l0 s, Us.l1 s, Us.l2 s, Us.l3 s, Us.l4 s, Us.l5 s, Us.b0 s, Us.b1 s, Us.b2 s, Ut.bo r32.2, Us.b4 s, Us.b5 s, Us.b6 s, Us.it s, (Value.ref 24)))))))) else (if (Sc.kd (Sf.c (Us.nw s)) u.toNatClampNeg) = nI 4 then (bindv (m_X10_wake_c5 (Us.k4 s, Us.b4 s) u (Sc.vv (Sf.c (Us.nw s)) u.toNatClampNeg)) (fun r35 => if a = 0 then (bindv (m_X3_leans_c5 r35 x) (fun r40 => (r40.1, (Us.nw s, Us.kp s, Us.ah s, Us.h s, Us.k0 s, Us.k1 s, Us.k2 s, Us.k3 s, Ut.u r40.2, Us.k5 s, Us.k6 s, Us.st s, Us.l0 s, Us.l1 s, Us.l2 s, Us.l3 s, Us.l4 s, Us.l5 s, Us.b0 s, Us.b1 s, Us.b2 s, Us.b3 s, Ut.bo r40.2, Us.b5 s, Us.b6 s, Us.it s, (Value.ref 25))))) else (if a = nI 1 then (bindv (m_X10_says_c5 r35 x) (fun r39 => (r39.1, (Us.nw s, Us.kp s, Us.ah s, Us.h s, Us.k0 s, Us.k1 s, Us.k2 s, Us.k3 s, Ut.u r39.2, Us.k5 s, Us.k6 s, Us.st s, Us.l0 s, Us.l1 s, Us.l2 s, Us.l3 s, Us.l4 s, Us.l5 s, Us.b0 s, Us.b1 s, Us.b2 s, Us.b3 s, Ut.bo r39.2, Us.b5 s, Us.b6 s, Us.it s, (Value.ref 25))))) else (bindv (m_X5_bristles_c5 r35 x) (fun r38 => (r38.1, (Us.nw s, Us.kp s, Us.ah s, Us.h s, Us.k0 s, Us.k1 s, Us.k2 s, Us.k3 s, Ut.u r38.2, Us.k5 s, Us.k6 s, Us.st s, Us.l0 s, Us.l1 s, Us.l2 s, Us.l3 s, Us.l4 s, Us.l5 s, Us.b0 s, Us.b1 s, Us.b2 s, Us.b3 s, Ut.bo r38.2, Us.b5 s, Us.b6 s, Us.it s, (Value.ref 25)))))))) else (if (Sc.kd (Sf.c (Us.nw s)) u.toNatClampNeg) = nI 5 then (bindv (m_X10_wake_c6 (Us.k5 s, Us.b5 s) u (Sc.vv (Sf.c (Us.nw s)) u.toNatClampNeg)) (fun r41 => if a = 0 then (bindv (m_X6_leans_c6 r41 x) (fun r46 => (r46.1, (Us.nw s, Us.kp s, Us.ah s, Us.h s, Us.k0 s, Us.k1 s, Us.k2 s, Us.k3 s, Us.k4 s, Ut.u r46.2, Us.k6 s, Us.st s, Us.l0 s, Us.l1 s, Us.l2 s, Us.l3 s, Us.l4 s, Us.l5 s, Us.b0 s, Us.b1 s, Us.b2 s, Us.b3 s, Us.b4 s, Ut.bo r46.2, Us.b6 s, Us.it s, (Value.ref 26))))) else (if a = nI 1 then (bindv (m_X2_says_c6 r41 x) (fun r45 => (r45.1, (Us.nw s, Us.kp s, Us.ah s, Us.h s, Us.k0 s, Us.k1 s, Us.k2 s, Us.k3 s, Us.k4 s, Ut.u r45.2, Us.k6 s, Us.st s, Us.l0 s, Us.l1 s, Us.l2 s, Us.l3 s, Us.l4 s, Us.l5 s, Us.b0 s, Us.b1 s, Us.b2 s, Us.b3 s, Us.b4 s, Ut.bo r45.2, Us.b6 s, Us.it s, (Value.ref 26))))) else (bindv (m_X10_bristles_c6 r41 x) (fun r44 => (r44.1, (Us.nw s, Us.kp s, Us.ah s, Us.h s, Us.k0 s, Us.k1 s, Us.k2 s, Us.k3 s, Us.k4 s, Ut.u r44.2, Us.k6 s, Us.st s, Us.l0 s, Us.l1 s, Us.l2 s, Us.l3 s, Us.l4 s, Us.l5 s, Us.b0 s, Us.b1 s, Us.b2 s, Us.b3 s, Us.b4 s, Ut.bo r44.2, Us.b6 s, Us.it s, (Value.ref 26)))))))) else (bindv (m_X10_wake_c9 (Us.k6 s, Us.b6 s) u (Sc.vv (Sf.c (Us.nw s)) u.toNatClampNeg)) (fun r47 => if a = 0 then (bindv (m_X10_leans_c9 r47 x) (fun r52 => (r52.1, (Us.nw s, Us.kp s, Us.ah s, Us.h s, Us.k0 s, Us.k1 s, Us.k2 s, Us.k3 s, Us.k4 s, Us.k5 s, Ut.u r52.2, Us.st s, Us.l0 s, Us.l1 s, Us.l2 s, Us.l3 s, Us.l4 s, Us.l5 s, Us.b0 s, Us.b1 s, Us.b2 s, Us.b3 s, Us.b4 s, Us.b5 s, Ut.bo r52.2, Us.it s, (Value.ref 27))))) else (if a = nI 1 then (bindv (m_X9_says_c9 r47 x) (fun r51 => (r51.1, (Us.nw s, Us.kp s, Us.ah s, Us.h s, Us.k0 s, Us.k1 s, Us.k2 s, Us.k3 s, Us.k4 s, Us.k5 s, Ut.u r51.2, Us.st s, Us.l0 s, Us.l1 s, Us.l2 s, Us.l3 s, Us.l4 s, Us.l5 s, Us.b0 s, Us.b1 s, Us.b2 s, Us.b3 s, Us.b4 s, Us.b5 s, Ut.bo r51.2, Us.it s, (Value.ref 27))))) else (bindv (m_X0_bristles_c9 r47 x) (fun r50 => (r50.1, (Us.nw s, Us.kp s, Us.ah s, Us.h s, Us.k0 s, Us.k1 s, Us.k2 s, Us.k3 s, Us.k4 s, Us.k5 s, Ut.u r50.2, Us.st s, Us.l0 s, Us.l1 s, Us.l2 s, Us.l3 s, Us.l4 s, Us.l5 s, Us.b0 s, Us.b1 s, Us.b2 s, Us.b3 s, Us.b4 s, Us.b5 s, Ut.bo r50.2, Us.it s, (Value.ref 27)))))))))))))) else (nI 0, (Us.nw s, Us.kp s, Us.ah s, Us.h s, Us.k0 s, Us.k1 s, Us.k2 s, Us.k3 s, Us.k4 s, Us.k5 s, Us.k6 s, Us.st s, Us.l0 s, Us.l1 s, Us.l2 s, Us.l3 s, Us.l4 s, Us.l5 s, Us.b0 s, Us.b1 s, Us.b2 s, Us.b3 s, Us.b4 s, Us.b5 s, Us.b6 s, Us.it s, Value.null))))
set_option maxRecDepth 100000 in
set_option maxHeartbeats 400000 in
theorem c_X11_act (l : Launch) {fv : Value} (hf : FV fv) (s : Us) (u : Int32) (a : Int32) (x : Int32) (hk9 : hK (Sc.sz (Sf.c (Us.nw s))) (Sc.kd (Sf.c (Us.nw s)))) : CT l fv 9 jX11_act [.ref 0, .int u, .int a, .int x] (hUs s) (DP (some (.int (m_X11_act s u a x).1)) (hUs ((m_X11_act s u a x).2))) := by
  refine CT_of [] mt_X11_act (by decide +kernel) (tab_X11 hf) okX11_act (Nat.le_of_ble_eq_true rfl) ?_
  intro J hJ hD
  refine hJ 0 _ _ _ ?_
  refine CALL_sub (r := some (.int (m_X7_has (Sc.sz (Sf.c (Us.nw s))) u))) (h' := wUs (Us.nw s) (Us.kp s) (Us.ah s) (Us.h s) (Us.k0 s) (Us.k1 s) (Us.k2 s) (Us.k3 s) (Us.k4 s) (Us.k5 s) (Us.k6 s) (Us.st s) (Us.l0 s) (Us.l1 s) (Us.l2 s) (Us.l3 s) (Us.l4 s) (Us.l5 s) (Us.b0 s) (Us.b1 s) (Us.b2 s) (Us.b3 s) (Us.b4 s) (Us.b5 s) (Us.b6 s) (Us.it s) Value.null) [1, 2, 3, 4, 5, 6] (by decide) (c_X7_has l hf (Sf.c (Us.nw s)) 42 45 47 49 u) rfl rfl (by decide) (by decide) rfl ?_
  refine And.intro (fun c1 => ?_) (fun c1 => ?_)
  · skip
    refine hJ 25 _ _ _ ?_
    exact And.intro True.intro (DPis (F := (fun z => hUs z)) (s' := (Us.nw s, Us.kp s, Us.ah s, Us.h s, Us.k0 s, Us.k1 s, Us.k2 s, Us.k3 s, Us.k4 s, Us.k5 s, Us.k6 s, Us.st s, Us.l0 s, Us.l1 s, Us.l2 s, Us.l3 s, Us.l4 s, Us.l5 s, Us.b0 s, Us.b1 s, Us.b2 s, Us.b3 s, Us.b4 s, Us.b5 s, Us.b6 s, Us.it s, Value.null)) (if_pos c1))
  · skip
    have hi := c1
    refine And.intro (fun c2 => ?_) (fun c2 => ?_)
    · skip
      refine hJ 25 _ _ _ ?_
      exact And.intro True.intro (DPis (F := (fun z => hUs z)) (s' := (Us.nw s, Us.kp s, Us.ah s, Us.h s, Us.k0 s, Us.k1 s, Us.k2 s, Us.k3 s, Us.k4 s, Us.k5 s, Us.k6 s, Us.st s, Us.l0 s, Us.l1 s, Us.l2 s, Us.l3 s, Us.l4 s, Us.l5 s, Us.b0 s, Us.b1 s, Us.b2 s, Us.b3 s, Us.b4 s, Us.b5 s, Us.b6 s, Us.it s, Value.null)) ((if_neg c1).trans (if_pos c2)))
    · skip
      refine And.intro (fun c3 => ?_) (fun c3 => ?_)
      · skip
        refine hJ 27 _ _ _ ?_
        refine And.intro (has_of hi) ?_
        rcases (or7 (x := (Sc.kd (Sf.c (Us.nw s)) u.toNatClampNeg)) (hk9 _ hi)) with hk4 | hk5 | hk6 | hk7 | hk8 | hk9 | hk10
        · skip
          refine CALL_same (r := some (.ref 21)) (h1 := wUs (Us.nw s) (Us.kp s) (Us.ah s) (Us.h s) (Us.k0 s) (Us.k1 s) (Us.k2 s) (Us.k3 s) (Us.k4 s) (Us.k5 s) (Us.k6 s) (Us.st s) (Us.l0 s) (Us.l1 s) (Us.l2 s) (Us.l3 s) (Us.l4 s) (Us.l5 s) (Us.b0 s) (Us.b1 s) (Us.b2 s) (Us.b3 s) (Us.b4 s) (Us.b5 s) (Us.b6 s) (Us.it s) Value.null) (by decide) (c_X1_kindOf_u0 l hf (Us.nw s, Us.kp s, Us.ah s, Us.h s, Us.k0 s, Us.k1 s, Us.k2 s, Us.k3 s, Us.k4 s, Us.k5 s, Us.k6 s, Us.st s, Us.l0 s, Us.l1 s, Us.l2 s, Us.l3 s, Us.l4 s, Us.l5 s, Us.b0 s, Us.b1 s, Us.b2 s, Us.b3 s, Us.b4 s, Us.b5 s, Us.b6 s, Us.it s, Value.null) (Sc.kd (Sf.c (Us.nw s)) u.toNatClampNeg) hk4) ?_
          refine And.intro (has_of hi) ?_
          obtain ⟨r11, er11⟩ : ∃ z : Ut, m_X10_wake_c10 (Us.k0 s, Us.b0 s) u (Sc.vv (Sf.c (Us.nw s)) u.toNatClampNeg) = z := ⟨_, rfl⟩
          have hr11 := c_X10_wake_c10 l hf (Us.k0 s, Us.b0 s) u (Sc.vv (Sf.c (Us.nw s)) u.toNatClampNeg)
          rw [er11] at hr11
          refine CALL_sub (r := none) (h' := wUs (Us.nw s) (Us.kp s) (Us.ah s) (Us.h s) (Ut.u r11) (Us.k1 s) (Us.k2 s) (Us.k3 s) (Us.k4 s) (Us.k5 s) (Us.k6 s) (Us.st s) (Us.l0 s) (Us.l1 s) (Us.l2 s) (Us.l3 s) (Us.l4 s) (Us.l5 s) (Ut.bo r11) (Us.b1 s) (Us.b2 s) (Us.b3 s) (Us.b4 s) (Us.b5 s) (Us.b6 s) (Us.it s) Value.null) [21, 63] (by decide) (hr11) rfl rfl (by decide) (by decide) rfl ?_
          refine And.intro (fun c12 => ?_) (fun c12 => ?_)
          · skip
            refine hJ 77 _ _ _ ?_
            refine And.intro (fun c13 => ?_) (fun c13 => ?_)
            · skip
              refine hJ 91 _ _ _ ?_
              obtain ⟨r14, er14⟩ : ∃ z : Int32 × Ut, m_X10_bristles_c10 r11 x = z := ⟨_, rfl⟩
              have hr14 := c_X10_bristles_c10 l hf r11 x
              rw [er14] at hr14
              refine CALL_sub (r := some (.int r14.1)) (h' := wUs (Us.nw s) (Us.kp s) (Us.ah s) (Us.h s) (Ut.u r14.2) (Us.k1 s) (Us.k2 s) (Us.k3 s) (Us.k4 s) (Us.k5 s) (Us.k6 s) (Us.st s) (Us.l0 s) (Us.l1 s) (Us.l2 s) (Us.l3 s) (Us.l4 s) (Us.l5 s) (Ut.bo r14.2) (Us.b1 s) (Us.b2 s) (Us.b3 s) (Us.b4 s) (Us.b5 s) (Us.b6 s) (Us.it s) (Value.ref 21)) [21, 63] (by decide) (hr14) rfl rfl (by decide) (by decide) rfl ?_
              exact And.intro True.intro (DPis (F := (fun z => hUs z)) (s' := (Us.nw s, Us.kp s, Us.ah s, Us.h s, Ut.u r14.2, Us.k1 s, Us.k2 s, Us.k3 s, Us.k4 s, Us.k5 s, Us.k6 s, Us.st s, Us.l0 s, Us.l1 s, Us.l2 s, Us.l3 s, Us.l4 s, Us.l5 s, Ut.bo r14.2, Us.b1 s, Us.b2 s, Us.b3 s, Us.b4 s, Us.b5 s, Us.b6 s, Us.it s, (Value.ref 21))) ((if_neg c1).trans ((if_neg c2).trans ((if_pos c3).trans ((if_pos hk4).trans ((bindv_eq er11).trans ((if_neg c12).trans ((if_neg c13).trans (bindv_eq er14)))))))))
            · skip
              obtain ⟨r15, er15⟩ : ∃ z : Int32 × Ut, m_X10_says_c10 r11 x = z := ⟨_, rfl⟩
              have hr15 := c_X10_says_c10 l hf r11 x
              rw [er15] at hr15
              refine CALL_sub (r := some (.int r15.1)) (h' := wUs (Us.nw s) (Us.kp s) (Us.ah s) (Us.h s) (Ut.u r15.2) (Us.k1 s) (Us.k2 s) (Us.k3 s) (Us.k4 s) (Us.k5 s) (Us.k6 s) (Us.st s) (Us.l0 s) (Us.l1 s) (Us.l2 s) (Us.l3 s) (Us.l4 s) (Us.l5 s) (Ut.bo r15.2) (Us.b1 s) (Us.b2 s) (Us.b3 s) (Us.b4 s) (Us.b5 s) (Us.b6 s) (Us.it s) (Value.ref 21)) [21, 63] (by decide) (hr15) rfl rfl (by decide) (by decide) rfl ?_
              refine hJ 97 _ _ _ ?_
              exact And.intro True.intro (DPis (F := (fun z => hUs z)) (s' := (Us.nw s, Us.kp s, Us.ah s, Us.h s, Ut.u r15.2, Us.k1 s, Us.k2 s, Us.k3 s, Us.k4 s, Us.k5 s, Us.k6 s, Us.st s, Us.l0 s, Us.l1 s, Us.l2 s, Us.l3 s, Us.l4 s, Us.l5 s, Ut.bo r15.2, Us.b1 s, Us.b2 s, Us.b3 s, Us.b4 s, Us.b5 s, Us.b6 s, Us.it s, (Value.ref 21))) ((if_neg c1).trans ((if_neg c2).trans ((if_pos c3).trans ((if_pos hk4).trans ((bindv_eq er11).trans ((if_neg c12).trans ((if_pos c13).trans (bindv_eq er15)))))))))
          · skip
            obtain ⟨r16, er16⟩ : ∃ z : Int32 × Ut, m_X10_leans_c10 r11 x = z := ⟨_, rfl⟩
            have hr16 := c_X10_leans_c10 l hf r11 x
            rw [er16] at hr16
            refine CALL_sub (r := some (.int r16.1)) (h' := wUs (Us.nw s) (Us.kp s) (Us.ah s) (Us.h s) (Ut.u r16.2) (Us.k1 s) (Us.k2 s) (Us.k3 s) (Us.k4 s) (Us.k5 s) (Us.k6 s) (Us.st s) (Us.l0 s) (Us.l1 s) (Us.l2 s) (Us.l3 s) (Us.l4 s) (Us.l5 s) (Ut.bo r16.2) (Us.b1 s) (Us.b2 s) (Us.b3 s) (Us.b4 s) (Us.b5 s) (Us.b6 s) (Us.it s) (Value.ref 21)) [21, 63] (by decide) (hr16) rfl rfl (by decide) (by decide) rfl ?_
            exact And.intro True.intro (DPis (F := (fun z => hUs z)) (s' := (Us.nw s, Us.kp s, Us.ah s, Us.h s, Ut.u r16.2, Us.k1 s, Us.k2 s, Us.k3 s, Us.k4 s, Us.k5 s, Us.k6 s, Us.st s, Us.l0 s, Us.l1 s, Us.l2 s, Us.l3 s, Us.l4 s, Us.l5 s, Ut.bo r16.2, Us.b1 s, Us.b2 s, Us.b3 s, Us.b4 s, Us.b5 s, Us.b6 s, Us.it s, (Value.ref 21))) ((if_neg c1).trans ((if_neg c2).trans ((if_pos c3).trans ((if_pos hk4).trans ((bindv_eq er11).trans ((if_pos c12).trans (bindv_eq er16))))))))
        · skip
          refine CALL_same (r := some (.ref 22)) (h1 := wUs (Us.nw s) (Us.kp s) (Us.ah s) (Us.h s) (Us.k0 s) (Us.k1 s) (Us.k2 s) (Us.k3 s) (Us.k4 s) (Us.k5 s) (Us.k6 s) (Us.st s) (Us.l0 s) (Us.l1 s) (Us.l2 s) (Us.l3 s) (Us.l4 s) (Us.l5 s) (Us.b0 s) (Us.b1 s) (Us.b2 s) (Us.b3 s) (Us.b4 s) (Us.b5 s) (Us.b6 s) (Us.it s) Value.null) (by decide) (c_X1_kindOf_u1 l hf (Us.nw s, Us.kp s, Us.ah s, Us.h s, Us.k0 s, Us.k1 s, Us.k2 s, Us.k3 s, Us.k4 s, Us.k5 s, Us.k6 s, Us.st s, Us.l0 s, Us.l1 s, Us.l2 s, Us.l3 s, Us.l4 s, Us.l5 s, Us.b0 s, Us.b1 s, Us.b2 s, Us.b3 s, Us.b4 s, Us.b5 s, Us.b6 s, Us.it s, Value.null) (Sc.kd (Sf.c (Us.nw s)) u.toNatClampNeg) hk5) ?_
          refine And.intro (has_of hi) ?_
          obtain ⟨r17, er17⟩ : ∃ z : Ut, m_X10_wake_c3 (Us.k1 s, Us.b1 s) u (Sc.vv (Sf.c (Us.nw s)) u.toNatClampNeg) = z := ⟨_, rfl⟩
          have hr17 := c_X10_wake_c3 l hf (Us.k1 s, Us.b1 s) u (Sc.vv (Sf.c (Us.nw s)) u.toNatClampNeg)
          rw [er17] at hr17
          refine CALL_sub (r := none) (h' := wUs (Us.nw s) (Us.kp s) (Us.ah s) (Us.h s) (Us.k0 s) (Ut.u r17) (Us.k2 s) (Us.k3 s) (Us.k4 s) (Us.k5 s) (Us.k6 s) (Us.st s) (Us.l0 s) (Us.l1 s) (Us.l2 s) (Us.l3 s) (Us.l4 s) (Us.l5 s) (Us.b0 s) (Ut.bo r17) (Us.b2 s) (Us.b3 s) (Us.b4 s) (Us.b5 s) (Us.b6 s) (Us.it s) Value.null) [22, 64] (by decide) (hr17) rfl rfl (by decide) (by decide) rfl ?_
          refine And.intro (fun c18 => ?_) (fun c18 => ?_)
          · skip
            refine hJ 77 _ _ _ ?_
            refine And.intro (fun c19 => ?_) (fun c19 => ?_)
            · skip
              refine hJ 91 _ _ _ ?_
              obtain ⟨r20, er20⟩ : ∃ z : Int32 × Ut, m_X10_bristles_c3 r17 x = z := ⟨_, rfl⟩
              have hr20 := c_X10_bristles_c3 l hf r17 x
              rw [er20] at hr20
              refine CALL_sub (r := some (.int r20.1)) (h' := wUs (Us.nw s) (Us.kp s) (Us.ah s) (Us.h s) (Us.k0 s) (Ut.u r20.2) (Us.k2 s) (Us.k3 s) (Us.k4 s) (Us.k5 s) (Us.k6 s) (Us.st s) (Us.l0 s) (Us.l1 s) (Us.l2 s) (Us.l3 s) (Us.l4 s) (Us.l5 s) (Us.b0 s) (Ut.bo r20.2) (Us.b2 s) (Us.b3 s) (Us.b4 s) (Us.b5 s) (Us.b6 s) (Us.it s) (Value.ref 22)) [22, 64] (by decide) (hr20) rfl rfl (by decide) (by decide) rfl ?_
              exact And.intro True.intro (DPis (F := (fun z => hUs z)) (s' := (Us.nw s, Us.kp s, Us.ah s, Us.h s, Us.k0 s, Ut.u r20.2, Us.k2 s, Us.k3 s, Us.k4 s, Us.k5 s, Us.k6 s, Us.st s, Us.l0 s, Us.l1 s, Us.l2 s, Us.l3 s, Us.l4 s, Us.l5 s, Us.b0 s, Ut.bo r20.2, Us.b2 s, Us.b3 s, Us.b4 s, Us.b5 s, Us.b6 s, Us.it s, (Value.ref 22))) ((if_neg c1).trans ((if_neg c2).trans ((if_pos c3).trans ((if_neg (fun q => absurd (hk5.symm.trans q) (by decide))).trans ((if_pos hk5).trans ((bindv_eq er17).trans ((if_neg c18).trans ((if_neg c19).trans (bindv_eq er20))))))))))
            · skip
              obtain ⟨r21, er21⟩ : ∃ z : Int32 × Ut, m_X10_says_c3 r17 x = z := ⟨_, rfl⟩
              have hr21 := c_X10_says_c3 l hf r17 x
              rw [er21] at hr21
              refine CALL_sub (r := some (.int r21.1)) (h' := wUs (Us.nw s) (Us.kp s) (Us.ah s) (Us.h s) (Us.k0 s) (Ut.u r21.2) (Us.k2 s) (Us.k3 s) (Us.k4 s) (Us.k5 s) (Us.k6 s) (Us.st s) (Us.l0 s) (Us.l1 s) (Us.l2 s) (Us.l3 s) (Us.l4 s) (Us.l5 s) (Us.b0 s) (Ut.bo r21.2) (Us.b2 s) (Us.b3 s) (Us.b4 s) (Us.b5 s) (Us.b6 s) (Us.it s) (Value.ref 22)) [22, 64] (by decide) (hr21) rfl rfl (by decide) (by decide) rfl ?_
              refine hJ 97 _ _ _ ?_
              exact And.intro True.intro (DPis (F := (fun z => hUs z)) (s' := (Us.nw s, Us.kp s, Us.ah s, Us.h s, Us.k0 s, Ut.u r21.2, Us.k2 s, Us.k3 s, Us.k4 s, Us.k5 s, Us.k6 s, Us.st s, Us.l0 s, Us.l1 s, Us.l2 s, Us.l3 s, Us.l4 s, Us.l5 s, Us.b0 s, Ut.bo r21.2, Us.b2 s, Us.b3 s, Us.b4 s, Us.b5 s, Us.b6 s, Us.it s, (Value.ref 22))) ((if_neg c1).trans ((if_neg c2).trans ((if_pos c3).trans ((if_neg (fun q => absurd (hk5.symm.trans q) (by decide))).trans ((if_pos hk5).trans ((bindv_eq er17).trans ((if_neg c18).trans ((if_pos c19).trans (bindv_eq er21))))))))))
          · skip
            obtain ⟨r22, er22⟩ : ∃ z : Int32 × Ut, m_X3_leans_c3 r17 x = z := ⟨_, rfl⟩
            have hr22 := c_X3_leans_c3 l hf r17 x
            rw [er22] at hr22
            refine CALL_sub (r := some (.int r22.1)) (h' := wUs (Us.nw s) (Us.kp s) (Us.ah s) (Us.h s) (Us.k0 s) (Ut.u r22.2) (Us.k2 s) (Us.k3 s) (Us.k4 s) (Us.k5 s) (Us.k6 s) (Us.st s) (Us.l0 s) (Us.l1 s) (Us.l2 s) (Us.l3 s) (Us.l4 s) (Us.l5 s) (Us.b0 s) (Ut.bo r22.2) (Us.b2 s) (Us.b3 s) (Us.b4 s) (Us.b5 s) (Us.b6 s) (Us.it s) (Value.ref 22)) [22, 64] (by decide) (hr22) rfl rfl (by decide) (by decide) rfl ?_
            exact And.intro True.intro (DPis (F := (fun z => hUs z)) (s' := (Us.nw s, Us.kp s, Us.ah s, Us.h s, Us.k0 s, Ut.u r22.2, Us.k2 s, Us.k3 s, Us.k4 s, Us.k5 s, Us.k6 s, Us.st s, Us.l0 s, Us.l1 s, Us.l2 s, Us.l3 s, Us.l4 s, Us.l5 s, Us.b0 s, Ut.bo r22.2, Us.b2 s, Us.b3 s, Us.b4 s, Us.b5 s, Us.b6 s, Us.it s, (Value.ref 22))) ((if_neg c1).trans ((if_neg c2).trans ((if_pos c3).trans ((if_neg (fun q => absurd (hk5.symm.trans q) (by decide))).trans ((if_pos hk5).trans ((bindv_eq er17).trans ((if_pos c18).trans (bindv_eq er22)))))))))
        · skip
          refine CALL_same (r := some (.ref 23)) (h1 := wUs (Us.nw s) (Us.kp s) (Us.ah s) (Us.h s) (Us.k0 s) (Us.k1 s) (Us.k2 s) (Us.k3 s) (Us.k4 s) (Us.k5 s) (Us.k6 s) (Us.st s) (Us.l0 s) (Us.l1 s) (Us.l2 s) (Us.l3 s) (Us.l4 s) (Us.l5 s) (Us.b0 s) (Us.b1 s) (Us.b2 s) (Us.b3 s) (Us.b4 s) (Us.b5 s) (Us.b6 s) (Us.it s) Value.null) (by decide) (c_X1_kindOf_u2 l hf (Us.nw s, Us.kp s, Us.ah s, Us.h s, Us.k0 s, Us.k1 s, Us.k2 s, Us.k3 s, Us.k4 s, Us.k5 s, Us.k6 s, Us.st s, Us.l0 s, Us.l1 s, Us.l2 s, Us.l3 s, Us.l4 s, Us.l5 s, Us.b0 s, Us.b1 s, Us.b2 s, Us.b3 s, Us.b4 s, Us.b5 s, Us.b6 s, Us.it s, Value.null) (Sc.kd (Sf.c (Us.nw s)) u.toNatClampNeg) hk6) ?_
          refine And.intro (has_of hi) ?_
          obtain ⟨r23, er23⟩ : ∃ z : Ut, m_X10_wake_c2 (Us.k2 s, Us.b2 s) u (Sc.vv (Sf.c (Us.nw s)) u.toNatClampNeg) = z := ⟨_, rfl⟩
          have hr23 := c_X10_wake_c2 l hf (Us.k2 s, Us.b2 s) u (Sc.vv (Sf.c (Us.nw s)) u.toNatClampNeg)
          rw [er23] at hr23
          refine CALL_sub (r := none) (h' := wUs (Us.nw s) (Us.kp s) (Us.ah s) (Us.h s) (Us.k0 s) (Us.k1 s) (Ut.u r23) (Us.k3 s) (Us.k4 s) (Us.k5 s) (Us.k6 s) (Us.st s) (Us.l0 s) (Us.l1 s) (Us.l2 s) (Us.l3 s) (Us.l4 s) (Us.l5 s) (Us.b0 s) (Us.b1 s) (Ut.bo r23) (Us.b3 s) (Us.b4 s) (Us.b5 s) (Us.b6 s) (Us.it s) Value.null) [23, 65] (by decide) (hr23) rfl rfl (by decide) (by decide) rfl ?_
          refine And.intro (fun c24 => ?_) (fun c24 => ?_)
          · skip
            refine hJ 77 _ _ _ ?_
            refine And.intro (fun c25 => ?_) (fun c25 => ?_)
            · skip
              refine hJ 91 _ _ _ ?_
              obtain ⟨r26, er26⟩ : ∃ z : Int32 × Ut, m_X10_bristles_c2 r23 x = z := ⟨_, rfl⟩
              have hr26 := c_X10_bristles_c2 l hf r23 x
              rw [er26] at hr26
              refine CALL_sub (r := some (.int r26.1)) (h' := wUs (Us.nw s) (Us.kp s) (Us.ah s) (Us.h s) (Us.k0 s) (Us.k1 s) (Ut.u r26.2) (Us.k3 s) (Us.k4 s) (Us.k5 s) (Us.k6 s) (Us.st s) (Us.l0 s) (Us.l1 s) (Us.l2 s) (Us.l3 s) (Us.l4 s) (Us.l5 s) (Us.b0 s) (Us.b1 s) (Ut.bo r26.2) (Us.b3 s) (Us.b4 s) (Us.b5 s) (Us.b6 s) (Us.it s) (Value.ref 23)) [23, 65] (by decide) (hr26) rfl rfl (by decide) (by decide) rfl ?_
              exact And.intro True.intro (DPis (F := (fun z => hUs z)) (s' := (Us.nw s, Us.kp s, Us.ah s, Us.h s, Us.k0 s, Us.k1 s, Ut.u r26.2, Us.k3 s, Us.k4 s, Us.k5 s, Us.k6 s, Us.st s, Us.l0 s, Us.l1 s, Us.l2 s, Us.l3 s, Us.l4 s, Us.l5 s, Us.b0 s, Us.b1 s, Ut.bo r26.2, Us.b3 s, Us.b4 s, Us.b5 s, Us.b6 s, Us.it s, (Value.ref 23))) ((if_neg c1).trans ((if_neg c2).trans ((if_pos c3).trans ((if_neg (fun q => absurd (hk6.symm.trans q) (by decide))).trans ((if_neg (fun q => absurd (hk6.symm.trans q) (by decide))).trans ((if_pos hk6).trans ((bindv_eq er23).trans ((if_neg c24).trans ((if_neg c25).trans (bindv_eq er26)))))))))))
            · skip
              obtain ⟨r27, er27⟩ : ∃ z : Int32 × Ut, m_X2_says_c2 r23 x = z := ⟨_, rfl⟩
              have hr27 := c_X2_says_c2 l hf r23 x
              rw [er27] at hr27
              refine CALL_sub (r := some (.int r27.1)) (h' := wUs (Us.nw s) (Us.kp s) (Us.ah s) (Us.h s) (Us.k0 s) (Us.k1 s) (Ut.u r27.2) (Us.k3 s) (Us.k4 s) (Us.k5 s) (Us.k6 s) (Us.st s) (Us.l0 s) (Us.l1 s) (Us.l2 s) (Us.l3 s) (Us.l4 s) (Us.l5 s) (Us.b0 s) (Us.b1 s) (Ut.bo r27.2) (Us.b3 s) (Us.b4 s) (Us.b5 s) (Us.b6 s) (Us.it s) (Value.ref 23)) [23, 65] (by decide) (hr27) rfl rfl (by decide) (by decide) rfl ?_
              refine hJ 97 _ _ _ ?_
              exact And.intro True.intro (DPis (F := (fun z => hUs z)) (s' := (Us.nw s, Us.kp s, Us.ah s, Us.h s, Us.k0 s, Us.k1 s, Ut.u r27.2, Us.k3 s, Us.k4 s, Us.k5 s, Us.k6 s, Us.st s, Us.l0 s, Us.l1 s, Us.l2 s, Us.l3 s, Us.l4 s, Us.l5 s, Us.b0 s, Us.b1 s, Ut.bo r27.2, Us.b3 s, Us.b4 s, Us.b5 s, Us.b6 s, Us.it s, (Value.ref 23))) ((if_neg c1).trans ((if_neg c2).trans ((if_pos c3).trans ((if_neg (fun q => absurd (hk6.symm.trans q) (by decide))).trans ((if_neg (fun q => absurd (hk6.symm.trans q) (by decide))).trans ((if_pos hk6).trans ((bindv_eq er23).trans ((if_neg c24).trans ((if_pos c25).trans (bindv_eq er27)))))))))))
          · skip
            obtain ⟨r28, er28⟩ : ∃ z : Int32 × Ut, m_X10_leans_c2 r23 x = z := ⟨_, rfl⟩
            have hr28 := c_X10_leans_c2 l hf r23 x
            rw [er28] at hr28
            refine CALL_sub (r := some (.int r28.1)) (h' := wUs (Us.nw s) (Us.kp s) (Us.ah s) (Us.h s) (Us.k0 s) (Us.k1 s) (Ut.u r28.2) (Us.k3 s) (Us.k4 s) (Us.k5 s) (Us.k6 s) (Us.st s) (Us.l0 s) (Us.l1 s) (Us.l2 s) (Us.l3 s) (Us.l4 s) (Us.l5 s) (Us.b0 s) (Us.b1 s) (Ut.bo r28.2) (Us.b3 s) (Us.b4 s) (Us.b5 s) (Us.b6 s) (Us.it s) (Value.ref 23)) [23, 65] (by decide) (hr28) rfl rfl (by decide) (by decide) rfl ?_
            exact And.intro True.intro (DPis (F := (fun z => hUs z)) (s' := (Us.nw s, Us.kp s, Us.ah s, Us.h s, Us.k0 s, Us.k1 s, Ut.u r28.2, Us.k3 s, Us.k4 s, Us.k5 s, Us.k6 s, Us.st s, Us.l0 s, Us.l1 s, Us.l2 s, Us.l3 s, Us.l4 s, Us.l5 s, Us.b0 s, Us.b1 s, Ut.bo r28.2, Us.b3 s, Us.b4 s, Us.b5 s, Us.b6 s, Us.it s, (Value.ref 23))) ((if_neg c1).trans ((if_neg c2).trans ((if_pos c3).trans ((if_neg (fun q => absurd (hk6.symm.trans q) (by decide))).trans ((if_neg (fun q => absurd (hk6.symm.trans q) (by decide))).trans ((if_pos hk6).trans ((bindv_eq er23).trans ((if_pos c24).trans (bindv_eq er28))))))))))
        · skip
          refine CALL_same (r := some (.ref 24)) (h1 := wUs (Us.nw s) (Us.kp s) (Us.ah s) (Us.h s) (Us.k0 s) (Us.k1 s) (Us.k2 s) (Us.k3 s) (Us.k4 s) (Us.k5 s) (Us.k6 s) (Us.st s) (Us.l0 s) (Us.l1 s) (Us.l2 s) (Us.l3 s) (Us.l4 s) (Us.l5 s) (Us.b0 s) (Us.b1 s) (Us.b2 s) (Us.b3 s) (Us.b4 s) (Us.b5 s) (Us.b6 s) (Us.it s) Value.null) (by decide) (c_X1_kindOf_u3 l hf (Us.nw s, Us.kp s, Us.ah s, Us.h s, Us.k0 s, Us.k1 s, Us.k2 s, Us.k3 s, Us.k4 s, Us.k5 s, Us.k6 s, Us.st s, Us.l0 s, Us.l1 s, Us.l2 s, Us.l3 s, Us.l4 s, Us.l5 s, Us.b0 s, Us.b1 s, Us.b2 s, Us.b3 s, Us.b4 s, Us.b5 s, Us.b6 s, Us.it s, Value.null) (Sc.kd (Sf.c (Us.nw s)) u.toNatClampNeg) hk7) ?_
          refine And.intro (has_of hi) ?_
          obtain ⟨r29, er29⟩ : ∃ z : Ut, m_X10_wake_c0 (Us.k3 s, Us.b3 s) u (Sc.vv (Sf.c (Us.nw s)) u.toNatClampNeg) = z := ⟨_, rfl⟩
          have hr29 := c_X10_wake_c0 l hf (Us.k3 s, Us.b3 s) u (Sc.vv (Sf.c (Us.nw s)) u.toNatClampNeg)
          rw [er29] at hr29
          refine CALL_sub (r := none) (h' := wUs (Us.nw s) (Us.kp s) (Us.ah s) (Us.h s) (Us.k0 s) (Us.k1 s) (Us.k2 s) (Ut.u r29) (Us.k4 s) (Us.k5 s) (Us.k6 s) (Us.st s) (Us.l0 s) (Us.l1 s) (Us.l2 s) (Us.l3 s) (Us.l4 s) (Us.l5 s) (Us.b0 s) (Us.b1 s) (Us.b2 s) (Ut.bo r29) (Us.b4 s) (Us.b5 s) (Us.b6 s) (Us.it s) Value.null) [24, 66] (by decide) (hr29) rfl rfl (by decide) (by decide) rfl ?_
          refine And.intro (fun c30 => ?_) (fun c30 => ?_)
          · skip
            refine hJ 77 _ _ _ ?_
            refine And.intro (fun c31 => ?_) (fun c31 => ?_)
            · skip
              refine hJ 91 _ _ _ ?_
              obtain ⟨r32, er32⟩ : ∃ z : Int32 × Ut, m_X0_bristles_c0 r29 x = z := ⟨_, rfl⟩
              have hr32 := c_X0_bristles_c0 l hf r29 x
              rw [er32] at hr32
              refine CALL_sub (r := some (.int r32.1)) (h' := wUs (Us.nw s) (Us.kp s) (Us.ah s) (Us.h s) (Us.k0 s) (Us.k1 s) (Us.k2 s) (Ut.u r32.2) (Us.k4 s) (Us.k5 s) (Us.k6 s) (Us.st s) (Us.l0 s) (Us.l1 s) (Us.l2 s) (Us.l3 s) (Us.l4 s) (Us.l5 s) (Us.b0 s) (Us.b1 s) (Us.b2 s) (Ut.bo r32.2) (Us.b4 s) (Us.b5 s) (Us.b6 s) (Us.it s) (Value.ref 24)) [24, 66] (by decide) (hr32) rfl rfl (by decide) (by decide) rfl ?_
              exact And.intro True.intro (DPis (F := (fun z => hUs z)) (s' := (Us.nw s, Us.kp s, Us.ah s, Us.h s, Us.k0 s, Us.k1 s, Us.k2 s, Ut.u r32.2, Us.k4 s, Us.k5 s, Us.k6 s, Us.st s, Us.l0 s, Us.l1 s, Us.l2 s, Us.l3 s, Us.l4 s, Us.l5 s, Us.b0 s, Us.b1 s, Us.b2 s, Ut.bo r32.2, Us.b4 s, Us.b5 s, Us.b6 s, Us.it s, (Value.ref 24))) ((if_neg c1).trans ((if_neg c2).trans ((if_pos c3).trans ((if_neg (fun q => absurd (hk7.symm.trans q) (by decide))).trans ((if_neg (fun q => absurd (hk7.symm.trans q) (by decide))).trans ((if_neg (fun q => absurd (hk7.symm.trans q) (by decide))).trans ((if_pos hk7).trans ((bindv_eq er29).trans ((if_neg c30).trans ((if_neg c31).trans (bindv_eq er32))))))))))))
            · skip
              obtain ⟨r33, er33⟩ : ∃ z : Int32 × Ut, m_X10_says_c0 r29 x = z := ⟨_, rfl⟩
              have hr33 := c_X10_says_c0 l hf r29 x
              rw [er33] at hr33
              refine CALL_sub (r := some (.int r33.1)) (h' := wUs (Us.nw s) (Us.kp s) (Us.ah s) (Us.h s) (Us.k0 s) (Us.k1 s) (Us.k2 s) (Ut.u r33.2) (Us.k4 s) (Us.k5 s) (Us.k6 s) (Us.st s) (Us.l0 s) (Us.l1 s) (Us.l2 s) (Us.l3 s) (Us.l4 s) (Us.l5 s) (Us.b0 s) (Us.b1 s) (Us.b2 s) (Ut.bo r33.2) (Us.b4 s) (Us.b5 s) (Us.b6 s) (Us.it s) (Value.ref 24)) [24, 66] (by decide) (hr33) rfl rfl (by decide) (by decide) rfl ?_
              refine hJ 97 _ _ _ ?_
              exact And.intro True.intro (DPis (F := (fun z => hUs z)) (s' := (Us.nw s, Us.kp s, Us.ah s, Us.h s, Us.k0 s, Us.k1 s, Us.k2 s, Ut.u r33.2, Us.k4 s, Us.k5 s, Us.k6 s, Us.st s, Us.l0 s, Us.l1 s, Us.l2 s, Us.l3 s, Us.l4 s, Us.l5 s, Us.b0 s, Us.b1 s, Us.b2 s, Ut.bo r33.2, Us.b4 s, Us.b5 s, Us.b6 s, Us.it s, (Value.ref 24))) ((if_neg c1).trans ((if_neg c2).trans ((if_pos c3).trans ((if_neg (fun q => absurd (hk7.symm.trans q) (by decide))).trans ((if_neg (fun q => absurd (hk7.symm.trans q) (by decide))).trans ((if_neg (fun q => absurd (hk7.symm.trans q) (by decide))).trans ((if_pos hk7).trans ((bindv_eq er29).trans ((if_neg c30).trans ((if_pos c31).trans (bindv_eq er33))))))))))))
          · skip
            obtain ⟨r34, er34⟩ : ∃ z : Int32 × Ut, m_X10_leans_c0 r29 x = z := ⟨_, rfl⟩
            have hr34 := c_X10_leans_c0 l hf r29 x
            rw [er34] at hr34
            refine CALL_sub (r := some (.int r34.1)) (h' := wUs (Us.nw s) (Us.kp s) (Us.ah s) (Us.h s) (Us.k0 s) (Us.k1 s) (Us.k2 s) (Ut.u r34.2) (Us.k4 s) (Us.k5 s) (Us.k6 s) (Us.st s) (Us.l0 s) (Us.l1 s) (Us.l2 s) (Us.l3 s) (Us.l4 s) (Us.l5 s) (Us.b0 s) (Us.b1 s) (Us.b2 s) (Ut.bo r34.2) (Us.b4 s) (Us.b5 s) (Us.b6 s) (Us.it s) (Value.ref 24)) [24, 66] (by decide) (hr34) rfl rfl (by decide) (by decide) rfl ?_
            exact And.intro True.intro (DPis (F := (fun z => hUs z)) (s' := (Us.nw s, Us.kp s, Us.ah s, Us.h s, Us.k0 s, Us.k1 s, Us.k2 s, Ut.u r34.2, Us.k4 s, Us.k5 s, Us.k6 s, Us.st s, Us.l0 s, Us.l1 s, Us.l2 s, Us.l3 s, Us.l4 s, Us.l5 s, Us.b0 s, Us.b1 s, Us.b2 s, Ut.bo r34.2, Us.b4 s, Us.b5 s, Us.b6 s, Us.it s, (Value.ref 24))) ((if_neg c1).trans ((if_neg c2).trans ((if_pos c3).trans ((if_neg (fun q => absurd (hk7.symm.trans q) (by decide))).trans ((if_neg (fun q => absurd (hk7.symm.trans q) (by decide))).trans ((if_neg (fun q => absurd (hk7.symm.trans q) (by decide))).trans ((if_pos hk7).trans ((bindv_eq er29).trans ((if_pos c30).trans (bindv_eq er34)))))))))))
        · skip
          refine CALL_same (r := some (.ref 25)) (h1 := wUs (Us.nw s) (Us.kp s) (Us.ah s) (Us.h s) (Us.k0 s) (Us.k1 s) (Us.k2 s) (Us.k3 s) (Us.k4 s) (Us.k5 s) (Us.k6 s) (Us.st s) (Us.l0 s) (Us.l1 s) (Us.l2 s) (Us.l3 s) (Us.l4 s) (Us.l5 s) (Us.b0 s) (Us.b1 s) (Us.b2 s) (Us.b3 s) (Us.b4 s) (Us.b5 s) (Us.b6 s) (Us.it s) Value.null) (by decide) (c_X1_kindOf_u4 l hf (Us.nw s, Us.kp s, Us.ah s, Us.h s, Us.k0 s, Us.k1 s, Us.k2 s, Us.k3 s, Us.k4 s, Us.k5 s, Us.k6 s, Us.st s, Us.l0 s, Us.l1 s, Us.l2 s, Us.l3 s, Us.l4 s, Us.l5 s, Us.b0 s, Us.b1 s, Us.b2 s, Us.b3 s, Us.b4 s, Us.b5 s, Us.b6 s, Us.it s, Value.null) (Sc.kd (Sf.c (Us.nw s)) u.toNatClampNeg) hk8) ?_
          refine And.intro (has_of hi) ?_
          obtain ⟨r35, er35⟩ : ∃ z : Ut, m_X10_wake_c5 (Us.k4 s, Us.b4 s) u (Sc.vv (Sf.c (Us.nw s)) u.toNatClampNeg) = z := ⟨_, rfl⟩
          have hr35 := c_X10_wake_c5 l hf (Us.k4 s, Us.b4 s) u (Sc.vv (Sf.c (Us.nw s)) u.toNatClampNeg)
          rw [er35] at hr35
          refine CALL_sub (r := none) (h' := wUs (Us.nw s) (Us.kp s) (Us.ah s) (Us.h s) (Us.k0 s) (Us.k1 s) (Us.k2 s) (Us.k3 s) (Ut.u r35) (Us.k5 s) (Us.k6 s) (Us.st s) (Us.l0 s) (Us.l1 s) (Us.l2 s) (Us.l3 s) (Us.l4 s) (Us.l5 s) (Us.b0 s) (Us.b1 s) (Us.b2 s) (Us.b3 s) (Ut.bo r35) (Us.b5 s) (Us.b6 s) (Us.it s) Value.null) [25, 67] (by decide) (hr35) rfl rfl (by decide) (by decide) rfl ?_
          refine And.intro (fun c36 => ?_) (fun c36 => ?_)
          · skip
            refine hJ 77 _ _ _ ?_
            refine And.intro (fun c37 => ?_) (fun c37 => ?_)
            · skip
              refine hJ 91 _ _ _ ?_
              obtain ⟨r38, er38⟩ : ∃ z : Int32 × Ut, m_X5_bristles_c5 r35 x = z := ⟨_, rfl⟩
              have hr38 := c_X5_bristles_c5 l hf r35 x
              rw [er38] at hr38
              refine CALL_sub (r := some (.int r38.1)) (h' := wUs (Us.nw s) (Us.kp s) (Us.ah s) (Us.h s) (Us.k0 s) (Us.k1 s) (Us.k2 s) (Us.k3 s) (Ut.u r38.2) (Us.k5 s) (Us.k6 s) (Us.st s) (Us.l0 s) (Us.l1 s) (Us.l2 s) (Us.l3 s) (Us.l4 s) (Us.l5 s) (Us.b0 s) (Us.b1 s) (Us.b2 s) (Us.b3 s) (Ut.bo r38.2) (Us.b5 s) (Us.b6 s) (Us.it s) (Value.ref 25)) [25, 67] (by decide) (hr38) rfl rfl (by decide) (by decide) rfl ?_
              exact And.intro True.intro (DPis (F := (fun z => hUs z)) (s' := (Us.nw s, Us.kp s, Us.ah s, Us.h s, Us.k0 s, Us.k1 s, Us.k2 s, Us.k3 s, Ut.u r38.2, Us.k5 s, Us.k6 s, Us.st s, Us.l0 s, Us.l1 s, Us.l2 s, Us.l3 s, Us.l4 s, Us.l5 s, Us.b0 s, Us.b1 s, Us.b2 s, Us.b3 s, Ut.bo r38.2, Us.b5 s, Us.b6 s, Us.it s, (Value.ref 25))) ((if_neg c1).trans ((if_neg c2).trans ((if_pos c3).trans ((if_neg (fun q => absurd (hk8.symm.trans q) (by decide))).trans ((if_neg (fun q => absurd (hk8.symm.trans q) (by decide))).trans ((if_neg (fun q => absurd (hk8.symm.trans q) (by decide))).trans ((if_neg (fun q => absurd (hk8.symm.trans q) (by decide))).trans ((if_pos hk8).trans ((bindv_eq er35).trans ((if_neg c36).trans ((if_neg c37).trans (bindv_eq er38)))))))))))))
            · skip
              obtain ⟨r39, er39⟩ : ∃ z : Int32 × Ut, m_X10_says_c5 r35 x = z := ⟨_, rfl⟩
              have hr39 := c_X10_says_c5 l hf r35 x
              rw [er39] at hr39
              refine CALL_sub (r := some (.int r39.1)) (h' := wUs (Us.nw s) (Us.kp s) (Us.ah s) (Us.h s) (Us.k0 s) (Us.k1 s) (Us.k2 s) (Us.k3 s) (Ut.u r39.2) (Us.k5 s) (Us.k6 s) (Us.st s) (Us.l0 s) (Us.l1 s) (Us.l2 s) (Us.l3 s) (Us.l4 s) (Us.l5 s) (Us.b0 s) (Us.b1 s) (Us.b2 s) (Us.b3 s) (Ut.bo r39.2) (Us.b5 s) (Us.b6 s) (Us.it s) (Value.ref 25)) [25, 67] (by decide) (hr39) rfl rfl (by decide) (by decide) rfl ?_
              refine hJ 97 _ _ _ ?_
              exact And.intro True.intro (DPis (F := (fun z => hUs z)) (s' := (Us.nw s, Us.kp s, Us.ah s, Us.h s, Us.k0 s, Us.k1 s, Us.k2 s, Us.k3 s, Ut.u r39.2, Us.k5 s, Us.k6 s, Us.st s, Us.l0 s, Us.l1 s, Us.l2 s, Us.l3 s, Us.l4 s, Us.l5 s, Us.b0 s, Us.b1 s, Us.b2 s, Us.b3 s, Ut.bo r39.2, Us.b5 s, Us.b6 s, Us.it s, (Value.ref 25))) ((if_neg c1).trans ((if_neg c2).trans ((if_pos c3).trans ((if_neg (fun q => absurd (hk8.symm.trans q) (by decide))).trans ((if_neg (fun q => absurd (hk8.symm.trans q) (by decide))).trans ((if_neg (fun q => absurd (hk8.symm.trans q) (by decide))).trans ((if_neg (fun q => absurd (hk8.symm.trans q) (by decide))).trans ((if_pos hk8).trans ((bindv_eq er35).trans ((if_neg c36).trans ((if_pos c37).trans (bindv_eq er39)))))))))))))
          · skip
            obtain ⟨r40, er40⟩ : ∃ z : Int32 × Ut, m_X3_leans_c5 r35 x = z := ⟨_, rfl⟩
            have hr40 := c_X3_leans_c5 l hf r35 x
            rw [er40] at hr40
            refine CALL_sub (r := some (.int r40.1)) (h' := wUs (Us.nw s) (Us.kp s) (Us.ah s) (Us.h s) (Us.k0 s) (Us.k1 s) (Us.k2 s) (Us.k3 s) (Ut.u r40.2) (Us.k5 s) (Us.k6 s) (Us.st s) (Us.l0 s) (Us.l1 s) (Us.l2 s) (Us.l3 s) (Us.l4 s) (Us.l5 s) (Us.b0 s) (Us.b1 s) (Us.b2 s) (Us.b3 s) (Ut.bo r40.2) (Us.b5 s) (Us.b6 s) (Us.it s) (Value.ref 25)) [25, 67] (by decide) (hr40) rfl rfl (by decide) (by decide) rfl ?_
            exact And.intro True.intro (DPis (F := (fun z => hUs z)) (s' := (Us.nw s, Us.kp s, Us.ah s, Us.h s, Us.k0 s, Us.k1 s, Us.k2 s, Us.k3 s, Ut.u r40.2, Us.k5 s, Us.k6 s, Us.st s, Us.l0 s, Us.l1 s, Us.l2 s, Us.l3 s, Us.l4 s, Us.l5 s, Us.b0 s, Us.b1 s, Us.b2 s, Us.b3 s, Ut.bo r40.2, Us.b5 s, Us.b6 s, Us.it s, (Value.ref 25))) ((if_neg c1).trans ((if_neg c2).trans ((if_pos c3).trans ((if_neg (fun q => absurd (hk8.symm.trans q) (by decide))).trans ((if_neg (fun q => absurd (hk8.symm.trans q) (by decide))).trans ((if_neg (fun q => absurd (hk8.symm.trans q) (by decide))).trans ((if_neg (fun q => absurd (hk8.symm.trans q) (by decide))).trans ((if_pos hk8).trans ((bindv_eq er35).trans ((if_pos c36).trans (bindv_eq er40))))))))))))
        · skip
          refine CALL_same (r := some (.ref 26)) (h1 := wUs (Us.nw s) (Us.kp s) (Us.ah s) (Us.h s) (Us.k0 s) (Us.k1 s) (Us.k2 s) (Us.k3 s) (Us.k4 s) (Us.k5 s) (Us.k6 s) (Us.st s) (Us.l0 s) (Us.l1 s) (Us.l2 s) (Us.l3 s) (Us.l4 s) (Us.l5 s) (Us.b0 s) (Us.b1 s) (Us.b2 s) (Us.b3 s) (Us.b4 s) (Us.b5 s) (Us.b6 s) (Us.it s) Value.null) (by decide) (c_X1_kindOf_u5 l hf (Us.nw s, Us.kp s, Us.ah s, Us.h s, Us.k0 s, Us.k1 s, Us.k2 s, Us.k3 s, Us.k4 s, Us.k5 s, Us.k6 s, Us.st s, Us.l0 s, Us.l1 s, Us.l2 s, Us.l3 s, Us.l4 s, Us.l5 s, Us.b0 s, Us.b1 s, Us.b2 s, Us.b3 s, Us.b4 s, Us.b5 s, Us.b6 s, Us.it s, Value.null) (Sc.kd (Sf.c (Us.nw s)) u.toNatClampNeg) hk9) ?_
          refine And.intro (has_of hi) ?_
          obtain ⟨r41, er41⟩ : ∃ z : Ut, m_X10_wake_c6 (Us.k5 s, Us.b5 s) u (Sc.vv (Sf.c (Us.nw s)) u.toNatClampNeg) = z := ⟨_, rfl⟩
          have hr41 := c_X10_wake_c6 l hf (Us.k5 s, Us.b5 s) u (Sc.vv (Sf.c (Us.nw s)) u.toNatClampNeg)
          rw [er41] at hr41
          refine CALL_sub (r := none) (h' := wUs (Us.nw s) (Us.kp s) (Us.ah s) (Us.h s) (Us.k0 s) (Us.k1 s) (Us.k2 s) (Us.k3 s) (Us.k4 s) (Ut.u r41) (Us.k6 s) (Us.st s) (Us.l0 s) (Us.l1 s) (Us.l2 s) (Us.l3 s) (Us.l4 s) (Us.l5 s) (Us.b0 s) (Us.b1 s) (Us.b2 s) (Us.b3 s) (Us.b4 s) (Ut.bo r41) (Us.b6 s) (Us.it s) Value.null) [26, 68] (by decide) (hr41) rfl rfl (by decide) (by decide) rfl ?_
          refine And.intro (fun c42 => ?_) (fun c42 => ?_)
          · skip
            refine hJ 77 _ _ _ ?_
            refine And.intro (fun c43 => ?_) (fun c43 => ?_)
            · skip
              refine hJ 91 _ _ _ ?_
              obtain ⟨r44, er44⟩ : ∃ z : Int32 × Ut, m_X10_bristles_c6 r41 x = z := ⟨_, rfl⟩
              have hr44 := c_X10_bristles_c6 l hf r41 x
              rw [er44] at hr44
              refine CALL_sub (r := some (.int r44.1)) (h' := wUs (Us.nw s) (Us.kp s) (Us.ah s) (Us.h s) (Us.k0 s) (Us.k1 s) (Us.k2 s) (Us.k3 s) (Us.k4 s) (Ut.u r44.2) (Us.k6 s) (Us.st s) (Us.l0 s) (Us.l1 s) (Us.l2 s) (Us.l3 s) (Us.l4 s) (Us.l5 s) (Us.b0 s) (Us.b1 s) (Us.b2 s) (Us.b3 s) (Us.b4 s) (Ut.bo r44.2) (Us.b6 s) (Us.it s) (Value.ref 26)) [26, 68] (by decide) (hr44) rfl rfl (by decide) (by decide) rfl ?_
              exact And.intro True.intro (DPis (F := (fun z => hUs z)) (s' := (Us.nw s, Us.kp s, Us.ah s, Us.h s, Us.k0 s, Us.k1 s, Us.k2 s, Us.k3 s, Us.k4 s, Ut.u r44.2, Us.k6 s, Us.st s, Us.l0 s, Us.l1 s, Us.l2 s, Us.l3 s, Us.l4 s, Us.l5 s, Us.b0 s, Us.b1 s, Us.b2 s, Us.b3 s, Us.b4 s, Ut.bo r44.2, Us.b6 s, Us.it s, (Value.ref 26))) ((if_neg c1).trans ((if_neg c2).trans ((if_pos c3).trans ((if_neg (fun q => absurd (hk9.symm.trans q) (by decide))).trans ((if_neg (fun q => absurd (hk9.symm.trans q) (by decide))).trans ((if_neg (fun q => absurd (hk9.symm.trans q) (by decide))).trans ((if_neg (fun q => absurd (hk9.symm.trans q) (by decide))).trans ((if_neg (fun q => absurd (hk9.symm.trans q) (by decide))).trans ((if_pos hk9).trans ((bindv_eq er41).trans ((if_neg c42).trans ((if_neg c43).trans (bindv_eq er44))))))))))))))
            · skip
              obtain ⟨r45, er45⟩ : ∃ z : Int32 × Ut, m_X2_says_c6 r41 x = z := ⟨_, rfl⟩
              have hr45 := c_X2_says_c6 l hf r41 x
              rw [er45] at hr45
              refine CALL_sub (r := some (.int r45.1)) (h' := wUs (Us.nw s) (Us.kp s) (Us.ah s) (Us.h s) (Us.k0 s) (Us.k1 s) (Us.k2 s) (Us.k3 s) (Us.k4 s) (Ut.u r45.2) (Us.k6 s) (Us.st s) (Us.l0 s) (Us.l1 s) (Us.l2 s) (Us.l3 s) (Us.l4 s) (Us.l5 s) (Us.b0 s) (Us.b1 s) (Us.b2 s) (Us.b3 s) (Us.b4 s) (Ut.bo r45.2) (Us.b6 s) (Us.it s) (Value.ref 26)) [26, 68] (by decide) (hr45) rfl rfl (by decide) (by decide) rfl ?_
              refine hJ 97 _ _ _ ?_
              exact And.intro True.intro (DPis (F := (fun z => hUs z)) (s' := (Us.nw s, Us.kp s, Us.ah s, Us.h s, Us.k0 s, Us.k1 s, Us.k2 s, Us.k3 s, Us.k4 s, Ut.u r45.2, Us.k6 s, Us.st s, Us.l0 s, Us.l1 s, Us.l2 s, Us.l3 s, Us.l4 s, Us.l5 s, Us.b0 s, Us.b1 s, Us.b2 s, Us.b3 s, Us.b4 s, Ut.bo r45.2, Us.b6 s, Us.it s, (Value.ref 26))) ((if_neg c1).trans ((if_neg c2).trans ((if_pos c3).trans ((if_neg (fun q => absurd (hk9.symm.trans q) (by decide))).trans ((if_neg (fun q => absurd (hk9.symm.trans q) (by decide))).trans ((if_neg (fun q => absurd (hk9.symm.trans q) (by decide))).trans ((if_neg (fun q => absurd (hk9.symm.trans q) (by decide))).trans ((if_neg (fun q => absurd (hk9.symm.trans q) (by decide))).trans ((if_pos hk9).trans ((bindv_eq er41).trans ((if_neg c42).trans ((if_pos c43).trans (bindv_eq er45))))))))))))))
          · skip
            obtain ⟨r46, er46⟩ : ∃ z : Int32 × Ut, m_X6_leans_c6 r41 x = z := ⟨_, rfl⟩
            have hr46 := c_X6_leans_c6 l hf r41 x
            rw [er46] at hr46
            refine CALL_sub (r := some (.int r46.1)) (h' := wUs (Us.nw s) (Us.kp s) (Us.ah s) (Us.h s) (Us.k0 s) (Us.k1 s) (Us.k2 s) (Us.k3 s) (Us.k4 s) (Ut.u r46.2) (Us.k6 s) (Us.st s) (Us.l0 s) (Us.l1 s) (Us.l2 s) (Us.l3 s) (Us.l4 s) (Us.l5 s) (Us.b0 s) (Us.b1 s) (Us.b2 s) (Us.b3 s) (Us.b4 s) (Ut.bo r46.2) (Us.b6 s) (Us.it s) (Value.ref 26)) [26, 68] (by decide) (hr46) rfl rfl (by decide) (by decide) rfl ?_
            exact And.intro True.intro (DPis (F := (fun z => hUs z)) (s' := (Us.nw s, Us.kp s, Us.ah s, Us.h s, Us.k0 s, Us.k1 s, Us.k2 s, Us.k3 s, Us.k4 s, Ut.u r46.2, Us.k6 s, Us.st s, Us.l0 s, Us.l1 s, Us.l2 s, Us.l3 s, Us.l4 s, Us.l5 s, Us.b0 s, Us.b1 s, Us.b2 s, Us.b3 s, Us.b4 s, Ut.bo r46.2, Us.b6 s, Us.it s, (Value.ref 26))) ((if_neg c1).trans ((if_neg c2).trans ((if_pos c3).trans ((if_neg (fun q => absurd (hk9.symm.trans q) (by decide))).trans ((if_neg (fun q => absurd (hk9.symm.trans q) (by decide))).trans ((if_neg (fun q => absurd (hk9.symm.trans q) (by decide))).trans ((if_neg (fun q => absurd (hk9.symm.trans q) (by decide))).trans ((if_neg (fun q => absurd (hk9.symm.trans q) (by decide))).trans ((if_pos hk9).trans ((bindv_eq er41).trans ((if_pos c42).trans (bindv_eq er46)))))))))))))
        · skip
          refine CALL_same (r := some (.ref 27)) (h1 := wUs (Us.nw s) (Us.kp s) (Us.ah s) (Us.h s) (Us.k0 s) (Us.k1 s) (Us.k2 s) (Us.k3 s) (Us.k4 s) (Us.k5 s) (Us.k6 s) (Us.st s) (Us.l0 s) (Us.l1 s) (Us.l2 s) (Us.l3 s) (Us.l4 s) (Us.l5 s) (Us.b0 s) (Us.b1 s) (Us.b2 s) (Us.b3 s) (Us.b4 s) (Us.b5 s) (Us.b6 s) (Us.it s) Value.null) (by decide) (c_X1_kindOf_u6 l hf (Us.nw s, Us.kp s, Us.ah s, Us.h s, Us.k0 s, Us.k1 s, Us.k2 s, Us.k3 s, Us.k4 s, Us.k5 s, Us.k6 s, Us.st s, Us.l0 s, Us.l1 s, Us.l2 s, Us.l3 s, Us.l4 s, Us.l5 s, Us.b0 s, Us.b1 s, Us.b2 s, Us.b3 s, Us.b4 s, Us.b5 s, Us.b6 s, Us.it s, Value.null) (Sc.kd (Sf.c (Us.nw s)) u.toNatClampNeg) hk10) ?_
          refine And.intro (has_of hi) ?_
          obtain ⟨r47, er47⟩ : ∃ z : Ut, m_X10_wake_c9 (Us.k6 s, Us.b6 s) u (Sc.vv (Sf.c (Us.nw s)) u.toNatClampNeg) = z := ⟨_, rfl⟩
          have hr47 := c_X10_wake_c9 l hf (Us.k6 s, Us.b6 s) u (Sc.vv (Sf.c (Us.nw s)) u.toNatClampNeg)
          rw [er47] at hr47
          refine CALL_sub (r := none) (h' := wUs (Us.nw s) (Us.kp s) (Us.ah s) (Us.h s) (Us.k0 s) (Us.k1 s) (Us.k2 s) (Us.k3 s) (Us.k4 s) (Us.k5 s) (Ut.u r47) (Us.st s) (Us.l0 s) (Us.l1 s) (Us.l2 s) (Us.l3 s) (Us.l4 s) (Us.l5 s) (Us.b0 s) (Us.b1 s) (Us.b2 s) (Us.b3 s) (Us.b4 s) (Us.b5 s) (Ut.bo r47) (Us.it s) Value.null) [27, 69] (by decide) (hr47) rfl rfl (by decide) (by decide) rfl ?_
          refine And.intro (fun c48 => ?_) (fun c48 => ?_)
          · skip
            refine hJ 77 _ _ _ ?_
            refine And.intro (fun c49 => ?_) (fun c49 => ?_)
            · skip
              refine hJ 91 _ _ _ ?_
              obtain ⟨r50, er50⟩ : ∃ z : Int32 × Ut, m_X0_bristles_c9 r47 x = z := ⟨_, rfl⟩
              have hr50 := c_X0_bristles_c9 l hf r47 x
              rw [er50] at hr50
              refine CALL_sub (r := some (.int r50.1)) (h' := wUs (Us.nw s) (Us.kp s) (Us.ah s) (Us.h s) (Us.k0 s) (Us.k1 s) (Us.k2 s) (Us.k3 s) (Us.k4 s) (Us.k5 s) (Ut.u r50.2) (Us.st s) (Us.l0 s) (Us.l1 s) (Us.l2 s) (Us.l3 s) (Us.l4 s) (Us.l5 s) (Us.b0 s) (Us.b1 s) (Us.b2 s) (Us.b3 s) (Us.b4 s) (Us.b5 s) (Ut.bo r50.2) (Us.it s) (Value.ref 27)) [27, 69] (by decide) (hr50) rfl rfl (by decide) (by decide) rfl ?_
              exact And.intro True.intro (DPis (F := (fun z => hUs z)) (s' := (Us.nw s, Us.kp s, Us.ah s, Us.h s, Us.k0 s, Us.k1 s, Us.k2 s, Us.k3 s, Us.k4 s, Us.k5 s, Ut.u r50.2, Us.st s, Us.l0 s, Us.l1 s, Us.l2 s, Us.l3 s, Us.l4 s, Us.l5 s, Us.b0 s, Us.b1 s, Us.b2 s, Us.b3 s, Us.b4 s, Us.b5 s, Ut.bo r50.2, Us.it s, (Value.ref 27))) ((if_neg c1).trans ((if_neg c2).trans ((if_pos c3).trans ((if_neg (fun q => absurd (hk10.symm.trans q) (by decide))).trans ((if_neg (fun q => absurd (hk10.symm.trans q) (by decide))).trans ((if_neg (fun q => absurd (hk10.symm.trans q) (by decide))).trans ((if_neg (fun q => absurd (hk10.symm.trans q) (by decide))).trans ((if_neg (fun q => absurd (hk10.symm.trans q) (by decide))).trans ((if_neg (fun q => absurd (hk10.symm.trans q) (by decide))).trans ((bindv_eq er47).trans ((if_neg c48).trans ((if_neg c49).trans (bindv_eq er50))))))))))))))
            · skip
              obtain ⟨r51, er51⟩ : ∃ z : Int32 × Ut, m_X9_says_c9 r47 x = z := ⟨_, rfl⟩
              have hr51 := c_X9_says_c9 l hf r47 x
              rw [er51] at hr51
              refine CALL_sub (r := some (.int r51.1)) (h' := wUs (Us.nw s) (Us.kp s) (Us.ah s) (Us.h s) (Us.k0 s) (Us.k1 s) (Us.k2 s) (Us.k3 s) (Us.k4 s) (Us.k5 s) (Ut.u r51.2) (Us.st s) (Us.l0 s) (Us.l1 s) (Us.l2 s) (Us.l3 s) (Us.l4 s) (Us.l5 s) (Us.b0 s) (Us.b1 s) (Us.b2 s) (Us.b3 s) (Us.b4 s) (Us.b5 s) (Ut.bo r51.2) (Us.it s) (Value.ref 27)) [27, 69] (by decide) (hr51) rfl rfl (by decide) (by decide) rfl ?_
              refine hJ 97 _ _ _ ?_
              exact And.intro True.intro (DPis (F := (fun z => hUs z)) (s' := (Us.nw s, Us.kp s, Us.ah s, Us.h s, Us.k0 s, Us.k1 s, Us.k2 s, Us.k3 s, Us.k4 s, Us.k5 s, Ut.u r51.2, Us.st s, Us.l0 s, Us.l1 s, Us.l2 s, Us.l3 s, Us.l4 s, Us.l5 s, Us.b0 s, Us.b1 s, Us.b2 s, Us.b3 s, Us.b4 s, Us.b5 s, Ut.bo r51.2, Us.it s, (Value.ref 27))) ((if_neg c1).trans ((if_neg c2).trans ((if_pos c3).trans ((if_neg (fun q => absurd (hk10.symm.trans q) (by decide))).trans ((if_neg (fun q => absurd (hk10.symm.trans q) (by decide))).trans ((if_neg (fun q => absurd (hk10.symm.trans q) (by decide))).trans ((if_neg (fun q => absurd (hk10.symm.trans q) (by decide))).trans ((if_neg (fun q => absurd (hk10.symm.trans q) (by decide))).trans ((if_neg (fun q => absurd (hk10.symm.trans q) (by decide))).trans ((bindv_eq er47).trans ((if_neg c48).trans ((if_pos c49).trans (bindv_eq er51))))))))))))))
          · skip
            obtain ⟨r52, er52⟩ : ∃ z : Int32 × Ut, m_X10_leans_c9 r47 x = z := ⟨_, rfl⟩
            have hr52 := c_X10_leans_c9 l hf r47 x
            rw [er52] at hr52
            refine CALL_sub (r := some (.int r52.1)) (h' := wUs (Us.nw s) (Us.kp s) (Us.ah s) (Us.h s) (Us.k0 s) (Us.k1 s) (Us.k2 s) (Us.k3 s) (Us.k4 s) (Us.k5 s) (Ut.u r52.2) (Us.st s) (Us.l0 s) (Us.l1 s) (Us.l2 s) (Us.l3 s) (Us.l4 s) (Us.l5 s) (Us.b0 s) (Us.b1 s) (Us.b2 s) (Us.b3 s) (Us.b4 s) (Us.b5 s) (Ut.bo r52.2) (Us.it s) (Value.ref 27)) [27, 69] (by decide) (hr52) rfl rfl (by decide) (by decide) rfl ?_
            exact And.intro True.intro (DPis (F := (fun z => hUs z)) (s' := (Us.nw s, Us.kp s, Us.ah s, Us.h s, Us.k0 s, Us.k1 s, Us.k2 s, Us.k3 s, Us.k4 s, Us.k5 s, Ut.u r52.2, Us.st s, Us.l0 s, Us.l1 s, Us.l2 s, Us.l3 s, Us.l4 s, Us.l5 s, Us.b0 s, Us.b1 s, Us.b2 s, Us.b3 s, Us.b4 s, Us.b5 s, Ut.bo r52.2, Us.it s, (Value.ref 27))) ((if_neg c1).trans ((if_neg c2).trans ((if_pos c3).trans ((if_neg (fun q => absurd (hk10.symm.trans q) (by decide))).trans ((if_neg (fun q => absurd (hk10.symm.trans q) (by decide))).trans ((if_neg (fun q => absurd (hk10.symm.trans q) (by decide))).trans ((if_neg (fun q => absurd (hk10.symm.trans q) (by decide))).trans ((if_neg (fun q => absurd (hk10.symm.trans q) (by decide))).trans ((if_neg (fun q => absurd (hk10.symm.trans q) (by decide))).trans ((bindv_eq er47).trans ((if_pos c48).trans (bindv_eq er52)))))))))))))
      · skip
        exact And.intro True.intro (DPis (F := (fun z => hUs z)) (s' := (Us.nw s, Us.kp s, Us.ah s, Us.h s, Us.k0 s, Us.k1 s, Us.k2 s, Us.k3 s, Us.k4 s, Us.k5 s, Us.k6 s, Us.st s, Us.l0 s, Us.l1 s, Us.l2 s, Us.l3 s, Us.l4 s, Us.l5 s, Us.b0 s, Us.b1 s, Us.b2 s, Us.b3 s, Us.b4 s, Us.b5 s, Us.b6 s, Us.it s, Value.null)) ((if_neg c1).trans ((if_neg c2).trans (if_neg c3))))
def m_X11_trace_a0  (x : Int32) : Int32 := (-nI 1)
set_option maxRecDepth 100000 in
set_option maxHeartbeats 400000 in
theorem c_X11_trace_a0 (l : Launch) {fv : Value} (hf : FV fv) (s : Us) (x : Int32) : CT l fv 2 jX11_trace [.ref 0, .int x] (wUs (Us.nw s) (Us.kp s) (Us.ah s) (Us.h s) (Us.k0 s) (Us.k1 s) (Us.k2 s) (Us.k3 s) (Us.k4 s) (Us.k5 s) (Us.k6 s) (Us.st s) (Us.l0 s) (Us.l1 s) (Us.l2 s) (Us.l3 s) (Us.l4 s) (Us.l5 s) (Us.b0 s) (Us.b1 s) (Us.b2 s) (Us.b3 s) (Us.b4 s) (Us.b5 s) (Us.b6 s) (Us.it s) Value.null) (DP (some (.int (m_X11_trace_a0 x))) (wUs (Us.nw s) (Us.kp s) (Us.ah s) (Us.h s) (Us.k0 s) (Us.k1 s) (Us.k2 s) (Us.k3 s) (Us.k4 s) (Us.k5 s) (Us.k6 s) (Us.st s) (Us.l0 s) (Us.l1 s) (Us.l2 s) (Us.l3 s) (Us.l4 s) (Us.l5 s) (Us.b0 s) (Us.b1 s) (Us.b2 s) (Us.b3 s) (Us.b4 s) (Us.b5 s) (Us.b6 s) (Us.it s) Value.null)) := by
  refine CT_of [] mt_X11_trace (by decide +kernel) (tab_X11 hf) okX11_trace (Nat.le_of_ble_eq_true rfl) ?_
  intro J hJ hD
  refine hJ 0 _ _ _ ?_
  refine hJ 19 _ _ _ ?_
  exact And.intro True.intro (DPi (rfl))
def m_X11_count_a0 (znw_c_sz : Int32) (znw_c_sg : Int32) (znw_c_lg : Int32) (znw_se_n : Int32) (znw_pl_n : Int32) (znw_bk_n : Int32) (x : Int32) : Int32 := if x = nI 0 then znw_c_sz else (if x = nI 1 then znw_c_lg else (if x = nI 2 then znw_se_n else (if x = nI 3 then znw_pl_n else (if x = nI 4 then znw_bk_n else (if x = nI 5 then znw_c_sg else (if x = nI 6 then nI 0 else (-nI 1)))))))
set_option maxRecDepth 100000 in
set_option maxHeartbeats 400000 in
theorem c_X11_count_a0 (l : Launch) {fv : Value} (hf : FV fv) (s : Us) (x : Int32) : CT l fv 2 jX11_count [.ref 0, .int x] (wUs (Us.nw s) (Us.kp s) (Us.ah s) (Us.h s) (Us.k0 s) (Us.k1 s) (Us.k2 s) (Us.k3 s) (Us.k4 s) (Us.k5 s) (Us.k6 s) (Us.st s) (Us.l0 s) (Us.l1 s) (Us.l2 s) (Us.l3 s) (Us.l4 s) (Us.l5 s) (Us.b0 s) (Us.b1 s) (Us.b2 s) (Us.b3 s) (Us.b4 s) (Us.b5 s) (Us.b6 s) (Us.it s) Value.null) (DP (some (.int (m_X11_count_a0 (Sc.sz (Sf.c (Us.nw s))) (Sc.sg (Sf.c (Us.nw s))) (Sc.lg (Sf.c (Us.nw s))) (Tb.n (Sf.se (Us.nw s))) (Tb.n (Sf.pl (Us.nw s))) (Tb.n (Sf.bk (Us.nw s))) x))) (wUs (Us.nw s) (Us.kp s) (Us.ah s) (Us.h s) (Us.k0 s) (Us.k1 s) (Us.k2 s) (Us.k3 s) (Us.k4 s) (Us.k5 s) (Us.k6 s) (Us.st s) (Us.l0 s) (Us.l1 s) (Us.l2 s) (Us.l3 s) (Us.l4 s) (Us.l5 s) (Us.b0 s) (Us.b1 s) (Us.b2 s) (Us.b3 s) (Us.b4 s) (Us.b5 s) (Us.b6 s) (Us.it s) Value.null)) := by
  refine CT_of [] mt_X11_count (by decide +kernel) (tab_X11 hf) okX11_count (Nat.le_of_ble_eq_true rfl) ?_
  intro J hJ hD
  refine hJ 0 _ _ _ ?_
  refine And.intro (fun c1 => ?_) (And.intro (by decide) (And.intro (fun c2 => ?_) (And.intro (fun c3 => ?_) (And.intro (fun c4 => ?_) (And.intro (fun c5 => ?_) (And.intro (fun c6 => ?_) (And.intro (fun c7 => ?_) (And.intro (fun c8 => ?_) (True.intro)))))))))
  · skip
    refine hJ 120 _ _ _ ?_
    exact And.intro True.intro (DPi ((if_neg (sw_ne 0 c1 (by decide) (by decide) (by decide))).trans ((if_neg (sw_ne 1 c1 (by decide) (by decide) (by decide))).trans ((if_neg (sw_ne 2 c1 (by decide) (by decide) (by decide))).trans ((if_neg (sw_ne 3 c1 (by decide) (by decide) (by decide))).trans ((if_neg (sw_ne 4 c1 (by decide) (by decide) (by decide))).trans ((if_neg (sw_ne 5 c1 (by decide) (by decide) (by decide))).trans (if_neg (sw_ne 6 c1 (by decide) (by decide) (by decide))))))))))
  · skip
    refine hJ 44 _ _ _ ?_
    exact And.intro True.intro (DPi (if_pos (sw_eq 0 c2 rfl (by decide))))
  · skip
    refine hJ 52 _ _ _ ?_
    exact And.intro True.intro (DPi ((if_neg (sw_ot 0 c3 (by decide) (by decide))).trans (if_pos (sw_eq 1 c3 rfl (by decide)))))
  · skip
    refine hJ 60 _ _ _ ?_
    exact And.intro True.intro (DPi ((if_neg (sw_ot 0 c4 (by decide) (by decide))).trans ((if_neg (sw_ot 1 c4 (by decide) (by decide))).trans (if_pos (sw_eq 2 c4 rfl (by decide))))))
  · skip
    refine hJ 71 _ _ _ ?_
    exact And.intro True.intro (DPi ((if_neg (sw_ot 0 c5 (by decide) (by decide))).trans ((if_neg (sw_ot 1 c5 (by decide) (by decide))).trans ((if_neg (sw_ot 2 c5 (by decide) (by decide))).trans (if_pos (sw_eq 3 c5 rfl (by decide)))))))
  · skip
    refine hJ 82 _ _ _ ?_
    exact And.intro True.intro (DPi ((if_neg (sw_ot 0 c6 (by decide) (by decide))).trans ((if_neg (sw_ot 1 c6 (by decide) (by decide))).trans ((if_neg (sw_ot 2 c6 (by decide) (by decide))).trans ((if_neg (sw_ot 3 c6 (by decide) (by decide))).trans (if_pos (sw_eq 4 c6 rfl (by decide))))))))
  · skip
    refine hJ 93 _ _ _ ?_
    exact And.intro True.intro (DPi ((if_neg (sw_ot 0 c7 (by decide) (by decide))).trans ((if_neg (sw_ot 1 c7 (by decide) (by decide))).trans ((if_neg (sw_ot 2 c7 (by decide) (by decide))).trans ((if_neg (sw_ot 3 c7 (by decide) (by decide))).trans ((if_neg (sw_ot 4 c7 (by decide) (by decide))).trans (if_pos (sw_eq 5 c7 rfl (by decide)))))))))
  · skip
    refine hJ 101 _ _ _ ?_
    refine hJ 119 _ _ _ ?_
    exact And.intro True.intro (DPi ((if_neg (sw_ot 0 c8 (by decide) (by decide))).trans ((if_neg (sw_ot 1 c8 (by decide) (by decide))).trans ((if_neg (sw_ot 2 c8 (by decide) (by decide))).trans ((if_neg (sw_ot 3 c8 (by decide) (by decide))).trans ((if_neg (sw_ot 4 c8 (by decide) (by decide))).trans ((if_neg (sw_ot 5 c8 (by decide) (by decide))).trans (if_pos (sw_eq 6 c8 rfl (by decide))))))))))
def m_X11_trace_a1 (zk0_ra : Int32) (zb0 : Fn) (x : Int32) : Int32 := (m_X10_bodyAt_c10 (zk0_ra) (zb0) x)
set_option maxRecDepth 100000 in
set_option maxHeartbeats 400000 in
theorem c_X11_trace_a1 (l : Launch) {fv : Value} (hf : FV fv) (s : Us) (x : Int32) : CT l fv 2 jX11_trace [.ref 0, .int x] (wUs (Us.nw s) (Us.kp s) (Us.ah s) (Us.h s) (Us.k0 s) (Us.k1 s) (Us.k2 s) (Us.k3 s) (Us.k4 s) (Us.k5 s) (Us.k6 s) (Us.st s) (Us.l0 s) (Us.l1 s) (Us.l2 s) (Us.l3 s) (Us.l4 s) (Us.l5 s) (Us.b0 s) (Us.b1 s) (Us.b2 s) (Us.b3 s) (Us.b4 s) (Us.b5 s) (Us.b6 s) (Us.it s) (Value.ref 21)) (DP (some (.int (m_X11_trace_a1 (Uc.ra (Us.k0 s)) (Us.b0 s) x))) (wUs (Us.nw s) (Us.kp s) (Us.ah s) (Us.h s) (Us.k0 s) (Us.k1 s) (Us.k2 s) (Us.k3 s) (Us.k4 s) (Us.k5 s) (Us.k6 s) (Us.st s) (Us.l0 s) (Us.l1 s) (Us.l2 s) (Us.l3 s) (Us.l4 s) (Us.l5 s) (Us.b0 s) (Us.b1 s) (Us.b2 s) (Us.b3 s) (Us.b4 s) (Us.b5 s) (Us.b6 s) (Us.it s) (Value.ref 21))) := by
  refine CT_of [] mt_X11_trace (by decide +kernel) (tab_X11 hf) okX11_trace (Nat.le_of_ble_eq_true rfl) ?_
  intro J hJ hD
  refine hJ 0 _ _ _ ?_
  refine hJ 11 _ _ _ ?_
  refine CALL_sub (r := some (.int (m_X10_bodyAt_c10 (Uc.ra (Us.k0 s)) (Us.b0 s) x))) (h' := wUs (Us.nw s) (Us.kp s) (Us.ah s) (Us.h s) (Us.k0 s) (Us.k1 s) (Us.k2 s) (Us.k3 s) (Us.k4 s) (Us.k5 s) (Us.k6 s) (Us.st s) (Us.l0 s) (Us.l1 s) (Us.l2 s) (Us.l3 s) (Us.l4 s) (Us.l5 s) (Us.b0 s) (Us.b1 s) (Us.b2 s) (Us.b3 s) (Us.b4 s) (Us.b5 s) (Us.b6 s) (Us.it s) (Value.ref 21)) [21, 63] (by decide) (c_X10_bodyAt_c10 l hf (Us.k0 s, Us.b0 s) x) rfl rfl (by decide) (by decide) rfl ?_
  exact And.intro True.intro (DPi (rfl))
def m_X11_count_a1 (znw_c_sz : Int32) (znw_c_sg : Int32) (znw_c_lg : Int32) (znw_se_n : Int32) (znw_pl_n : Int32) (znw_bk_n : Int32) (zk0_ra : Int32) (x : Int32) : Int32 := if x = nI 0 then znw_c_sz else (if x = nI 1 then znw_c_lg else (if x = nI 2 then znw_se_n else (if x = nI 3 then znw_pl_n else (if x = nI 4 then znw_bk_n else (if x = nI 5 then znw_c_sg else (if x = nI 6 then zk0_ra else (-nI 1)))))))
set_option maxRecDepth 100000 in
set_option maxHeartbeats 400000 in
theorem c_X11_count_a1 (l : Launch) {fv : Value} (hf : FV fv) (s : Us) (x : Int32) : CT l fv 2 jX11_count [.ref 0, .int x] (wUs (Us.nw s) (Us.kp s) (Us.ah s) (Us.h s) (Us.k0 s) (Us.k1 s) (Us.k2 s) (Us.k3 s) (Us.k4 s) (Us.k5 s) (Us.k6 s) (Us.st s) (Us.l0 s) (Us.l1 s) (Us.l2 s) (Us.l3 s) (Us.l4 s) (Us.l5 s) (Us.b0 s) (Us.b1 s) (Us.b2 s) (Us.b3 s) (Us.b4 s) (Us.b5 s) (Us.b6 s) (Us.it s) (Value.ref 21)) (DP (some (.int (m_X11_count_a1 (Sc.sz (Sf.c (Us.nw s))) (Sc.sg (Sf.c (Us.nw s))) (Sc.lg (Sf.c (Us.nw s))) (Tb.n (Sf.se (Us.nw s))) (Tb.n (Sf.pl (Us.nw s))) (Tb.n (Sf.bk (Us.nw s))) (Uc.ra (Us.k0 s)) x))) (wUs (Us.nw s) (Us.kp s) (Us.ah s) (Us.h s) (Us.k0 s) (Us.k1 s) (Us.k2 s) (Us.k3 s) (Us.k4 s) (Us.k5 s) (Us.k6 s) (Us.st s) (Us.l0 s) (Us.l1 s) (Us.l2 s) (Us.l3 s) (Us.l4 s) (Us.l5 s) (Us.b0 s) (Us.b1 s) (Us.b2 s) (Us.b3 s) (Us.b4 s) (Us.b5 s) (Us.b6 s) (Us.it s) (Value.ref 21))) := by
  refine CT_of [] mt_X11_count (by decide +kernel) (tab_X11 hf) okX11_count (Nat.le_of_ble_eq_true rfl) ?_
  intro J hJ hD
  refine hJ 0 _ _ _ ?_
  refine And.intro (fun c1 => ?_) (And.intro (by decide) (And.intro (fun c2 => ?_) (And.intro (fun c3 => ?_) (And.intro (fun c4 => ?_) (And.intro (fun c5 => ?_) (And.intro (fun c6 => ?_) (And.intro (fun c7 => ?_) (And.intro (fun c8 => ?_) (True.intro)))))))))
  · skip
    refine hJ 120 _ _ _ ?_
    exact And.intro True.intro (DPi ((if_neg (sw_ne 0 c1 (by decide) (by decide) (by decide))).trans ((if_neg (sw_ne 1 c1 (by decide) (by decide) (by decide))).trans ((if_neg (sw_ne 2 c1 (by decide) (by decide) (by decide))).trans ((if_neg (sw_ne 3 c1 (by decide) (by decide) (by decide))).trans ((if_neg (sw_ne 4 c1 (by decide) (by decide) (by decide))).trans ((if_neg (sw_ne 5 c1 (by decide) (by decide) (by decide))).trans (if_neg (sw_ne 6 c1 (by decide) (by decide) (by decide))))))))))
  · skip
    refine hJ 44 _ _ _ ?_
    exact And.intro True.intro (DPi (if_pos (sw_eq 0 c2 rfl (by decide))))
  · skip
    refine hJ 52 _ _ _ ?_
    exact And.intro True.intro (DPi ((if_neg (sw_ot 0 c3 (by decide) (by decide))).trans (if_pos (sw_eq 1 c3 rfl (by decide)))))
  · skip
    refine hJ 60 _ _ _ ?_
    exact And.intro True.intro (DPi ((if_neg (sw_ot 0 c4 (by decide) (by decide))).trans ((if_neg (sw_ot 1 c4 (by decide) (by decide))).trans (if_pos (sw_eq 2 c4 rfl (by decide))))))
  · skip
    refine hJ 71 _ _ _ ?_
    exact And.intro True.intro (DPi ((if_neg (sw_ot 0 c5 (by decide) (by decide))).trans ((if_neg (sw_ot 1 c5 (by decide) (by decide))).trans ((if_neg (sw_ot 2 c5 (by decide) (by decide))).trans (if_pos (sw_eq 3 c5 rfl (by decide)))))))
  · skip
    refine hJ 82 _ _ _ ?_
    exact And.intro True.intro (DPi ((if_neg (sw_ot 0 c6 (by decide) (by decide))).trans ((if_neg (sw_ot 1 c6 (by decide) (by decide))).trans ((if_neg (sw_ot 2 c6 (by decide) (by decide))).trans ((if_neg (sw_ot 3 c6 (by decide) (by decide))).trans (if_pos (sw_eq 4 c6 rfl (by decide))))))))
  · skip
    refine hJ 93 _ _ _ ?_
    exact And.intro True.intro (DPi ((if_neg (sw_ot 0 c7 (by decide) (by decide))).trans ((if_neg (sw_ot 1 c7 (by decide) (by decide))).trans ((if_neg (sw_ot 2 c7 (by decide) (by decide))).trans ((if_neg (sw_ot 3 c7 (by decide) (by decide))).trans ((if_neg (sw_ot 4 c7 (by decide) (by decide))).trans (if_pos (sw_eq 5 c7 rfl (by decide)))))))))
  · skip
    refine hJ 101 _ _ _ ?_
    refine hJ 112 _ _ _ ?_
    exact And.intro True.intro (DPi ((if_neg (sw_ot 0 c8 (by decide) (by decide))).trans ((if_neg (sw_ot 1 c8 (by decide) (by decide))).trans ((if_neg (sw_ot 2 c8 (by decide) (by decide))).trans ((if_neg (sw_ot 3 c8 (by decide) (by decide))).trans ((if_neg (sw_ot 4 c8 (by decide) (by decide))).trans ((if_neg (sw_ot 5 c8 (by decide) (by decide))).trans (if_pos (sw_eq 6 c8 rfl (by decide))))))))))
def m_X11_trace_a2 (zk1_ra : Int32) (zb1 : Fn) (x : Int32) : Int32 := (m_X10_bodyAt_c3 (zk1_ra) (zb1) x)
set_option maxRecDepth 100000 in
set_option maxHeartbeats 400000 in
theorem c_X11_trace_a2 (l : Launch) {fv : Value} (hf : FV fv) (s : Us) (x : Int32) : CT l fv 2 jX11_trace [.ref 0, .int x] (wUs (Us.nw s) (Us.kp s) (Us.ah s) (Us.h s) (Us.k0 s) (Us.k1 s) (Us.k2 s) (Us.k3 s) (Us.k4 s) (Us.k5 s) (Us.k6 s) (Us.st s) (Us.l0 s) (Us.l1 s) (Us.l2 s) (Us.l3 s) (Us.l4 s) (Us.l5 s) (Us.b0 s) (Us.b1 s) (Us.b2 s) (Us.b3 s) (Us.b4 s) (Us.b5 s) (Us.b6 s) (Us.it s) (Value.ref 22)) (DP (some (.int (m_X11_trace_a2 (Uc.ra (Us.k1 s)) (Us.b1 s) x))) (wUs (Us.nw s) (Us.kp s) (Us.ah s) (Us.h s) (Us.k0 s) (Us.k1 s) (Us.k2 s) (Us.k3 s) (Us.k4 s) (Us.k5 s) (Us.k6 s) (Us.st s) (Us.l0 s) (Us.l1 s) (Us.l2 s) (Us.l3 s) (Us.l4 s) (Us.l5 s) (Us.b0 s) (Us.b1 s) (Us.b2 s) (Us.b3 s) (Us.b4 s) (Us.b5 s) (Us.b6 s) (Us.it s) (Value.ref 22))) := by
  refine CT_of [] mt_X11_trace (by decide +kernel) (tab_X11 hf) okX11_trace (Nat.le_of_ble_eq_true rfl) ?_
  intro J hJ hD
  refine hJ 0 _ _ _ ?_
  refine hJ 11 _ _ _ ?_
  refine CALL_sub (r := some (.int (m_X10_bodyAt_c3 (Uc.ra (Us.k1 s)) (Us.b1 s) x))) (h' := wUs (Us.nw s) (Us.kp s) (Us.ah s) (Us.h s) (Us.k0 s) (Us.k1 s) (Us.k2 s) (Us.k3 s) (Us.k4 s) (Us.k5 s) (Us.k6 s) (Us.st s) (Us.l0 s) (Us.l1 s) (Us.l2 s) (Us.l3 s) (Us.l4 s) (Us.l5 s) (Us.b0 s) (Us.b1 s) (Us.b2 s) (Us.b3 s) (Us.b4 s) (Us.b5 s) (Us.b6 s) (Us.it s) (Value.ref 22)) [22, 64] (by decide) (c_X10_bodyAt_c3 l hf (Us.k1 s, Us.b1 s) x) rfl rfl (by decide) (by decide) rfl ?_
  exact And.intro True.intro (DPi (rfl))
def m_X11_count_a2 (znw_c_sz : Int32) (znw_c_sg : Int32) (znw_c_lg : Int32) (znw_se_n : Int32) (znw_pl_n : Int32) (znw_bk_n : Int32) (zk1_ra : Int32) (x : Int32) : Int32 := if x = nI 0 then znw_c_sz else (if x = nI 1 then znw_c_lg else (if x = nI 2 then znw_se_n else (if x = nI 3 then znw_pl_n else (if x = nI 4 then znw_bk_n else (if x = nI 5 then znw_c_sg else (if x = nI 6 then zk1_ra else (-nI 1)))))))
set_option maxRecDepth 100000 in
set_option maxHeartbeats 400000 in
theorem c_X11_count_a2 (l : Launch) {fv : Value} (hf : FV fv) (s : Us) (x : Int32) : CT l fv 2 jX11_count [.ref 0, .int x] (wUs (Us.nw s) (Us.kp s) (Us.ah s) (Us.h s) (Us.k0 s) (Us.k1 s) (Us.k2 s) (Us.k3 s) (Us.k4 s) (Us.k5 s) (Us.k6 s) (Us.st s) (Us.l0 s) (Us.l1 s) (Us.l2 s) (Us.l3 s) (Us.l4 s) (Us.l5 s) (Us.b0 s) (Us.b1 s) (Us.b2 s) (Us.b3 s) (Us.b4 s) (Us.b5 s) (Us.b6 s) (Us.it s) (Value.ref 22)) (DP (some (.int (m_X11_count_a2 (Sc.sz (Sf.c (Us.nw s))) (Sc.sg (Sf.c (Us.nw s))) (Sc.lg (Sf.c (Us.nw s))) (Tb.n (Sf.se (Us.nw s))) (Tb.n (Sf.pl (Us.nw s))) (Tb.n (Sf.bk (Us.nw s))) (Uc.ra (Us.k1 s)) x))) (wUs (Us.nw s) (Us.kp s) (Us.ah s) (Us.h s) (Us.k0 s) (Us.k1 s) (Us.k2 s) (Us.k3 s) (Us.k4 s) (Us.k5 s) (Us.k6 s) (Us.st s) (Us.l0 s) (Us.l1 s) (Us.l2 s) (Us.l3 s) (Us.l4 s) (Us.l5 s) (Us.b0 s) (Us.b1 s) (Us.b2 s) (Us.b3 s) (Us.b4 s) (Us.b5 s) (Us.b6 s) (Us.it s) (Value.ref 22))) := by
  refine CT_of [] mt_X11_count (by decide +kernel) (tab_X11 hf) okX11_count (Nat.le_of_ble_eq_true rfl) ?_
  intro J hJ hD
  refine hJ 0 _ _ _ ?_
  refine And.intro (fun c1 => ?_) (And.intro (by decide) (And.intro (fun c2 => ?_) (And.intro (fun c3 => ?_) (And.intro (fun c4 => ?_) (And.intro (fun c5 => ?_) (And.intro (fun c6 => ?_) (And.intro (fun c7 => ?_) (And.intro (fun c8 => ?_) (True.intro)))))))))
  · skip
    refine hJ 120 _ _ _ ?_
    exact And.intro True.intro (DPi ((if_neg (sw_ne 0 c1 (by decide) (by decide) (by decide))).trans ((if_neg (sw_ne 1 c1 (by decide) (by decide) (by decide))).trans ((if_neg (sw_ne 2 c1 (by decide) (by decide) (by decide))).trans ((if_neg (sw_ne 3 c1 (by decide) (by decide) (by decide))).trans ((if_neg (sw_ne 4 c1 (by decide) (by decide) (by decide))).trans ((if_neg (sw_ne 5 c1 (by decide) (by decide) (by decide))).trans (if_neg (sw_ne 6 c1 (by decide) (by decide) (by decide))))))))))
  · skip
    refine hJ 44 _ _ _ ?_
    exact And.intro True.intro (DPi (if_pos (sw_eq 0 c2 rfl (by decide))))
  · skip
    refine hJ 52 _ _ _ ?_
    exact And.intro True.intro (DPi ((if_neg (sw_ot 0 c3 (by decide) (by decide))).trans (if_pos (sw_eq 1 c3 rfl (by decide)))))
  · skip
    refine hJ 60 _ _ _ ?_
    exact And.intro True.intro (DPi ((if_neg (sw_ot 0 c4 (by decide) (by decide))).trans ((if_neg (sw_ot 1 c4 (by decide) (by decide))).trans (if_pos (sw_eq 2 c4 rfl (by decide))))))
  · skip
    refine hJ 71 _ _ _ ?_
    exact And.intro True.intro (DPi ((if_neg (sw_ot 0 c5 (by decide) (by decide))).trans ((if_neg (sw_ot 1 c5 (by decide) (by decide))).trans ((if_neg (sw_ot 2 c5 (by decide) (by decide))).trans (if_pos (sw_eq 3 c5 rfl (by decide)))))))
  · skip
    refine hJ 82 _ _ _ ?_
    exact And.intro True.intro (DPi ((if_neg (sw_ot 0 c6 (by decide) (by decide))).trans ((if_neg (sw_ot 1 c6 (by decide) (by decide))).trans ((if_neg (sw_ot 2 c6 (by decide) (by decide))).trans ((if_neg (sw_ot 3 c6 (by decide) (by decide))).trans (if_pos (sw_eq 4 c6 rfl (by decide))))))))
  · skip
    refine hJ 93 _ _ _ ?_
    exact And.intro True.intro (DPi ((if_neg (sw_ot 0 c7 (by decide) (by decide))).trans ((if_neg (sw_ot 1 c7 (by decide) (by decide))).trans ((if_neg (sw_ot 2 c7 (by decide) (by decide))).trans ((if_neg (sw_ot 3 c7 (by decide) (by decide))).trans ((if_neg (sw_ot 4 c7 (by decide) (by decide))).trans (if_pos (sw_eq 5 c7 rfl (by decide)))))))))
  · skip
    refine hJ 101 _ _ _ ?_
    refine hJ 112 _ _ _ ?_
    exact And.intro True.intro (DPi ((if_neg (sw_ot 0 c8 (by decide) (by decide))).trans ((if_neg (sw_ot 1 c8 (by decide) (by decide))).trans ((if_neg (sw_ot 2 c8 (by decide) (by decide))).trans ((if_neg (sw_ot 3 c8 (by decide) (by decide))).trans ((if_neg (sw_ot 4 c8 (by decide) (by decide))).trans ((if_neg (sw_ot 5 c8 (by decide) (by decide))).trans (if_pos (sw_eq 6 c8 rfl (by decide))))))))))
def m_X11_trace_a3 (zk2_ra : Int32) (zb2 : Fn) (x : Int32) : Int32 := (m_X10_bodyAt_c2 (zk2_ra) (zb2) x)
set_option maxRecDepth 100000 in
set_option maxHeartbeats 400000 in
theorem c_X11_trace_a3 (l : Launch) {fv : Value} (hf : FV fv) (s : Us) (x : Int32) : CT l fv 2 jX11_trace [.ref 0, .int x] (wUs (Us.nw s) (Us.kp s) (Us.ah s) (Us.h s) (Us.k0 s) (Us.k1 s) (Us.k2 s) (Us.k3 s) (Us.k4 s) (Us.k5 s) (Us.k6 s) (Us.st s) (Us.l0 s) (Us.l1 s) (Us.l2 s) (Us.l3 s) (Us.l4 s) (Us.l5 s) (Us.b0 s) (Us.b1 s) (Us.b2 s) (Us.b3 s) (Us.b4 s) (Us.b5 s) (Us.b6 s) (Us.it s) (Value.ref 23)) (DP (some (.int (m_X11_trace_a3 (Uc.ra (Us.k2 s)) (Us.b2 s) x))) (wUs (Us.nw s) (Us.kp s) (Us.ah s) (Us.h s) (Us.k0 s) (Us.k1 s) (Us.k2 s) (Us.k3 s) (Us.k4 s) (Us.k5 s) (Us.k6 s) (Us.st s) (Us.l0 s) (Us.l1 s) (Us.l2 s) (Us.l3 s) (Us.l4 s) (Us.l5 s) (Us.b0 s) (Us.b1 s) (Us.b2 s) (Us.b3 s) (Us.b4 s) (Us.b5 s) (Us.b6 s) (Us.it s) (Value.ref 23))) := by
  refine CT_of [] mt_X11_trace (by decide +kernel) (tab_X11 hf) okX11_trace (Nat.le_of_ble_eq_true rfl) ?_
  intro J hJ hD
  refine hJ 0 _ _ _ ?_
  refine hJ 11 _ _ _ ?_
  refine CALL_sub (r := some (.int (m_X10_bodyAt_c2 (Uc.ra (Us.k2 s)) (Us.b2 s) x))) (h' := wUs (Us.nw s) (Us.kp s) (Us.ah s) (Us.h s) (Us.k0 s) (Us.k1 s) (Us.k2 s) (Us.k3 s) (Us.k4 s) (Us.k5 s) (Us.k6 s) (Us.st s) (Us.l0 s) (Us.l1 s) (Us.l2 s) (Us.l3 s) (Us.l4 s) (Us.l5 s) (Us.b0 s) (Us.b1 s) (Us.b2 s) (Us.b3 s) (Us.b4 s) (Us.b5 s) (Us.b6 s) (Us.it s) (Value.ref 23)) [23, 65] (by decide) (c_X10_bodyAt_c2 l hf (Us.k2 s, Us.b2 s) x) rfl rfl (by decide) (by decide) rfl ?_
  exact And.intro True.intro (DPi (rfl))
def m_X11_count_a3 (znw_c_sz : Int32) (znw_c_sg : Int32) (znw_c_lg : Int32) (znw_se_n : Int32) (znw_pl_n : Int32) (znw_bk_n : Int32) (zk2_ra : Int32) (x : Int32) : Int32 := if x = nI 0 then znw_c_sz else (if x = nI 1 then znw_c_lg else (if x = nI 2 then znw_se_n else (if x = nI 3 then znw_pl_n else (if x = nI 4 then znw_bk_n else (if x = nI 5 then znw_c_sg else (if x = nI 6 then zk2_ra else (-nI 1)))))))
set_option maxRecDepth 100000 in
set_option maxHeartbeats 400000 in
theorem c_X11_count_a3 (l : Launch) {fv : Value} (hf : FV fv) (s : Us) (x : Int32) : CT l fv 2 jX11_count [.ref 0, .int x] (wUs (Us.nw s) (Us.kp s) (Us.ah s) (Us.h s) (Us.k0 s) (Us.k1 s) (Us.k2 s) (Us.k3 s) (Us.k4 s) (Us.k5 s) (Us.k6 s) (Us.st s) (Us.l0 s) (Us.l1 s) (Us.l2 s) (Us.l3 s) (Us.l4 s) (Us.l5 s) (Us.b0 s) (Us.b1 s) (Us.b2 s) (Us.b3 s) (Us.b4 s) (Us.b5 s) (Us.b6 s) (Us.it s) (Value.ref 23)) (DP (some (.int (m_X11_count_a3 (Sc.sz (Sf.c (Us.nw s))) (Sc.sg (Sf.c (Us.nw s))) (Sc.lg (Sf.c (Us.nw s))) (Tb.n (Sf.se (Us.nw s))) (Tb.n (Sf.pl (Us.nw s))) (Tb.n (Sf.bk (Us.nw s))) (Uc.ra (Us.k2 s)) x))) (wUs (Us.nw s) (Us.kp s) (Us.ah s) (Us.h s) (Us.k0 s) (Us.k1 s) (Us.k2 s) (Us.k3 s) (Us.k4 s) (Us.k5 s) (Us.k6 s) (Us.st s) (Us.l0 s) (Us.l1 s) (Us.l2 s) (Us.l3 s) (Us.l4 s) (Us.l5 s) (Us.b0 s) (Us.b1 s) (Us.b2 s) (Us.b3 s) (Us.b4 s) (Us.b5 s) (Us.b6 s) (Us.it s) (Value.ref 23))) := by
  refine CT_of [] mt_X11_count (by decide +kernel) (tab_X11 hf) okX11_count (Nat.le_of_ble_eq_true rfl) ?_
  intro J hJ hD
  refine hJ 0 _ _ _ ?_
  refine And.intro (fun c1 => ?_) (And.intro (by decide) (And.intro (fun c2 => ?_) (And.intro (fun c3 => ?_) (And.intro (fun c4 => ?_) (And.intro (fun c5 => ?_) (And.intro (fun c6 => ?_) (And.intro (fun c7 => ?_) (And.intro (fun c8 => ?_) (True.intro)))))))))
  · skip
    refine hJ 120 _ _ _ ?_
    exact And.intro True.intro (DPi ((if_neg (sw_ne 0 c1 (by decide) (by decide) (by decide))).trans ((if_neg (sw_ne 1 c1 (by decide) (by decide) (by decide))).trans ((if_neg (sw_ne 2 c1 (by decide) (by decide) (by decide))).trans ((if_neg (sw_ne 3 c1 (by decide) (by decide) (by decide))).trans ((if_neg (sw_ne 4 c1 (by decide) (by decide) (by decide))).trans ((if_neg (sw_ne 5 c1 (by decide) (by decide) (by decide))).trans (if_neg (sw_ne 6 c1 (by decide) (by decide) (by decide))))))))))
  · skip
    refine hJ 44 _ _ _ ?_
    exact And.intro True.intro (DPi (if_pos (sw_eq 0 c2 rfl (by decide))))
  · skip
    refine hJ 52 _ _ _ ?_
    exact And.intro True.intro (DPi ((if_neg (sw_ot 0 c3 (by decide) (by decide))).trans (if_pos (sw_eq 1 c3 rfl (by decide)))))
  · skip
    refine hJ 60 _ _ _ ?_
    exact And.intro True.intro (DPi ((if_neg (sw_ot 0 c4 (by decide) (by decide))).trans ((if_neg (sw_ot 1 c4 (by decide) (by decide))).trans (if_pos (sw_eq 2 c4 rfl (by decide))))))
  · skip
    refine hJ 71 _ _ _ ?_
    exact And.intro True.intro (DPi ((if_neg (sw_ot 0 c5 (by decide) (by decide))).trans ((if_neg (sw_ot 1 c5 (by decide) (by decide))).trans ((if_neg (sw_ot 2 c5 (by decide) (by decide))).trans (if_pos (sw_eq 3 c5 rfl (by decide)))))))
  · skip
    refine hJ 82 _ _ _ ?_
    exact And.intro True.intro (DPi ((if_neg (sw_ot 0 c6 (by decide) (by decide))).trans ((if_neg (sw_ot 1 c6 (by decide) (by decide))).trans ((if_neg (sw_ot 2 c6 (by decide) (by decide))).trans ((if_neg (sw_ot 3 c6 (by decide) (by decide))).trans (if_pos (sw_eq 4 c6 rfl (by decide))))))))
  · skip
    refine hJ 93 _ _ _ ?_
    exact And.intro True.intro (DPi ((if_neg (sw_ot 0 c7 (by decide) (by decide))).trans ((if_neg (sw_ot 1 c7 (by decide) (by decide))).trans ((if_neg (sw_ot 2 c7 (by decide) (by decide))).trans ((if_neg (sw_ot 3 c7 (by decide) (by decide))).trans ((if_neg (sw_ot 4 c7 (by decide) (by decide))).trans (if_pos (sw_eq 5 c7 rfl (by decide)))))))))
  · skip
    refine hJ 101 _ _ _ ?_
    refine hJ 112 _ _ _ ?_
    exact And.intro True.intro (DPi ((if_neg (sw_ot 0 c8 (by decide) (by decide))).trans ((if_neg (sw_ot 1 c8 (by decide) (by decide))).trans ((if_neg (sw_ot 2 c8 (by decide) (by decide))).trans ((if_neg (sw_ot 3 c8 (by decide) (by decide))).trans ((if_neg (sw_ot 4 c8 (by decide) (by decide))).trans ((if_neg (sw_ot 5 c8 (by decide) (by decide))).trans (if_pos (sw_eq 6 c8 rfl (by decide))))))))))
def m_X11_trace_a4 (zk3_ra : Int32) (zb3 : Fn) (x : Int32) : Int32 := (m_X10_bodyAt_c0 (zk3_ra) (zb3) x)
set_option maxRecDepth 100000 in
set_option maxHeartbeats 400000 in
theorem c_X11_trace_a4 (l : Launch) {fv : Value} (hf : FV fv) (s : Us) (x : Int32) : CT l fv 2 jX11_trace [.ref 0, .int x] (wUs (Us.nw s) (Us.kp s) (Us.ah s) (Us.h s) (Us.k0 s) (Us.k1 s) (Us.k2 s) (Us.k3 s) (Us.k4 s) (Us.k5 s) (Us.k6 s) (Us.st s) (Us.l0 s) (Us.l1 s) (Us.l2 s) (Us.l3 s) (Us.l4 s) (Us.l5 s) (Us.b0 s) (Us.b1 s) (Us.b2 s) (Us.b3 s) (Us.b4 s) (Us.b5 s) (Us.b6 s) (Us.it s) (Value.ref 24)) (DP (some (.int (m_X11_trace_a4 (Uc.ra (Us.k3 s)) (Us.b3 s) x))) (wUs (Us.nw s) (Us.kp s) (Us.ah s) (Us.h s) (Us.k0 s) (Us.k1 s) (Us.k2 s) (Us.k3 s) (Us.k4 s) (Us.k5 s) (Us.k6 s) (Us.st s) (Us.l0 s) (Us.l1 s) (Us.l2 s) (Us.l3 s) (Us.l4 s) (Us.l5 s) (Us.b0 s) (Us.b1 s) (Us.b2 s) (Us.b3 s) (Us.b4 s) (Us.b5 s) (Us.b6 s) (Us.it s) (Value.ref 24))) := by
  refine CT_of [] mt_X11_trace (by decide +kernel) (tab_X11 hf) okX11_trace (Nat.le_of_ble_eq_true rfl) ?_
  intro J hJ hD
  refine hJ 0 _ _ _ ?_
  refine hJ 11 _ _ _ ?_
  refine CALL_sub (r := some (.int (m_X10_bodyAt_c0 (Uc.ra (Us.k3 s)) (Us.b3 s) x))) (h' := wUs (Us.nw s) (Us.kp s) (Us.ah s) (Us.h s) (Us.k0 s) (Us.k1 s) (Us.k2 s) (Us.k3 s) (Us.k4 s) (Us.k5 s) (Us.k6 s) (Us.st s) (Us.l0 s) (Us.l1 s) (Us.l2 s) (Us.l3 s) (Us.l4 s) (Us.l5 s) (Us.b0 s) (Us.b1 s) (Us.b2 s) (Us.b3 s) (Us.b4 s) (Us.b5 s) (Us.b6 s) (Us.it s) (Value.ref 24)) [24, 66] (by decide) (c_X10_bodyAt_c0 l hf (Us.k3 s, Us.b3 s) x) rfl rfl (by decide) (by decide) rfl ?_
  exact And.intro True.intro (DPi (rfl))
def m_X11_count_a4 (znw_c_sz : Int32) (znw_c_sg : Int32) (znw_c_lg : Int32) (znw_se_n : Int32) (znw_pl_n : Int32) (znw_bk_n : Int32) (zk3_ra : Int32) (x : Int32) : Int32 := if x = nI 0 then znw_c_sz else (if x = nI 1 then znw_c_lg else (if x = nI 2 then znw_se_n else (if x = nI 3 then znw_pl_n else (if x = nI 4 then znw_bk_n else (if x = nI 5 then znw_c_sg else (if x = nI 6 then zk3_ra else (-nI 1)))))))
set_option maxRecDepth 100000 in
set_option maxHeartbeats 400000 in
theorem c_X11_count_a4 (l : Launch) {fv : Value} (hf : FV fv) (s : Us) (x : Int32) : CT l fv 2 jX11_count [.ref 0, .int x] (wUs (Us.nw s) (Us.kp s) (Us.ah s) (Us.h s) (Us.k0 s) (Us.k1 s) (Us.k2 s) (Us.k3 s) (Us.k4 s) (Us.k5 s) (Us.k6 s) (Us.st s) (Us.l0 s) (Us.l1 s) (Us.l2 s) (Us.l3 s) (Us.l4 s) (Us.l5 s) (Us.b0 s) (Us.b1 s) (Us.b2 s) (Us.b3 s) (Us.b4 s) (Us.b5 s) (Us.b6 s) (Us.it s) (Value.ref 24)) (DP (some (.int (m_X11_count_a4 (Sc.sz (Sf.c (Us.nw s))) (Sc.sg (Sf.c (Us.nw s))) (Sc.lg (Sf.c (Us.nw s))) (Tb.n (Sf.se (Us.nw s))) (Tb.n (Sf.pl (Us.nw s))) (Tb.n (Sf.bk (Us.nw s))) (Uc.ra (Us.k3 s)) x))) (wUs (Us.nw s) (Us.kp s) (Us.ah s) (Us.h s) (Us.k0 s) (Us.k1 s) (Us.k2 s) (Us.k3 s) (Us.k4 s) (Us.k5 s) (Us.k6 s) (Us.st s) (Us.l0 s) (Us.l1 s) (Us.l2 s) (Us.l3 s) (Us.l4 s) (Us.l5 s) (Us.b0 s) (Us.b1 s) (Us.b2 s) (Us.b3 s) (Us.b4 s) (Us.b5 s) (Us.b6 s) (Us.it s) (Value.ref 24))) := by
  refine CT_of [] mt_X11_count (by decide +kernel) (tab_X11 hf) okX11_count (Nat.le_of_ble_eq_true rfl) ?_
  intro J hJ hD
  refine hJ 0 _ _ _ ?_
  refine And.intro (fun c1 => ?_) (And.intro (by decide) (And.intro (fun c2 => ?_) (And.intro (fun c3 => ?_) (And.intro (fun c4 => ?_) (And.intro (fun c5 => ?_) (And.intro (fun c6 => ?_) (And.intro (fun c7 => ?_) (And.intro (fun c8 => ?_) (True.intro)))))))))
  · skip
    refine hJ 120 _ _ _ ?_
    exact And.intro True.intro (DPi ((if_neg (sw_ne 0 c1 (by decide) (by decide) (by decide))).trans ((if_neg (sw_ne 1 c1 (by decide) (by decide) (by decide))).trans ((if_neg (sw_ne 2 c1 (by decide) (by decide) (by decide))).trans ((if_neg (sw_ne 3 c1 (by decide) (by decide) (by decide))).trans ((if_neg (sw_ne 4 c1 (by decide) (by decide) (by decide))).trans ((if_neg (sw_ne 5 c1 (by decide) (by decide) (by decide))).trans (if_neg (sw_ne 6 c1 (by decide) (by decide) (by decide))))))))))
  · skip
    refine hJ 44 _ _ _ ?_
    exact And.intro True.intro (DPi (if_pos (sw_eq 0 c2 rfl (by decide))))
  · skip
    refine hJ 52 _ _ _ ?_
    exact And.intro True.intro (DPi ((if_neg (sw_ot 0 c3 (by decide) (by decide))).trans (if_pos (sw_eq 1 c3 rfl (by decide)))))
  · skip
    refine hJ 60 _ _ _ ?_
    exact And.intro True.intro (DPi ((if_neg (sw_ot 0 c4 (by decide) (by decide))).trans ((if_neg (sw_ot 1 c4 (by decide) (by decide))).trans (if_pos (sw_eq 2 c4 rfl (by decide))))))
  · skip
    refine hJ 71 _ _ _ ?_
    exact And.intro True.intro (DPi ((if_neg (sw_ot 0 c5 (by decide) (by decide))).trans ((if_neg (sw_ot 1 c5 (by decide) (by decide))).trans ((if_neg (sw_ot 2 c5 (by decide) (by decide))).trans (if_pos (sw_eq 3 c5 rfl (by decide)))))))
  · skip
    refine hJ 82 _ _ _ ?_
    exact And.intro True.intro (DPi ((if_neg (sw_ot 0 c6 (by decide) (by decide))).trans ((if_neg (sw_ot 1 c6 (by decide) (by decide))).trans ((if_neg (sw_ot 2 c6 (by decide) (by decide))).trans ((if_neg (sw_ot 3 c6 (by decide) (by decide))).trans (if_pos (sw_eq 4 c6 rfl (by decide))))))))
  · skip
    refine hJ 93 _ _ _ ?_
    exact And.intro True.intro (DPi ((if_neg (sw_ot 0 c7 (by decide) (by decide))).trans ((if_neg (sw_ot 1 c7 (by decide) (by decide))).trans ((if_neg (sw_ot 2 c7 (by decide) (by decide))).trans ((if_neg (sw_ot 3 c7 (by decide) (by decide))).trans ((if_neg (sw_ot 4 c7 (by decide) (by decide))).trans (if_pos (sw_eq 5 c7 rfl (by decide)))))))))
  · skip
    refine hJ 101 _ _ _ ?_
    refine hJ 112 _ _ _ ?_
    exact And.intro True.intro (DPi ((if_neg (sw_ot 0 c8 (by decide) (by decide))).trans ((if_neg (sw_ot 1 c8 (by decide) (by decide))).trans ((if_neg (sw_ot 2 c8 (by decide) (by decide))).trans ((if_neg (sw_ot 3 c8 (by decide) (by decide))).trans ((if_neg (sw_ot 4 c8 (by decide) (by decide))).trans ((if_neg (sw_ot 5 c8 (by decide) (by decide))).trans (if_pos (sw_eq 6 c8 rfl (by decide))))))))))
def m_X11_trace_a5 (zk4_ra : Int32) (zb4 : Fn) (x : Int32) : Int32 := (m_X10_bodyAt_c5 (zk4_ra) (zb4) x)
set_option maxRecDepth 100000 in
set_option maxHeartbeats 400000 in
theorem c_X11_trace_a5 (l : Launch) {fv : Value} (hf : FV fv) (s : Us) (x : Int32) : CT l fv 2 jX11_trace [.ref 0, .int x] (wUs (Us.nw s) (Us.kp s) (Us.ah s) (Us.h s) (Us.k0 s) (Us.k1 s) (Us.k2 s) (Us.k3 s) (Us.k4 s) (Us.k5 s) (Us.k6 s) (Us.st s) (Us.l0 s) (Us.l1 s) (Us.l2 s) (Us.l3 s) (Us.l4 s) (Us.l5 s) (Us.b0 s) (Us.b1 s) (Us.b2 s) (Us.b3 s) (Us.b4 s) (Us.b5 s) (Us.b6 s) (Us.it s) (Value.ref 25)) (DP (some (.int (m_X11_trace_a5 (Uc.ra (Us.k4 s)) (Us.b4 s) x))) (wUs (Us.nw s) (Us.kp s) (Us.ah s) (Us.h s) (Us.k0 s) (Us.k1 s) (Us.k2 s) (Us.k3 s) (Us.k4 s) (Us.k5 s) (Us.k6 s) (Us.st s) (Us.l0 s) (Us.l1 s) (Us.l2 s) (Us.l3 s) (Us.l4 s) (Us.l5 s) (Us.b0 s) (Us.b1 s) (Us.b2 s) (Us.b3 s) (Us.b4 s) (Us.b5 s) (Us.b6 s) (Us.it s) (Value.ref 25))) := by
  refine CT_of [] mt_X11_trace (by decide +kernel) (tab_X11 hf) okX11_trace (Nat.le_of_ble_eq_true rfl) ?_
  intro J hJ hD
  refine hJ 0 _ _ _ ?_
  refine hJ 11 _ _ _ ?_
  refine CALL_sub (r := some (.int (m_X10_bodyAt_c5 (Uc.ra (Us.k4 s)) (Us.b4 s) x))) (h' := wUs (Us.nw s) (Us.kp s) (Us.ah s) (Us.h s) (Us.k0 s) (Us.k1 s) (Us.k2 s) (Us.k3 s) (Us.k4 s) (Us.k5 s) (Us.k6 s) (Us.st s) (Us.l0 s) (Us.l1 s) (Us.l2 s) (Us.l3 s) (Us.l4 s) (Us.l5 s) (Us.b0 s) (Us.b1 s) (Us.b2 s) (Us.b3 s) (Us.b4 s) (Us.b5 s) (Us.b6 s) (Us.it s) (Value.ref 25)) [25, 67] (by decide) (c_X10_bodyAt_c5 l hf (Us.k4 s, Us.b4 s) x) rfl rfl (by decide) (by decide) rfl ?_
  exact And.intro True.intro (DPi (rfl))
def m_X11_count_a5 (znw_c_sz : Int32) (znw_c_sg : Int32) (znw_c_lg : Int32) (znw_se_n : Int32) (znw_pl_n : Int32) (znw_bk_n : Int32) (zk4_ra : Int32) (x : Int32) : Int32 := if x = nI 0 then znw_c_sz else (if x = nI 1 then znw_c_lg else (if x = nI 2 then znw_se_n else (if x = nI 3 then znw_pl_n else (if x = nI 4 then znw_bk_n else (if x = nI 5 then znw_c_sg else (if x = nI 6 then zk4_ra else (-nI 1)))))))
set_option maxRecDepth 100000 in
set_option maxHeartbeats 400000 in
theorem c_X11_count_a5 (l : Launch) {fv : Value} (hf : FV fv) (s : Us) (x : Int32) : CT l fv 2 jX11_count [.ref 0, .int x] (wUs (Us.nw s) (Us.kp s) (Us.ah s) (Us.h s) (Us.k0 s) (Us.k1 s) (Us.k2 s) (Us.k3 s) (Us.k4 s) (Us.k5 s) (Us.k6 s) (Us.st s) (Us.l0 s) (Us.l1 s) (Us.l2 s) (Us.l3 s) (Us.l4 s) (Us.l5 s) (Us.b0 s) (Us.b1 s) (Us.b2 s) (Us.b3 s) (Us.b4 s) (Us.b5 s) (Us.b6 s) (Us.it s) (Value.ref 25)) (DP (some (.int (m_X11_count_a5 (Sc.sz (Sf.c (Us.nw s))) (Sc.sg (Sf.c (Us.nw s))) (Sc.lg (Sf.c (Us.nw s))) (Tb.n (Sf.se (Us.nw s))) (Tb.n (Sf.pl (Us.nw s))) (Tb.n (Sf.bk (Us.nw s))) (Uc.ra (Us.k4 s)) x))) (wUs (Us.nw s) (Us.kp s) (Us.ah s) (Us.h s) (Us.k0 s) (Us.k1 s) (Us.k2 s) (Us.k3 s) (Us.k4 s) (Us.k5 s) (Us.k6 s) (Us.st s) (Us.l0 s) (Us.l1 s) (Us.l2 s) (Us.l3 s) (Us.l4 s) (Us.l5 s) (Us.b0 s) (Us.b1 s) (Us.b2 s) (Us.b3 s) (Us.b4 s) (Us.b5 s) (Us.b6 s) (Us.it s) (Value.ref 25))) := by
  refine CT_of [] mt_X11_count (by decide +kernel) (tab_X11 hf) okX11_count (Nat.le_of_ble_eq_true rfl) ?_
  intro J hJ hD
  refine hJ 0 _ _ _ ?_
  refine And.intro (fun c1 => ?_) (And.intro (by decide) (And.intro (fun c2 => ?_) (And.intro (fun c3 => ?_) (And.intro (fun c4 => ?_) (And.intro (fun c5 => ?_) (And.intro (fun c6 => ?_) (And.intro (fun c7 => ?_) (And.intro (fun c8 => ?_) (True.intro)))))))))
  · skip
    refine hJ 120 _ _ _ ?_
    exact And.intro True.intro (DPi ((if_neg (sw_ne 0 c1 (by decide) (by decide) (by decide))).trans ((if_neg (sw_ne 1 c1 (by decide) (by decide) (by decide))).trans ((if_neg (sw_ne 2 c1 (by decide) (by decide) (by decide))).trans ((if_neg (sw_ne 3 c1 (by decide) (by decide) (by decide))).trans ((if_neg (sw_ne 4 c1 (by decide) (by decide) (by decide))).trans ((if_neg (sw_ne 5 c1 (by decide) (by decide) (by decide))).trans (if_neg (sw_ne 6 c1 (by decide) (by decide) (by decide))))))))))
  · skip
    refine hJ 44 _ _ _ ?_
    exact And.intro True.intro (DPi (if_pos (sw_eq 0 c2 rfl (by decide))))
  · skip
    refine hJ 52 _ _ _ ?_
    exact And.intro True.intro (DPi ((if_neg (sw_ot 0 c3 (by decide) (by decide))).trans (if_pos (sw_eq 1 c3 rfl (by decide)))))
  · skip
    refine hJ 60 _ _ _ ?_
    exact And.intro True.intro (DPi ((if_neg (sw_ot 0 c4 (by decide) (by decide))).trans ((if_neg (sw_ot 1 c4 (by decide) (by decide))).trans (if_pos (sw_eq 2 c4 rfl (by decide))))))
  · skip
    refine hJ 71 _ _ _ ?_
    exact And.intro True.intro (DPi ((if_neg (sw_ot 0 c5 (by decide) (by decide))).trans ((if_neg (sw_ot 1 c5 (by decide) (by decide))).trans ((if_neg (sw_ot 2 c5 (by decide) (by decide))).trans (if_pos (sw_eq 3 c5 rfl (by decide)))))))
  · skip
    refine hJ 82 _ _ _ ?_
    exact And.intro True.intro (DPi ((if_neg (sw_ot 0 c6 (by decide) (by decide))).trans ((if_neg (sw_ot 1 c6 (by decide) (by decide))).trans ((if_neg (sw_ot 2 c6 (by decide) (by decide))).trans ((if_neg (sw_ot 3 c6 (by decide) (by decide))).trans (if_pos (sw_eq 4 c6 rfl (by decide))))))))
  · skip
    refine hJ 93 _ _ _ ?_
    exact And.intro True.intro (DPi ((if_neg (sw_ot 0 c7 (by decide) (by decide))).trans ((if_neg (sw_ot 1 c7 (by decide) (by decide))).trans ((if_neg (sw_ot 2 c7 (by decide) (by decide))).trans ((if_neg (sw_ot 3 c7 (by decide) (by decide))).trans ((if_neg (sw_ot 4 c7 (by decide) (by decide))).trans (if_pos (sw_eq 5 c7 rfl (by decide)))))))))
  · skip
    refine hJ 101 _ _ _ ?_
    refine hJ 112 _ _ _ ?_
    exact And.intro True.intro (DPi ((if_neg (sw_ot 0 c8 (by decide) (by decide))).trans ((if_neg (sw_ot 1 c8 (by decide) (by decide))).trans ((if_neg (sw_ot 2 c8 (by decide) (by decide))).trans ((if_neg (sw_ot 3 c8 (by decide) (by decide))).trans ((if_neg (sw_ot 4 c8 (by decide) (by decide))).trans ((if_neg (sw_ot 5 c8 (by decide) (by decide))).trans (if_pos (sw_eq 6 c8 rfl (by decide))))))))))
def m_X11_trace_a6 (zk5_ra : Int32) (zb5 : Fn) (x : Int32) : Int32 := (m_X10_bodyAt_c6 (zk5_ra) (zb5) x)
set_option maxRecDepth 100000 in
set_option maxHeartbeats 400000 in
theorem c_X11_trace_a6 (l : Launch) {fv : Value} (hf : FV fv) (s : Us) (x : Int32) : CT l fv 2 jX11_trace [.ref 0, .int x] (wUs (Us.nw s) (Us.kp s) (Us.ah s) (Us.h s) (Us.k0 s) (Us.k1 s) (Us.k2 s) (Us.k3 s) (Us.k4 s) (Us.k5 s) (Us.k6 s) (Us.st s) (Us.l0 s) (Us.l1 s) (Us.l2 s) (Us.l3 s) (Us.l4 s) (Us.l5 s) (Us.b0 s) (Us.b1 s) (Us.b2 s) (Us.b3 s) (Us.b4 s) (Us.b5 s) (Us.b6 s) (Us.it s) (Value.ref 26)) (DP (some (.int (m_X11_trace_a6 (Uc.ra (Us.k5 s)) (Us.b5 s) x))) (wUs (Us.nw s) (Us.kp s) (Us.ah s) (Us.h s) (Us.k0 s) (Us.k1 s) (Us.k2 s) (Us.k3 s) (Us.k4 s) (Us.k5 s) (Us.k6 s) (Us.st s) (Us.l0 s) (Us.l1 s) (Us.l2 s) (Us.l3 s) (Us.l4 s) (Us.l5 s) (Us.b0 s) (Us.b1 s) (Us.b2 s) (Us.b3 s) (Us.b4 s) (Us.b5 s) (Us.b6 s) (Us.it s) (Value.ref 26))) := by
  refine CT_of [] mt_X11_trace (by decide +kernel) (tab_X11 hf) okX11_trace (Nat.le_of_ble_eq_true rfl) ?_
  intro J hJ hD
  refine hJ 0 _ _ _ ?_
  refine hJ 11 _ _ _ ?_
  refine CALL_sub (r := some (.int (m_X10_bodyAt_c6 (Uc.ra (Us.k5 s)) (Us.b5 s) x))) (h' := wUs (Us.nw s) (Us.kp s) (Us.ah s) (Us.h s) (Us.k0 s) (Us.k1 s) (Us.k2 s) (Us.k3 s) (Us.k4 s) (Us.k5 s) (Us.k6 s) (Us.st s) (Us.l0 s) (Us.l1 s) (Us.l2 s) (Us.l3 s) (Us.l4 s) (Us.l5 s) (Us.b0 s) (Us.b1 s) (Us.b2 s) (Us.b3 s) (Us.b4 s) (Us.b5 s) (Us.b6 s) (Us.it s) (Value.ref 26)) [26, 68] (by decide) (c_X10_bodyAt_c6 l hf (Us.k5 s, Us.b5 s) x) rfl rfl (by decide) (by decide) rfl ?_
  exact And.intro True.intro (DPi (rfl))
def m_X11_count_a6 (znw_c_sz : Int32) (znw_c_sg : Int32) (znw_c_lg : Int32) (znw_se_n : Int32) (znw_pl_n : Int32) (znw_bk_n : Int32) (zk5_ra : Int32) (x : Int32) : Int32 := if x = nI 0 then znw_c_sz else (if x = nI 1 then znw_c_lg else (if x = nI 2 then znw_se_n else (if x = nI 3 then znw_pl_n else (if x = nI 4 then znw_bk_n else (if x = nI 5 then znw_c_sg else (if x = nI 6 then zk5_ra else (-nI 1)))))))
set_option maxRecDepth 100000 in
set_option maxHeartbeats 400000 in
theorem c_X11_count_a6 (l : Launch) {fv : Value} (hf : FV fv) (s : Us) (x : Int32) : CT l fv 2 jX11_count [.ref 0, .int x] (wUs (Us.nw s) (Us.kp s) (Us.ah s) (Us.h s) (Us.k0 s) (Us.k1 s) (Us.k2 s) (Us.k3 s) (Us.k4 s) (Us.k5 s) (Us.k6 s) (Us.st s) (Us.l0 s) (Us.l1 s) (Us.l2 s) (Us.l3 s) (Us.l4 s) (Us.l5 s) (Us.b0 s) (Us.b1 s) (Us.b2 s) (Us.b3 s) (Us.b4 s) (Us.b5 s) (Us.b6 s) (Us.it s) (Value.ref 26)) (DP (some (.int (m_X11_count_a6 (Sc.sz (Sf.c (Us.nw s))) (Sc.sg (Sf.c (Us.nw s))) (Sc.lg (Sf.c (Us.nw s))) (Tb.n (Sf.se (Us.nw s))) (Tb.n (Sf.pl (Us.nw s))) (Tb.n (Sf.bk (Us.nw s))) (Uc.ra (Us.k5 s)) x))) (wUs (Us.nw s) (Us.kp s) (Us.ah s) (Us.h s) (Us.k0 s) (Us.k1 s) (Us.k2 s) (Us.k3 s) (Us.k4 s) (Us.k5 s) (Us.k6 s) (Us.st s) (Us.l0 s) (Us.l1 s) (Us.l2 s) (Us.l3 s) (Us.l4 s) (Us.l5 s) (Us.b0 s) (Us.b1 s) (Us.b2 s) (Us.b3 s) (Us.b4 s) (Us.b5 s) (Us.b6 s) (Us.it s) (Value.ref 26))) := by
  refine CT_of [] mt_X11_count (by decide +kernel) (tab_X11 hf) okX11_count (Nat.le_of_ble_eq_true rfl) ?_
  intro J hJ hD
  refine hJ 0 _ _ _ ?_
  refine And.intro (fun c1 => ?_) (And.intro (by decide) (And.intro (fun c2 => ?_) (And.intro (fun c3 => ?_) (And.intro (fun c4 => ?_) (And.intro (fun c5 => ?_) (And.intro (fun c6 => ?_) (And.intro (fun c7 => ?_) (And.intro (fun c8 => ?_) (True.intro)))))))))
  · skip
    refine hJ 120 _ _ _ ?_
    exact And.intro True.intro (DPi ((if_neg (sw_ne 0 c1 (by decide) (by decide) (by decide))).trans ((if_neg (sw_ne 1 c1 (by decide) (by decide) (by decide))).trans ((if_neg (sw_ne 2 c1 (by decide) (by decide) (by decide))).trans ((if_neg (sw_ne 3 c1 (by decide) (by decide) (by decide))).trans ((if_neg (sw_ne 4 c1 (by decide) (by decide) (by decide))).trans ((if_neg (sw_ne 5 c1 (by decide) (by decide) (by decide))).trans (if_neg (sw_ne 6 c1 (by decide) (by decide) (by decide))))))))))
  · skip
    refine hJ 44 _ _ _ ?_
    exact And.intro True.intro (DPi (if_pos (sw_eq 0 c2 rfl (by decide))))
  · skip
    refine hJ 52 _ _ _ ?_
    exact And.intro True.intro (DPi ((if_neg (sw_ot 0 c3 (by decide) (by decide))).trans (if_pos (sw_eq 1 c3 rfl (by decide)))))
  · skip
    refine hJ 60 _ _ _ ?_
    exact And.intro True.intro (DPi ((if_neg (sw_ot 0 c4 (by decide) (by decide))).trans ((if_neg (sw_ot 1 c4 (by decide) (by decide))).trans (if_pos (sw_eq 2 c4 rfl (by decide))))))
  · skip
    refine hJ 71 _ _ _ ?_
    exact And.intro True.intro (DPi ((if_neg (sw_ot 0 c5 (by decide) (by decide))).trans ((if_neg (sw_ot 1 c5 (by decide) (by decide))).trans ((if_neg (sw_ot 2 c5 (by decide) (by decide))).trans (if_pos (sw_eq 3 c5 rfl (by decide)))))))
  · skip
    refine hJ 82 _ _ _ ?_
    exact And.intro True.intro (DPi ((if_neg (sw_ot 0 c6 (by decide) (by decide))).trans ((if_neg (sw_ot 1 c6 (by decide) (by decide))).trans ((if_neg (sw_ot 2 c6 (by decide) (by decide))).trans ((if_neg (sw_ot 3 c6 (by decide) (by decide))).trans (if_pos (sw_eq 4 c6 rfl (by decide))))))))
  · skip
    refine hJ 93 _ _ _ ?_
    exact And.intro True.intro (DPi ((if_neg (sw_ot 0 c7 (by decide) (by decide))).trans ((if_neg (sw_ot 1 c7 (by decide) (by decide))).trans ((if_neg (sw_ot 2 c7 (by decide) (by decide))).trans ((if_neg (sw_ot 3 c7 (by decide) (by decide))).trans ((if_neg (sw_ot 4 c7 (by decide) (by decide))).trans (if_pos (sw_eq 5 c7 rfl (by decide)))))))))
  · skip
    refine hJ 101 _ _ _ ?_
    refine hJ 112 _ _ _ ?_
    exact And.intro True.intro (DPi ((if_neg (sw_ot 0 c8 (by decide) (by decide))).trans ((if_neg (sw_ot 1 c8 (by decide) (by decide))).trans ((if_neg (sw_ot 2 c8 (by decide) (by decide))).trans ((if_neg (sw_ot 3 c8 (by decide) (by decide))).trans ((if_neg (sw_ot 4 c8 (by decide) (by decide))).trans ((if_neg (sw_ot 5 c8 (by decide) (by decide))).trans (if_pos (sw_eq 6 c8 rfl (by decide))))))))))
def m_X11_trace_a7 (zk6_ra : Int32) (zb6 : Fn) (x : Int32) : Int32 := (m_X10_bodyAt_c9 (zk6_ra) (zb6) x)
set_option maxRecDepth 100000 in
set_option maxHeartbeats 400000 in
theorem c_X11_trace_a7 (l : Launch) {fv : Value} (hf : FV fv) (s : Us) (x : Int32) : CT l fv 2 jX11_trace [.ref 0, .int x] (wUs (Us.nw s) (Us.kp s) (Us.ah s) (Us.h s) (Us.k0 s) (Us.k1 s) (Us.k2 s) (Us.k3 s) (Us.k4 s) (Us.k5 s) (Us.k6 s) (Us.st s) (Us.l0 s) (Us.l1 s) (Us.l2 s) (Us.l3 s) (Us.l4 s) (Us.l5 s) (Us.b0 s) (Us.b1 s) (Us.b2 s) (Us.b3 s) (Us.b4 s) (Us.b5 s) (Us.b6 s) (Us.it s) (Value.ref 27)) (DP (some (.int (m_X11_trace_a7 (Uc.ra (Us.k6 s)) (Us.b6 s) x))) (wUs (Us.nw s) (Us.kp s) (Us.ah s) (Us.h s) (Us.k0 s) (Us.k1 s) (Us.k2 s) (Us.k3 s) (Us.k4 s) (Us.k5 s) (Us.k6 s) (Us.st s) (Us.l0 s) (Us.l1 s) (Us.l2 s) (Us.l3 s) (Us.l4 s) (Us.l5 s) (Us.b0 s) (Us.b1 s) (Us.b2 s) (Us.b3 s) (Us.b4 s) (Us.b5 s) (Us.b6 s) (Us.it s) (Value.ref 27))) := by
  refine CT_of [] mt_X11_trace (by decide +kernel) (tab_X11 hf) okX11_trace (Nat.le_of_ble_eq_true rfl) ?_
  intro J hJ hD
  refine hJ 0 _ _ _ ?_
  refine hJ 11 _ _ _ ?_
  refine CALL_sub (r := some (.int (m_X10_bodyAt_c9 (Uc.ra (Us.k6 s)) (Us.b6 s) x))) (h' := wUs (Us.nw s) (Us.kp s) (Us.ah s) (Us.h s) (Us.k0 s) (Us.k1 s) (Us.k2 s) (Us.k3 s) (Us.k4 s) (Us.k5 s) (Us.k6 s) (Us.st s) (Us.l0 s) (Us.l1 s) (Us.l2 s) (Us.l3 s) (Us.l4 s) (Us.l5 s) (Us.b0 s) (Us.b1 s) (Us.b2 s) (Us.b3 s) (Us.b4 s) (Us.b5 s) (Us.b6 s) (Us.it s) (Value.ref 27)) [27, 69] (by decide) (c_X10_bodyAt_c9 l hf (Us.k6 s, Us.b6 s) x) rfl rfl (by decide) (by decide) rfl ?_
  exact And.intro True.intro (DPi (rfl))
def m_X11_count_a7 (znw_c_sz : Int32) (znw_c_sg : Int32) (znw_c_lg : Int32) (znw_se_n : Int32) (znw_pl_n : Int32) (znw_bk_n : Int32) (zk6_ra : Int32) (x : Int32) : Int32 := if x = nI 0 then znw_c_sz else (if x = nI 1 then znw_c_lg else (if x = nI 2 then znw_se_n else (if x = nI 3 then znw_pl_n else (if x = nI 4 then znw_bk_n else (if x = nI 5 then znw_c_sg else (if x = nI 6 then zk6_ra else (-nI 1)))))))
set_option maxRecDepth 100000 in
set_option maxHeartbeats 400000 in
theorem c_X11_count_a7 (l : Launch) {fv : Value} (hf : FV fv) (s : Us) (x : Int32) : CT l fv 2 jX11_count [.ref 0, .int x] (wUs (Us.nw s) (Us.kp s) (Us.ah s) (Us.h s) (Us.k0 s) (Us.k1 s) (Us.k2 s) (Us.k3 s) (Us.k4 s) (Us.k5 s) (Us.k6 s) (Us.st s) (Us.l0 s) (Us.l1 s) (Us.l2 s) (Us.l3 s) (Us.l4 s) (Us.l5 s) (Us.b0 s) (Us.b1 s) (Us.b2 s) (Us.b3 s) (Us.b4 s) (Us.b5 s) (Us.b6 s) (Us.it s) (Value.ref 27)) (DP (some (.int (m_X11_count_a7 (Sc.sz (Sf.c (Us.nw s))) (Sc.sg (Sf.c (Us.nw s))) (Sc.lg (Sf.c (Us.nw s))) (Tb.n (Sf.se (Us.nw s))) (Tb.n (Sf.pl (Us.nw s))) (Tb.n (Sf.bk (Us.nw s))) (Uc.ra (Us.k6 s)) x))) (wUs (Us.nw s) (Us.kp s) (Us.ah s) (Us.h s) (Us.k0 s) (Us.k1 s) (Us.k2 s) (Us.k3 s) (Us.k4 s) (Us.k5 s) (Us.k6 s) (Us.st s) (Us.l0 s) (Us.l1 s) (Us.l2 s) (Us.l3 s) (Us.l4 s) (Us.l5 s) (Us.b0 s) (Us.b1 s) (Us.b2 s) (Us.b3 s) (Us.b4 s) (Us.b5 s) (Us.b6 s) (Us.it s) (Value.ref 27))) := by
  refine CT_of [] mt_X11_count (by decide +kernel) (tab_X11 hf) okX11_count (Nat.le_of_ble_eq_true rfl) ?_
  intro J hJ hD
  refine hJ 0 _ _ _ ?_
  refine And.intro (fun c1 => ?_) (And.intro (by decide) (And.intro (fun c2 => ?_) (And.intro (fun c3 => ?_) (And.intro (fun c4 => ?_) (And.intro (fun c5 => ?_) (And.intro (fun c6 => ?_) (And.intro (fun c7 => ?_) (And.intro (fun c8 => ?_) (True.intro)))))))))
  · skip
    refine hJ 120 _ _ _ ?_
    exact And.intro True.intro (DPi ((if_neg (sw_ne 0 c1 (by decide) (by decide) (by decide))).trans ((if_neg (sw_ne 1 c1 (by decide) (by decide) (by decide))).trans ((if_neg (sw_ne 2 c1 (by decide) (by decide) (by decide))).trans ((if_neg (sw_ne 3 c1 (by decide) (by decide) (by decide))).trans ((if_neg (sw_ne 4 c1 (by decide) (by decide) (by decide))).trans ((if_neg (sw_ne 5 c1 (by decide) (by decide) (by decide))).trans (if_neg (sw_ne 6 c1 (by decide) (by decide) (by decide))))))))))
  · skip
    refine hJ 44 _ _ _ ?_
    exact And.intro True.intro (DPi (if_pos (sw_eq 0 c2 rfl (by decide))))
  · skip
    refine hJ 52 _ _ _ ?_
    exact And.intro True.intro (DPi ((if_neg (sw_ot 0 c3 (by decide) (by decide))).trans (if_pos (sw_eq 1 c3 rfl (by decide)))))
  · skip
    refine hJ 60 _ _ _ ?_
    exact And.intro True.intro (DPi ((if_neg (sw_ot 0 c4 (by decide) (by decide))).trans ((if_neg (sw_ot 1 c4 (by decide) (by decide))).trans (if_pos (sw_eq 2 c4 rfl (by decide))))))
  · skip
    refine hJ 71 _ _ _ ?_
    exact And.intro True.intro (DPi ((if_neg (sw_ot 0 c5 (by decide) (by decide))).trans ((if_neg (sw_ot 1 c5 (by decide) (by decide))).trans ((if_neg (sw_ot 2 c5 (by decide) (by decide))).trans (if_pos (sw_eq 3 c5 rfl (by decide)))))))
  · skip
    refine hJ 82 _ _ _ ?_
    exact And.intro True.intro (DPi ((if_neg (sw_ot 0 c6 (by decide) (by decide))).trans ((if_neg (sw_ot 1 c6 (by decide) (by decide))).trans ((if_neg (sw_ot 2 c6 (by decide) (by decide))).trans ((if_neg (sw_ot 3 c6 (by decide) (by decide))).trans (if_pos (sw_eq 4 c6 rfl (by decide))))))))
  · skip
    refine hJ 93 _ _ _ ?_
    exact And.intro True.intro (DPi ((if_neg (sw_ot 0 c7 (by decide) (by decide))).trans ((if_neg (sw_ot 1 c7 (by decide) (by decide))).trans ((if_neg (sw_ot 2 c7 (by decide) (by decide))).trans ((if_neg (sw_ot 3 c7 (by decide) (by decide))).trans ((if_neg (sw_ot 4 c7 (by decide) (by decide))).trans (if_pos (sw_eq 5 c7 rfl (by decide)))))))))
  · skip
    refine hJ 101 _ _ _ ?_
    refine hJ 112 _ _ _ ?_
    exact And.intro True.intro (DPi ((if_neg (sw_ot 0 c8 (by decide) (by decide))).trans ((if_neg (sw_ot 1 c8 (by decide) (by decide))).trans ((if_neg (sw_ot 2 c8 (by decide) (by decide))).trans ((if_neg (sw_ot 3 c8 (by decide) (by decide))).trans ((if_neg (sw_ot 4 c8 (by decide) (by decide))).trans ((if_neg (sw_ot 5 c8 (by decide) (by decide))).trans (if_pos (sw_eq 6 c8 rfl (by decide))))))))))

/-! printed by wip/whole/gen/specs52.py: weighing, tides of the class -/
theorem ef_look {s r : Wt} {i f : Int32} (e : m_X1_look s i f = r) (hi : ¬ m_X7_has (Sc.sz (Wt.c s)) i = 0) : Wt.c r = Wt.c s ∧ Wt.l r = Wt.l s ∧ Wt.st r = Wt.st s ∧ Hh.k (Wt.h r) = Sc.kd (Wt.c s) i.toNatClampNeg := by
  rw [← e]
  unfold m_X1_look
  rw [if_neg hi]
  split <;> exact ⟨rfl, rfl, rfl, rfl⟩
def l_X1_weigh_6 (s : Wt) (i : Int32) : Nat → Int32 → Int32 → Wt → Int32 × Wt
  | 0, _, _, _ => (0, s)
  | n6 + 1, fo, fa, m1 => if nI 8 ≤ fa then (fo, m1) else (bindv (m_X1_look m1 i fa) (fun r2 => bindv (if Hh.k (Wt.h r2) = nI 0 then (m_X10_heed_c10 (m_X4_sum (Hh.p (Wt.h r2)) (Hh.k (Wt.h r2)) (Hh.v (Wt.h r2)) (Hh.f (Wt.h r2)) (Hh.c (Wt.h r2)) (Hh.t (Wt.h r2)) (Lg.st (Wt.l r2)) (Lg.sz (Wt.l r2)))) else (if Hh.k (Wt.h r2) = nI 1 then (m_X3_heed_c3 (Hh.v (Wt.h r2)) (m_X4_sum (Hh.p (Wt.h r2)) (Hh.k (Wt.h r2)) (Hh.v (Wt.h r2)) (Hh.f (Wt.h r2)) (Hh.c (Wt.h r2)) (Hh.t (Wt.h r2)) (Lg.st (Wt.l r2)) (Lg.sz (Wt.l r2)))) else (if Hh.k (Wt.h r2) = nI 2 then (m_X2_heed_c2 (m_X4_sum (Hh.p (Wt.h r2)) (Hh.k (Wt.h r2)) (Hh.v (Wt.h r2)) (Hh.f (Wt.h r2)) (Hh.c (Wt.h r2)) (Hh.t (Wt.h r2)) (Lg.st (Wt.l r2)) (Lg.sz (Wt.l r2)))) else (if Hh.k (Wt.h r2) = nI 3 then (m_X0_heed_c0 (Hh.c (Wt.h r2)) (m_X4_sum (Hh.p (Wt.h r2)) (Hh.k (Wt.h r2)) (Hh.v (Wt.h r2)) (Hh.f (Wt.h r2)) (Hh.c (Wt.h r2)) (Hh.t (Wt.h r2)) (Lg.st (Wt.l r2)) (Lg.sz (Wt.l r2)))) else (if Hh.k (Wt.h r2) = nI 4 then (m_X5_heed_c5 (Hh.v (Wt.h r2)) (nI 0) (m_X4_sum (Hh.p (Wt.h r2)) (Hh.k (Wt.h r2)) (Hh.v (Wt.h r2)) (Hh.f (Wt.h r2)) (Hh.c (Wt.h r2)) (Hh.t (Wt.h r2)) (Lg.st (Wt.l r2)) (Lg.sz (Wt.l r2)))) else (if Hh.k (Wt.h r2) = nI 5 then (m_X6_heed_c6 (Hh.v (Wt.h r2)) (m_X4_sum (Hh.p (Wt.h r2)) (Hh.k (Wt.h r2)) (Hh.v (Wt.h r2)) (Hh.f (Wt.h r2)) (Hh.c (Wt.h r2)) (Hh.t (Wt.h r2)) (Lg.st (Wt.l r2)) (Lg.sz (Wt.l r2)))) else (m_X9_heed_c9 (Hh.c (Wt.h r2)) (Hh.ro (Wt.h r2)) (m_X4_sum (Hh.p (Wt.h r2)) (Hh.k (Wt.h r2)) (Hh.v (Wt.h r2)) (Hh.f (Wt.h r2)) (Hh.c (Wt.h r2)) (Hh.t (Wt.h r2)) (Lg.st (Wt.l r2)) (Lg.sz (Wt.l r2)))))))))) (fun x3_0 => bindv (if x3_0 < 0 then fo else (fo ||| (nI 1 <<< (fa &&& 31)))) (fun x4_0 => bindv (if x3_0 ≤ 0 then x4_0 else (x4_0 ||| (nI 1 <<< ((nI 8 + fa) &&& 31)))) (fun x5_0 => bindv (if x3_0 < Lg.pa (Wt.l r2) then x5_0 else (x5_0 ||| (nI 1 <<< ((nI 16 + fa) &&& 31)))) (fun x6_0 => l_X1_weigh_6 s i n6 x6_0 (fa + nI 1) (Wt.c r2, (Hh.p (Wt.h r2), Hh.k (Wt.h r2), Hh.v (Wt.h r2), Hh.f (Wt.h r2), Hh.c (Wt.h r2), Hh.t (Wt.h r2), Hh.ro (Wt.h r2), nI 0), Wt.k0 r2, Wt.k1 r2, Wt.k2 r2, Wt.k3 r2, Wt.k4 r2, Wt.k5 r2, Wt.k6 r2, Wt.st r2, Wt.l r2)))))))
theorem q_X1_weigh_6 (s : Wt) (i : Int32) (n6 : Nat) (fo : Int32) (fa : Int32) (m1 : Wt) : l_X1_weigh_6 s i (n6 + 1) fo fa m1 = (if nI 8 ≤ fa then (fo, m1) else (bindv (m_X1_look m1 i fa) (fun r2 => bindv (if Hh.k (Wt.h r2) = nI 0 then (m_X10_heed_c10 (m_X4_sum (Hh.p (Wt.h r2)) (Hh.k (Wt.h r2)) (Hh.v (Wt.h r2)) (Hh.f (Wt.h r2)) (Hh.c (Wt.h r2)) (Hh.t (Wt.h r2)) (Lg.st (Wt.l r2)) (Lg.sz (Wt.l r2)))) else (if Hh.k (Wt.h r2) = nI 1 then (m_X3_heed_c3 (Hh.v (Wt.h r2)) (m_X4_sum (Hh.p (Wt.h r2)) (Hh.k (Wt.h r2)) (Hh.v (Wt.h r2)) (Hh.f (Wt.h r2)) (Hh.c (Wt.h r2)) (Hh.t (Wt.h r2)) (Lg.st (Wt.l r2)) (Lg.sz (Wt.l r2)))) else (if Hh.k (Wt.h r2) = nI 2 then (m_X2_heed_c2 (m_X4_sum (Hh.p (Wt.h r2)) (Hh.k (Wt.h r2)) (Hh.v (Wt.h r2)) (Hh.f (Wt.h r2)) (Hh.c (Wt.h r2)) (Hh.t (Wt.h r2)) (Lg.st (Wt.l r2)) (Lg.sz (Wt.l r2)))) else (if Hh.k (Wt.h r2) = nI 3 then (m_X0_heed_c0 (Hh.c (Wt.h r2)) (m_X4_sum (Hh.p (Wt.h r2)) (Hh.k (Wt.h r2)) (Hh.v (Wt.h r2)) (Hh.f (Wt.h r2)) (Hh.c (Wt.h r2)) (Hh.t (Wt.h r2)) (Lg.st (Wt.l r2)) (Lg.sz (Wt.l r2)))) else (if Hh.k (Wt.h r2) = nI 4 then (m_X5_heed_c5 (Hh.v (Wt.h r2)) (nI 0) (m_X4_sum (Hh.p (Wt.h r2)) (Hh.k (Wt.h r2)) (Hh.v (Wt.h r2)) (Hh.f (Wt.h r2)) (Hh.c (Wt.h r2)) (Hh.t (Wt.h r2)) (Lg.st (Wt.l r2)) (Lg.sz (Wt.l r2)))) else (if Hh.k (Wt.h r2) = nI 5 then (m_X6_heed_c6 (Hh.v (Wt.h r2)) (m_X4_sum (Hh.p (Wt.h r2)) (Hh.k (Wt.h r2)) (Hh.v (Wt.h r2)) (Hh.f (Wt.h r2)) (Hh.c (Wt.h r2)) (Hh.t (Wt.h r2)) (Lg.st (Wt.l r2)) (Lg.sz (Wt.l r2)))) else (m_X9_heed_c9 (Hh.c (Wt.h r2)) (Hh.ro (Wt.h r2)) (m_X4_sum (Hh.p (Wt.h r2)) (Hh.k (Wt.h r2)) (Hh.v (Wt.h r2)) (Hh.f (Wt.h r2)) (Hh.c (Wt.h r2)) (Hh.t (Wt.h r2)) (Lg.st (Wt.l r2)) (Lg.sz (Wt.l r2)))))))))) (fun x3_0 => bindv (if x3_0 < 0 then fo else (fo ||| (nI 1 <<< (fa &&& 31)))) (fun x4_0 => bindv (if x3_0 ≤ 0 then x4_0 else (x4_0 ||| (nI 1 <<< ((nI 8 + fa) &&& 31)))) (fun x5_0 => bindv (if x3_0 < Lg.pa (Wt.l r2) then x5_0 else (x5_0 ||| (nI 1 <<< ((nI 16 + fa) &&& 31)))) (fun x6_0 => l_X1_weigh_6 s i n6 x6_0 (fa + nI 1) (Wt.c r2, (Hh.p (Wt.h r2), Hh.k (Wt.h r2), Hh.v (Wt.h r2), Hh.f (Wt.h r2), Hh.c (Wt.h r2), Hh.t (Wt.h r2), Hh.ro (Wt.h r2), nI 0), Wt.k0 r2, Wt.k1 r2, Wt.k2 r2, Wt.k3 r2, Wt.k4 r2, Wt.k5 r2, Wt.k6 r2, Wt.st r2, Wt.l r2)))))))) := rfl
def m_X1_weigh (s : Wt) (i : Int32) : Int32 × Wt := l_X1_weigh_6 s i 9 (nI 0) (nI 0) s
set_option maxRecDepth 100000 in
set_option maxHeartbeats 4000000 in
theorem c_X1_weigh (l : Launch) {fv : Value} (hf : FV fv) (s : Wt) (t u v w b0 b1 b2 b3 b4 b5 b6 : Nat) (i : Int32) (hi : ¬ m_X7_has (Sc.sz (Wt.c s)) i = 0) (hk0 : vp_in (Sc.kd (Wt.c s) i.toNatClampNeg) 7) : CT l fv 3 jX1_weigh [.ref 6, .ref 0, .ref 16, .int i] (hWt s t u v w b0 b1 b2 b3 b4 b5 b6) (DP (some (.int (m_X1_weigh s i).1)) (hWt ((m_X1_weigh s i).2) t u v w b0 b1 b2 b3 b4 b5 b6)) := by
  refine CT_of [6, 43, 59, 76, 97] mt_X1_weigh (by decide +kernel) (tab_X1 hf) okX1_weigh (Nat.le_of_ble_eq_true rfl) ?_
  intro J hJ hD
  refine hJ 0 _ _ _ ?_
  have L6 : ∀ (n6 : Nat) (fo : Int32) (fa : Int32) (m1 : Wt), (∃ z9 : Nat, z9 ≤ 8 ∧ n6 + z9 = 9 ∧ fa = nI z9 ∧ Wt.c m1 = Wt.c s ∧ Wt.l m1 = Wt.l s) → m_X1_weigh s i = l_X1_weigh_6 s i n6 fo fa m1 → J 6 [(0, .ref 6), (1, .ref 0), (2, .ref 16), (3, .int i), (4, .int fo), (5, .int fa)] [] (hWt m1 t u v w b0 b1 b2 b3 b4 b5 b6) := by
    intro n6
    induction n6 with
    | zero =>
      intro fo fa m1 hv
      obtain ⟨z9, h1, h2, h3, h5⟩ := hv
      omega
    | succ n6 ih6 =>
      intro fo fa m1 hv e6
      obtain ⟨z9, h1, h2, h3, h5⟩ := hv
      refine hJ 6 _ _ _ ?_
      refine And.intro (fun c1 => ?_) (fun c1 => ?_)
      · skip
        refine hJ 103 _ _ _ ?_
        exact And.intro True.intro (DPis (F := (fun z => hWt z t u v w b0 b1 b2 b3 b4 b5 b6)) (s' := m1) (e6.trans ((q_X1_weigh_6 s i n6 fo fa m1).trans (if_pos c1))))
      · skip
        have h4 : z9 < 8 := cnt_lt h3 h1 (by decide) c1
        obtain ⟨r2, er2⟩ : ∃ z : Wt, m_X1_look m1 i fa = z := ⟨_, rfl⟩
        have hr2 := c_X1_look l hf m1 t u v w b0 b1 b2 b3 b4 b5 b6 i fa (vp_nI h3 h4 (by decide))
        rw [er2] at hr2
        have h6 := ef_look er2 (by rw [h5.1]; exact hi)
        have hk : vp_in (Sc.kd (Wt.c m1) i.toNatClampNeg) 7 := by rw [h5.1]; exact hk0
        refine CALL_same (r := none) (h1 := hWt r2 t u v w b0 b1 b2 b3 b4 b5 b6) (by decide) (hr2) ?_
        refine And.intro (Or.inl rfl) ?_
        have K3 : ∀ (x3_0 : Int32), (if Hh.k (Wt.h r2) = nI 0 then (m_X10_heed_c10 (m_X4_sum (Hh.p (Wt.h r2)) (Hh.k (Wt.h r2)) (Hh.v (Wt.h r2)) (Hh.f (Wt.h r2)) (Hh.c (Wt.h r2)) (Hh.t (Wt.h r2)) (Lg.st (Wt.l r2)) (Lg.sz (Wt.l r2)))) else (if Hh.k (Wt.h r2) = nI 1 then (m_X3_heed_c3 (Hh.v (Wt.h r2)) (m_X4_sum (Hh.p (Wt.h r2)) (Hh.k (Wt.h r2)) (Hh.v (Wt.h r2)) (Hh.f (Wt.h r2)) (Hh.c (Wt.h r2)) (Hh.t (Wt.h r2)) (Lg.st (Wt.l r2)) (Lg.sz (Wt.l r2)))) else (if Hh.k (Wt.h r2) = nI 2 then (m_X2_heed_c2 (m_X4_sum (Hh.p (Wt.h r2)) (Hh.k (Wt.h r2)) (Hh.v (Wt.h r2)) (Hh.f (Wt.h r2)) (Hh.c (Wt.h r2)) (Hh.t (Wt.h r2)) (Lg.st (Wt.l r2)) (Lg.sz (Wt.l r2)))) else (if Hh.k (Wt.h r2) = nI 3 then (m_X0_heed_c0 (Hh.c (Wt.h r2)) (m_X4_sum (Hh.p (Wt.h r2)) (Hh.k (Wt.h r2)) (Hh.v (Wt.h r2)) (Hh.f (Wt.h r2)) (Hh.c (Wt.h r2)) (Hh.t (Wt.h r2)) (Lg.st (Wt.l r2)) (Lg.sz (Wt.l r2)))) else (if Hh.k (Wt.h r2) = nI 4 then (m_X5_heed_c5 (Hh.v (Wt.h r2)) (nI 0) (m_X4_sum (Hh.p (Wt.h r2)) (Hh.k (Wt.h r2)) (Hh.v (Wt.h r2)) (Hh.f (Wt.h r2)) (Hh.c (Wt.h r2)) (Hh.t (Wt.h r2)) (Lg.st (Wt.l r2)) (Lg.sz (Wt.l r2)))) else (if Hh.k (Wt.h r2) = nI 5 then (m_X6_heed_c6 (Hh.v (Wt.h r2)) (m_X4_sum (Hh.p (Wt.h r2)) (Hh.k (Wt.h r2)) (Hh.v (Wt.h r2)) (Hh.f (Wt.h r2)) (Hh.c (Wt.h r2)) (Hh.t (Wt.h r2)) (Lg.st (Wt.l r2)) (Lg.sz (Wt.l r2)))) else (m_X9_heed_c9 (Hh.c (Wt.h r2)) (Hh.ro (Wt.h r2)) (m_X4_sum (Hh.p (Wt.h r2)) (Hh.k (Wt.h r2)) (Hh.v (Wt.h r2)) (Hh.f (Wt.h r2)) (Hh.c (Wt.h r2)) (Hh.t (Wt.h r2)) (Lg.st (Wt.l r2)) (Lg.sz (Wt.l r2)))))))))) = x3_0 → J 43 [(0, .ref 6), (1, .ref 0), (2, .ref 16), (3, .int i), (4, .int fo), (5, .int fa)] [.int x3_0] (wWt (Wt.c r2) (Hh.p (Wt.h r2), Hh.k (Wt.h r2), Hh.v (Wt.h r2), Hh.f (Wt.h r2), Hh.c (Wt.h r2), Hh.t (Wt.h r2), Hh.ro (Wt.h r2), nI 0) (Wt.k0 r2) (Wt.k1 r2) (Wt.k2 r2) (Wt.k3 r2) (Wt.k4 r2) (Wt.k5 r2) (Wt.k6 r2) (Wt.st r2) (Wt.l r2) t u v w b0 b1 b2 b3 b4 b5 b6) := by
          intro x3_0 ex3_0
          refine hJ 43 _ _ _ ?_
          have K4 : ∀ (x4_0 : Int32), (if x3_0 < 0 then fo else (fo ||| (nI 1 <<< (fa &&& 31)))) = x4_0 → J 59 [(0, .ref 6), (1, .ref 0), (2, .ref 16), (3, .int i), (4, .int x4_0), (5, .int fa), (6, .int x3_0)] [] (wWt (Wt.c r2) (Hh.p (Wt.h r2), Hh.k (Wt.h r2), Hh.v (Wt.h r2), Hh.f (Wt.h r2), Hh.c (Wt.h r2), Hh.t (Wt.h r2), Hh.ro (Wt.h r2), nI 0) (Wt.k0 r2) (Wt.k1 r2) (Wt.k2 r2) (Wt.k3 r2) (Wt.k4 r2) (Wt.k5 r2) (Wt.k6 r2) (Wt.st r2) (Wt.l r2) t u v w b0 b1 b2 b3 b4 b5 b6) := by
            intro x4_0 ex4_0
            refine hJ 59 _ _ _ ?_
            have K5 : ∀ (x5_0 : Int32), (if x3_0 ≤ 0 then x4_0 else (x4_0 ||| (nI 1 <<< ((nI 8 + fa) &&& 31)))) = x5_0 → J 76 [(0, .ref 6), (1, .ref 0), (2, .ref 16), (3, .int i), (4, .int x5_0), (5, .int fa), (6, .int x3_0)] [] (wWt (Wt.c r2) (Hh.p (Wt.h r2), Hh.k (Wt.h r2), Hh.v (Wt.h r2), Hh.f (Wt.h r2), Hh.c (Wt.h r2), Hh.t (Wt.h r2), Hh.ro (Wt.h r2), nI 0) (Wt.k0 r2) (Wt.k1 r2) (Wt.k2 r2) (Wt.k3 r2) (Wt.k4 r2) (Wt.k5 r2) (Wt.k6 r2) (Wt.st r2) (Wt.l r2) t u v w b0 b1 b2 b3 b4 b5 b6) := by
              intro x5_0 ex5_0
              refine hJ 76 _ _ _ ?_
              have K6 : ∀ (x6_0 : Int32), (if x3_0 < Lg.pa (Wt.l r2) then x5_0 else (x5_0 ||| (nI 1 <<< ((nI 16 + fa) &&& 31)))) = x6_0 → J 97 [(0, .ref 6), (1, .ref 0), (2, .ref 16), (3, .int i), (4, .int x6_0), (5, .int fa)] [] (wWt (Wt.c r2) (Hh.p (Wt.h r2), Hh.k (Wt.h r2), Hh.v (Wt.h r2), Hh.f (Wt.h r2), Hh.c (Wt.h r2), Hh.t (Wt.h r2), Hh.ro (Wt.h r2), nI 0) (Wt.k0 r2) (Wt.k1 r2) (Wt.k2 r2) (Wt.k3 r2) (Wt.k4 r2) (Wt.k5 r2) (Wt.k6 r2) (Wt.st r2) (Wt.l r2) t u v w b0 b1 b2 b3 b4 b5 b6) := by
                intro x6_0 ex6_0
                refine hJ 97 _ _ _ ?_
                exact hD _ _ [1, 2, 3, 4, 5, 0] _ _ (ih6 _ _ (Wt.c r2, (Hh.p (Wt.h r2), Hh.k (Wt.h r2), Hh.v (Wt.h r2), Hh.f (Wt.h r2), Hh.c (Wt.h r2), Hh.t (Wt.h r2), Hh.ro (Wt.h r2), nI 0), Wt.k0 r2, Wt.k1 r2, Wt.k2 r2, Wt.k3 r2, Wt.k4 r2, Wt.k5 r2, Wt.k6 r2, Wt.st r2, Wt.l r2) ⟨z9 + 1, by omega, by omega, by rw [h3]; exact nI_add z9 1, h6.1.trans h5.1, h6.2.1.trans h5.2⟩ (e6.trans ((q_X1_weigh_6 s i n6 fo fa m1).trans ((if_neg c1).trans ((bindv_eq er2).trans ((bindv_eq ex3_0).trans ((bindv_eq ex4_0).trans ((bindv_eq ex5_0).trans (bindv_eq ex6_0)))))))))
              refine And.intro (fun c7 => ?_) (fun c7 => ?_)
              · skip
                exact hD _ _ [0, 1, 2, 3, 4, 5] _ _ (K6 _ (if_pos c7))
              · skip
                exact hD _ _ [1, 2, 3, 4, 0, 5] _ _ (K6 _ (if_neg c7))
            refine And.intro (fun c8 => ?_) (fun c8 => ?_)
            · skip
              exact hD _ _ [0, 1, 2, 3, 4, 5, 6] _ _ (K5 _ (if_pos c8))
            · skip
              exact hD _ _ [1, 2, 3, 4, 0, 5, 6] _ _ (K5 _ (if_neg c8))
          refine And.intro (fun c9 => ?_) (fun c9 => ?_)
          · skip
            exact hD _ _ [1, 2, 3, 4, 5, 6, 0] _ _ (K4 _ (if_pos c9))
          · skip
            exact hD _ _ [2, 3, 4, 5, 0, 6, 1] _ _ (K4 _ (if_neg c9))
        rcases (or7 (x := (Hh.k (Wt.h r2))) (by have q := hk; rw [← h6.2.2.2] at q; exact q)) with hk10 | hk11 | hk12 | hk13 | hk14 | hk15 | hk16
        · skip
          refine CALL_same (r := some (.ref 8)) (h1 := wWt (Wt.c r2) (Hh.p (Wt.h r2), Hh.k (Wt.h r2), Hh.v (Wt.h r2), Hh.f (Wt.h r2), Hh.c (Wt.h r2), Hh.t (Wt.h r2), Hh.ro (Wt.h r2), nI 0) (Wt.k0 r2) (Wt.k1 r2) (Wt.k2 r2) (Wt.k3 r2) (Wt.k4 r2) (Wt.k5 r2) (Wt.k6 r2) (Wt.st r2) (Wt.l r2) t u v w b0 b1 b2 b3 b4 b5 b6) (by decide) (c_X1_kindOf_k0 l hf (Wt.c r2, (Hh.p (Wt.h r2), Hh.k (Wt.h r2), Hh.v (Wt.h r2), Hh.f (Wt.h r2), Hh.c (Wt.h r2), Hh.t (Wt.h r2), Hh.ro (Wt.h r2), nI 0), Wt.k0 r2, Wt.k1 r2, Wt.k2 r2, Wt.k3 r2, Wt.k4 r2, Wt.k5 r2, Wt.k6 r2, Wt.st r2, Wt.l r2) t u v w b0 b1 b2 b3 b4 b5 b6 (Hh.k (Wt.h r2)) hk10) ?_
          refine CALL_same (r := some (.int (m_X4_sum (Hh.p (Wt.h r2)) (Hh.k (Wt.h r2)) (Hh.v (Wt.h r2)) (Hh.f (Wt.h r2)) (Hh.c (Wt.h r2)) (Hh.t (Wt.h r2)) (Lg.st (Wt.l r2)) (Lg.sz (Wt.l r2))))) (h1 := wWt (Wt.c r2) (Hh.p (Wt.h r2), Hh.k (Wt.h r2), Hh.v (Wt.h r2), Hh.f (Wt.h r2), Hh.c (Wt.h r2), Hh.t (Wt.h r2), Hh.ro (Wt.h r2), nI 0) (Wt.k0 r2) (Wt.k1 r2) (Wt.k2 r2) (Wt.k3 r2) (Wt.k4 r2) (Wt.k5 r2) (Wt.k6 r2) (Wt.st r2) (Wt.l r2) t u v w b0 b1 b2 b3 b4 b5 b6) (by decide) (c_X4_sum l hf (Wt.c r2, (Hh.p (Wt.h r2), Hh.k (Wt.h r2), Hh.v (Wt.h r2), Hh.f (Wt.h r2), Hh.c (Wt.h r2), Hh.t (Wt.h r2), Hh.ro (Wt.h r2), nI 0), Wt.k0 r2, Wt.k1 r2, Wt.k2 r2, Wt.k3 r2, Wt.k4 r2, Wt.k5 r2, Wt.k6 r2, Wt.st r2, Wt.l r2) t u v w b0 b1 b2 b3 b4 b5 b6) ?_
          refine CALL_same (r := some (.int (m_X10_heed_c10 (m_X4_sum (Hh.p (Wt.h r2)) (Hh.k (Wt.h r2)) (Hh.v (Wt.h r2)) (Hh.f (Wt.h r2)) (Hh.c (Wt.h r2)) (Hh.t (Wt.h r2)) (Lg.st (Wt.l r2)) (Lg.sz (Wt.l r2)))))) (h1 := wWt (Wt.c r2) (Hh.p (Wt.h r2), Hh.k (Wt.h r2), Hh.v (Wt.h r2), Hh.f (Wt.h r2), Hh.c (Wt.h r2), Hh.t (Wt.h r2), Hh.ro (Wt.h r2), nI 0) (Wt.k0 r2) (Wt.k1 r2) (Wt.k2 r2) (Wt.k3 r2) (Wt.k4 r2) (Wt.k5 r2) (Wt.k6 r2) (Wt.st r2) (Wt.l r2) t u v w b0 b1 b2 b3 b4 b5 b6) (by decide) (c_X10_heed_c10 l hf (Wt.c r2, (Hh.p (Wt.h r2), Hh.k (Wt.h r2), Hh.v (Wt.h r2), Hh.f (Wt.h r2), Hh.c (Wt.h r2), Hh.t (Wt.h r2), Hh.ro (Wt.h r2), nI 0), Wt.k0 r2, Wt.k1 r2, Wt.k2 r2, Wt.k3 r2, Wt.k4 r2, Wt.k5 r2, Wt.k6 r2, Wt.st r2, Wt.l r2) t u v w b0 b1 b2 b3 b4 b5 b6 (m_X4_sum (Hh.p (Wt.h r2)) (Hh.k (Wt.h r2)) (Hh.v (Wt.h r2)) (Hh.f (Wt.h r2)) (Hh.c (Wt.h r2)) (Hh.t (Wt.h r2)) (Lg.st (Wt.l r2)) (Lg.sz (Wt.l r2)))) ?_
          exact hD _ _ [0, 1, 2, 3, 4, 5] _ _ (K3 _ (if_pos hk10))
        · skip
          refine CALL_same (r := some (.ref 9)) (h1 := wWt (Wt.c r2) (Hh.p (Wt.h r2), Hh.k (Wt.h r2), Hh.v (Wt.h r2), Hh.f (Wt.h r2), Hh.c (Wt.h r2), Hh.t (Wt.h r2), Hh.ro (Wt.h r2), nI 0) (Wt.k0 r2) (Wt.k1 r2) (Wt.k2 r2) (Wt.k3 r2) (Wt.k4 r2) (Wt.k5 r2) (Wt.k6 r2) (Wt.st r2) (Wt.l r2) t u v w b0 b1 b2 b3 b4 b5 b6) (by decide) (c_X1_kindOf_k1 l hf (Wt.c r2, (Hh.p (Wt.h r2), Hh.k (Wt.h r2), Hh.v (Wt.h r2), Hh.f (Wt.h r2), Hh.c (Wt.h r2), Hh.t (Wt.h r2), Hh.ro (Wt.h r2), nI 0), Wt.k0 r2, Wt.k1 r2, Wt.k2 r2, Wt.k3 r2, Wt.k4 r2, Wt.k5 r2, Wt.k6 r2, Wt.st r2, Wt.l r2) t u v w b0 b1 b2 b3 b4 b5 b6 (Hh.k (Wt.h r2)) hk11) ?_
          refine CALL_same (r := some (.int (m_X4_sum (Hh.p (Wt.h r2)) (Hh.k (Wt.h r2)) (Hh.v (Wt.h r2)) (Hh.f (Wt.h r2)) (Hh.c (Wt.h r2)) (Hh.t (Wt.h r2)) (Lg.st (Wt.l r2)) (Lg.sz (Wt.l r2))))) (h1 := wWt (Wt.c r2) (Hh.p (Wt.h r2), Hh.k (Wt.h r2), Hh.v (Wt.h r2), Hh.f (Wt.h r2), Hh.c (Wt.h r2), Hh.t (Wt.h r2), Hh.ro (Wt.h r2), nI 0) (Wt.k0 r2) (Wt.k1 r2) (Wt.k2 r2) (Wt.k3 r2) (Wt.k4 r2) (Wt.k5 r2) (Wt.k6 r2) (Wt.st r2) (Wt.l r2) t u v w b0 b1 b2 b3 b4 b5 b6) (by decide) (c_X4_sum l hf (Wt.c r2, (Hh.p (Wt.h r2), Hh.k (Wt.h r2), Hh.v (Wt.h r2), Hh.f (Wt.h r2), Hh.c (Wt.h r2), Hh.t (Wt.h r2), Hh.ro (Wt.h r2), nI 0), Wt.k0 r2, Wt.k1 r2, Wt.k2 r2, Wt.k3 r2, Wt.k4 r2, Wt.k5 r2, Wt.k6 r2, Wt.st r2, Wt.l r2) t u v w b0 b1 b2 b3 b4 b5 b6) ?_
          refine CALL_same (r := some (.int (m_X3_heed_c3 (Hh.v (Wt.h r2)) (m_X4_sum (Hh.p (Wt.h r2)) (Hh.k (Wt.h r2)) (Hh.v (Wt.h r2)) (Hh.f (Wt.h r2)) (Hh.c (Wt.h r2)) (Hh.t (Wt.h r2)) (Lg.st (Wt.l r2)) (Lg.sz (Wt.l r2)))))) (h1 := wWt (Wt.c r2) (Hh.p (Wt.h r2), Hh.k (Wt.h r2), Hh.v (Wt.h r2), Hh.f (Wt.h r2), Hh.c (Wt.h r2), Hh.t (Wt.h r2), Hh.ro (Wt.h r2), nI 0) (Wt.k0 r2) (Wt.k1 r2) (Wt.k2 r2) (Wt.k3 r2) (Wt.k4 r2) (Wt.k5 r2) (Wt.k6 r2) (Wt.st r2) (Wt.l r2) t u v w b0 b1 b2 b3 b4 b5 b6) (by decide) (c_X3_heed_c3 l hf (Wt.c r2, (Hh.p (Wt.h r2), Hh.k (Wt.h r2), Hh.v (Wt.h r2), Hh.f (Wt.h r2), Hh.c (Wt.h r2), Hh.t (Wt.h r2), Hh.ro (Wt.h r2), nI 0), Wt.k0 r2, Wt.k1 r2, Wt.k2 r2, Wt.k3 r2, Wt.k4 r2, Wt.k5 r2, Wt.k6 r2, Wt.st r2, Wt.l r2) t u v w b0 b1 b2 b3 b4 b5 b6 (m_X4_sum (Hh.p (Wt.h r2)) (Hh.k (Wt.h r2)) (Hh.v (Wt.h r2)) (Hh.f (Wt.h r2)) (Hh.c (Wt.h r2)) (Hh.t (Wt.h r2)) (Lg.st (Wt.l r2)) (Lg.sz (Wt.l r2)))) ?_
          exact hD _ _ [0, 1, 2, 3, 4, 5] _ _ (K3 _ ((if_neg (fun q => absurd (hk11.symm.trans q) (by decide))).trans (if_pos hk11)))
        · skip
          refine CALL_same (r := some (.ref 10)) (h1 := wWt (Wt.c r2) (Hh.p (Wt.h r2), Hh.k (Wt.h r2), Hh.v (Wt.h r2), Hh.f (Wt.h r2), Hh.c (Wt.h r2), Hh.t (Wt.h r2), Hh.ro (Wt.h r2), nI 0) (Wt.k0 r2) (Wt.k1 r2) (Wt.k2 r2) (Wt.k3 r2) (Wt.k4 r2) (Wt.k5 r2) (Wt.k6 r2) (Wt.st r2) (Wt.l r2) t u v w b0 b1 b2 b3 b4 b5 b6) (by decide) (c_X1_kindOf_k2 l hf (Wt.c r2, (Hh.p (Wt.h r2), Hh.k (Wt.h r2), Hh.v (Wt.h r2), Hh.f (Wt.h r2), Hh.c (Wt.h r2), Hh.t (Wt.h r2), Hh.ro (Wt.h r2), nI 0), Wt.k0 r2, Wt.k1 r2, Wt.k2 r2, Wt.k3 r2, Wt.k4 r2, Wt.k5 r2, Wt.k6 r2, Wt.st r2, Wt.l r2) t u v w b0 b1 b2 b3 b4 b5 b6 (Hh.k (Wt.h r2)) hk12) ?_
          refine CALL_same (r := some (.int (m_X4_sum (Hh.p (Wt.h r2)) (Hh.k (Wt.h r2)) (Hh.v (Wt.h r2)) (Hh.f (Wt.h r2)) (Hh.c (Wt.h r2)) (Hh.t (Wt.h r2)) (Lg.st (Wt.l r2)) (Lg.sz (Wt.l r2))))) (h1 := wWt (Wt.c r2) (Hh.p (Wt.h r2), Hh.k (Wt.h r2), Hh.v (Wt.h r2), Hh.f (Wt.h r2), Hh.c (Wt.h r2), Hh.t (Wt.h r2), Hh.ro (Wt.h r2), nI 0) (Wt.k0 r2) (Wt.k1 r2) (Wt.k2 r2) (Wt.k3 r2) (Wt.k4 r2) (Wt.k5 r2) (Wt.k6 r2) (Wt.st r2) (Wt.l r2) t u v w b0 b1 b2 b3 b4 b5 b6) (by decide) (c_X4_sum l hf (Wt.c r2, (Hh.p (Wt.h r2), Hh.k (Wt.h r2), Hh.v (Wt.h r2), Hh.f (Wt.h r2), Hh.c (Wt.h r2), Hh.t (Wt.h r2), Hh.ro (Wt.h r2), nI 0), Wt.k0 r2, Wt.k1 r2, Wt.k2 r2, Wt.k3 r2, Wt.k4 r2, Wt.k5 r2, Wt.k6 r2, Wt.st r2, Wt.l r2) t u v w b0 b1 b2 b3 b4 b5 b6) ?_
          refine CALL_same (r := some (.int (m_X2_heed_c2 (m_X4_sum (Hh.p (Wt.h r2)) (Hh.k (Wt.h r2)) (Hh.v (Wt.h r2)) (Hh.f (Wt.h r2)) (Hh.c (Wt.h r2)) (Hh.t (Wt.h r2)) (Lg.st (Wt.l r2)) (Lg.sz (Wt.l r2)))))) (h1 := wWt (Wt.c r2) (Hh.p (Wt.h r2), Hh.k (Wt.h r2), Hh.v (Wt.h r2), Hh.f (Wt.h r2), Hh.c (Wt.h r2), Hh.t (Wt.h r2), Hh.ro (Wt.h r2), nI 0) (Wt.k0 r2) (Wt.k1 r2) (Wt.k2 r2) (Wt.k3 r2) (Wt.k4 r2) (Wt.k5 r2) (Wt.k6 r2) (Wt.st r2) (Wt.l r2) t u v w b0 b1 b2 b3 b4 b5 b6) (by decide) (c_X2_heed_c2 l hf (Wt.c r2, (Hh.p (Wt.h r2), Hh.k (Wt.h r2), Hh.v (Wt.h r2), Hh.f (Wt.h r2), Hh.c (Wt.h r2), Hh.t (Wt.h r2), Hh.ro (Wt.h r2), nI 0), Wt.k0 r2, Wt.k1 r2, Wt.k2 r2, Wt.k3 r2, Wt.k4 r2, Wt.k5 r2, Wt.k6 r2, Wt.st r2, Wt.l r2) t u v w b0 b1 b2 b3 b4 b5 b6 (m_X4_sum (Hh.p (Wt.h r2)) (Hh.k (Wt.h r2)) (Hh.v (Wt.h r2)) (Hh.f (Wt.h r2)) (Hh.c (Wt.h r2)) (Hh.t (Wt.h r2)) (Lg.st (Wt.l r2)) (Lg.sz (Wt.l r2)))) ?_
          exact hD _ _ [0, 1, 2, 3, 4, 5] _ _ (K3 _ ((if_neg (fun q => absurd (hk12.symm.trans q) (by decide))).trans ((if_neg (fun q => absurd (hk12.symm.trans q) (by decide))).trans (if_pos hk12))))
        · skip
          refine CALL_same (r := some (.ref 11)) (h1 := wWt (Wt.c r2) (Hh.p (Wt.h r2), Hh.k (Wt.h r2), Hh.v (Wt.h r2), Hh.f (Wt.h r2), Hh.c (Wt.h r2), Hh.t (Wt.h r2), Hh.ro (Wt.h r2), nI 0) (Wt.k0 r2) (Wt.k1 r2) (Wt.k2 r2) (Wt.k3 r2) (Wt.k4 r2) (Wt.k5 r2) (Wt.k6 r2) (Wt.st r2) (Wt.l r2) t u v w b0 b1 b2 b3 b4 b5 b6) (by decide) (c_X1_kindOf_k3 l hf (Wt.c r2, (Hh.p (Wt.h r2), Hh.k (Wt.h r2), Hh.v (Wt.h r2), Hh.f (Wt.h r2), Hh.c (Wt.h r2), Hh.t (Wt.h r2), Hh.ro (Wt.h r2), nI 0), Wt.k0 r2, Wt.k1 r2, Wt.k2 r2, Wt.k3 r2, Wt.k4 r2, Wt.k5 r2, Wt.k6 r2, Wt.st r2, Wt.l r2) t u v w b0 b1 b2 b3 b4 b5 b6 (Hh.k (Wt.h r2)) hk13) ?_
          refine CALL_same (r := some (.int (m_X4_sum (Hh.p (Wt.h r2)) (Hh.k (Wt.h r2)) (Hh.v (Wt.h r2)) (Hh.f (Wt.h r2)) (Hh.c (Wt.h r2)) (Hh.t (Wt.h r2)) (Lg.st (Wt.l r2)) (Lg.sz (Wt.l r2))))) (h1 := wWt (Wt.c r2) (Hh.p (Wt.h r2), Hh.k (Wt.h r2), Hh.v (Wt.h r2), Hh.f (Wt.h r2), Hh.c (Wt.h r2), Hh.t (Wt.h r2), Hh.ro (Wt.h r2), nI 0) (Wt.k0 r2) (Wt.k1 r2) (Wt.k2 r2) (Wt.k3 r2) (Wt.k4 r2) (Wt.k5 r2) (Wt.k6 r2) (Wt.st r2) (Wt.l r2) t u v w b0 b1 b2 b3 b4 b5 b6) (by decide) (c_X4_sum l hf (Wt.c r2, (Hh.p (Wt.h r2), Hh.k (Wt.h r2), Hh.v (Wt.h r2), Hh.f (Wt.h r2), Hh.c (Wt.h r2), Hh.t (Wt.h r2), Hh.ro (Wt.h r2), nI 0), Wt.k0 r2, Wt.k1 r2, Wt.k2 r2, Wt.k3 r2, Wt.k4 r2, Wt.k5 r2, Wt.k6 r2, Wt.st r2, Wt.l r2) t u v w b0 b1 b2 b3 b4 b5 b6) ?_
          refine CALL_same (r := some (.int (m_X0_heed_c0 (Hh.c (Wt.h r2)) (m_X4_sum (Hh.p (Wt.h r2)) (Hh.k (Wt.h r2)) (Hh.v (Wt.h r2)) (Hh.f (Wt.h r2)) (Hh.c (Wt.h r2)) (Hh.t (Wt.h r2)) (Lg.st (Wt.l r2)) (Lg.sz (Wt.l r2)))))) (h1 := wWt (Wt.c r2) (Hh.p (Wt.h r2), Hh.k (Wt.h r2), Hh.v (Wt.h r2), Hh.f (Wt.h r2), Hh.c (Wt.h r2), Hh.t (Wt.h r2), Hh.ro (Wt.h r2), nI 0) (Wt.k0 r2) (Wt.k1 r2) (Wt.k2 r2) (Wt.k3 r2) (Wt.k4 r2) (Wt.k5 r2) (Wt.k6 r2) (Wt.st r2) (Wt.l r2) t u v w b0 b1 b2 b3 b4 b5 b6) (by decide) (c_X0_heed_c0 l hf (Wt.c r2, (Hh.p (Wt.h r2), Hh.k (Wt.h r2), Hh.v (Wt.h r2), Hh.f (Wt.h r2), Hh.c (Wt.h r2), Hh.t (Wt.h r2), Hh.ro (Wt.h r2), nI 0), Wt.k0 r2, Wt.k1 r2, Wt.k2 r2, Wt.k3 r2, Wt.k4 r2, Wt.k5 r2, Wt.k6 r2, Wt.st r2, Wt.l r2) t u v w b0 b1 b2 b3 b4 b5 b6 (m_X4_sum (Hh.p (Wt.h r2)) (Hh.k (Wt.h r2)) (Hh.v (Wt.h r2)) (Hh.f (Wt.h r2)) (Hh.c (Wt.h r2)) (Hh.t (Wt.h r2)) (Lg.st (Wt.l r2)) (Lg.sz (Wt.l r2)))) ?_
          exact hD _ _ [0, 1, 2, 3, 4, 5] _ _ (K3 _ ((if_neg (fun q => absurd (hk13.symm.trans q) (by decide))).trans ((if_neg (fun q => absurd (hk13.symm.trans q) (by decide))).trans ((if_neg (fun q => absurd (hk13.symm.trans q) (by decide))).trans (if_pos hk13)))))
        · skip
          refine CALL_same (r := some (.ref 12)) (h1 := wWt (Wt.c r2) (Hh.p (Wt.h r2), Hh.k (Wt.h r2), Hh.v (Wt.h r2), Hh.f (Wt.h r2), Hh.c (Wt.h r2), Hh.t (Wt.h r2), Hh.ro (Wt.h r2), nI 0) (Wt.k0 r2) (Wt.k1 r2) (Wt.k2 r2) (Wt.k3 r2) (Wt.k4 r2) (Wt.k5 r2) (Wt.k6 r2) (Wt.st r2) (Wt.l r2) t u v w b0 b1 b2 b3 b4 b5 b6) (by decide) (c_X1_kindOf_k4 l hf (Wt.c r2, (Hh.p (Wt.h r2), Hh.k (Wt.h r2), Hh.v (Wt.h r2), Hh.f (Wt.h r2), Hh.c (Wt.h r2), Hh.t (Wt.h r2), Hh.ro (Wt.h r2), nI 0), Wt.k0 r2, Wt.k1 r2, Wt.k2 r2, Wt.k3 r2, Wt.k4 r2, Wt.k5 r2, Wt.k6 r2, Wt.st r2, Wt.l r2) t u v w b0 b1 b2 b3 b4 b5 b6 (Hh.k (Wt.h r2)) hk14) ?_
          refine CALL_same (r := some (.int (m_X4_sum (Hh.p (Wt.h r2)) (Hh.k (Wt.h r2)) (Hh.v (Wt.h r2)) (Hh.f (Wt.h r2)) (Hh.c (Wt.h r2)) (Hh.t (Wt.h r2)) (Lg.st (Wt.l r2)) (Lg.sz (Wt.l r2))))) (h1 := wWt (Wt.c r2) (Hh.p (Wt.h r2), Hh.k (Wt.h r2), Hh.v (Wt.h r2), Hh.f (Wt.h r2), Hh.c (Wt.h r2), Hh.t (Wt.h r2), Hh.ro (Wt.h r2), nI 0) (Wt.k0 r2) (Wt.k1 r2) (Wt.k2 r2) (Wt.k3 r2) (Wt.k4 r2) (Wt.k5 r2) (Wt.k6 r2) (Wt.st r2) (Wt.l r2) t u v w b0 b1 b2 b3 b4 b5 b6) (by decide) (c_X4_sum l hf (Wt.c r2, (Hh.p (Wt.h r2), Hh.k (Wt.h r2), Hh.v (Wt.h r2), Hh.f (Wt.h r2), Hh.c (Wt.h r2), Hh.t (Wt.h r2), Hh.ro (Wt.h r2), nI 0), Wt.k0 r2, Wt.k1 r2, Wt.k2 r2, Wt.k3 r2, Wt.k4 r2, Wt.k5 r2, Wt.k6 r2, Wt.st r2, Wt.l r2) t u v w b0 b1 b2 b3 b4 b5 b6) ?_
          refine CALL_same (r := some (.int (m_X5_heed_c5 (Hh.v (Wt.h r2)) (nI 0) (m_X4_sum (Hh.p (Wt.h r2)) (Hh.k (Wt.h r2)) (Hh.v (Wt.h r2)) (Hh.f (Wt.h r2)) (Hh.c (Wt.h r2)) (Hh.t (Wt.h r2)) (Lg.st (Wt.l r2)) (Lg.sz (Wt.l r2)))))) (h1 := wWt (Wt.c r2) (Hh.p (Wt.h r2), Hh.k (Wt.h r2), Hh.v (Wt.h r2), Hh.f (Wt.h r2), Hh.c (Wt.h r2), Hh.t (Wt.h r2), Hh.ro (Wt.h r2), nI 0) (Wt.k0 r2) (Wt.k1 r2) (Wt.k2 r2) (Wt.k3 r2) (Wt.k4 r2) (Wt.k5 r2) (Wt.k6 r2) (Wt.st r2) (Wt.l r2) t u v w b0 b1 b2 b3 b4 b5 b6) (by decide) (c_X5_heed_c5 l hf (Wt.c r2, (Hh.p (Wt.h r2), Hh.k (Wt.h r2), Hh.v (Wt.h r2), Hh.f (Wt.h r2), Hh.c (Wt.h r2), Hh.t (Wt.h r2), Hh.ro (Wt.h r2), nI 0), Wt.k0 r2, Wt.k1 r2, Wt.k2 r2, Wt.k3 r2, Wt.k4 r2, Wt.k5 r2, Wt.k6 r2, Wt.st r2, Wt.l r2) t u v w b0 b1 b2 b3 b4 b5 b6 (m_X4_sum (Hh.p (Wt.h r2)) (Hh.k (Wt.h r2)) (Hh.v (Wt.h r2)) (Hh.f (Wt.h r2)) (Hh.c (Wt.h r2)) (Hh.t (Wt.h r2)) (Lg.st (Wt.l r2)) (Lg.sz (Wt.l r2)))) ?_
          exact hD _ _ [0, 1, 2, 3, 4, 5] _ _ (K3 _ ((if_neg (fun q => absurd (hk14.symm.trans q) (by decide))).trans ((if_neg (fun q => absurd (hk14.symm.trans q) (by decide))).trans ((if_neg (fun q => absurd (hk14.symm.trans q) (by decide))).trans ((if_neg (fun q => absurd (hk14.symm.trans q) (by decide))).trans (if_pos hk14))))))
        · skip
          refine CALL_same (r := some (.ref 13)) (h1 := wWt (Wt.c r2) (Hh.p (Wt.h r2), Hh.k (Wt.h r2), Hh.v (Wt.h r2), Hh.f (Wt.h r2), Hh.c (Wt.h r2), Hh.t (Wt.h r2), Hh.ro (Wt.h r2), nI 0) (Wt.k0 r2) (Wt.k1 r2) (Wt.k2 r2) (Wt.k3 r2) (Wt.k4 r2) (Wt.k5 r2) (Wt.k6 r2) (Wt.st r2) (Wt.l r2) t u v w b0 b1 b2 b3 b4 b5 b6) (by decide) (c_X1_kindOf_k5 l hf (Wt.c r2, (Hh.p (Wt.h r2), Hh.k (Wt.h r2), Hh.v (Wt.h r2), Hh.f (Wt.h r2), Hh.c (Wt.h r2), Hh.t (Wt.h r2), Hh.ro (Wt.h r2), nI 0), Wt.k0 r2, Wt.k1 r2, Wt.k2 r2, Wt.k3 r2, Wt.k4 r2, Wt.k5 r2, Wt.k6 r2, Wt.st r2, Wt.l r2) t u v w b0 b1 b2 b3 b4 b5 b6 (Hh.k (Wt.h r2)) hk15) ?_
          refine CALL_same (r := some (.int (m_X4_sum (Hh.p (Wt.h r2)) (Hh.k (Wt.h r2)) (Hh.v (Wt.h r2)) (Hh.f (Wt.h r2)) (Hh.c (Wt.h r2)) (Hh.t (Wt.h r2)) (Lg.st (Wt.l r2)) (Lg.sz (Wt.l r2))))) (h1 := wWt (Wt.c r2) (Hh.p (Wt.h r2), Hh.k (Wt.h r2), Hh.v (Wt.h r2), Hh.f (Wt.h r2), Hh.c (Wt.h r2), Hh.t (Wt.h r2), Hh.ro (Wt.h r2), nI 0) (Wt.k0 r2) (Wt.k1 r2) (Wt.k2 r2) (Wt.k3 r2) (Wt.k4 r2) (Wt.k5 r2) (Wt.k6 r2) (Wt.st r2) (Wt.l r2) t u v w b0 b1 b2 b3 b4 b5 b6) (by decide) (c_X4_sum l hf (Wt.c r2, (Hh.p (Wt.h r2), Hh.k (Wt.h r2), Hh.v (Wt.h r2), Hh.f (Wt.h r2), Hh.c (Wt.h r2), Hh.t (Wt.h r2), Hh.ro (Wt.h r2), nI 0), Wt.k0 r2, Wt.k1 r2, Wt.k2 r2, Wt.k3 r2, Wt.k4 r2, Wt.k5 r2, Wt.k6 r2, Wt.st r2, Wt.l r2) t u v w b0 b1 b2 b3 b4 b5 b6) ?_
          refine CALL_same (r := some (.int (m_X6_heed_c6 (Hh.v (Wt.h r2)) (m_X4_sum (Hh.p (Wt.h r2)) (Hh.k (Wt.h r2)) (Hh.v (Wt.h r2)) (Hh.f (Wt.h r2)) (Hh.c (Wt.h r2)) (Hh.t (Wt.h r2)) (Lg.st (Wt.l r2)) (Lg.sz (Wt.l r2)))))) (h1 := wWt (Wt.c r2) (Hh.p (Wt.h r2), Hh.k (Wt.h r2), Hh.v (Wt.h r2), Hh.f (Wt.h r2), Hh.c (Wt.h r2), Hh.t (Wt.h r2), Hh.ro (Wt.h r2), nI 0) (Wt.k0 r2) (Wt.k1 r2) (Wt.k2 r2) (Wt.k3 r2) (Wt.k4 r2) (Wt.k5 r2) (Wt.k6 r2) (Wt.st r2) (Wt.l r2) t u v w b0 b1 b2 b3 b4 b5 b6) (by decide) (c_X6_heed_c6 l hf (Wt.c r2, (Hh.p (Wt.h r2), Hh.k (Wt.h r2), Hh.v (Wt.h r2), Hh.f (Wt.h r2), Hh.c (Wt.h r2), Hh.t (Wt.h r2), Hh.ro (Wt.h r2), nI 0), Wt.k0 r2, Wt.k1 r2, Wt.k2 r2, Wt.k3 r2, Wt.k4 r2, Wt.k5 r2, Wt.k6 r2, Wt.st r2, Wt.l r2) t u v w b0 b1 b2 b3 b4 b5 b6 (m_X4_sum (Hh.p (Wt.h r2)) (Hh.k (Wt.h r2)) (Hh.v (Wt.h r2)) (Hh.f (Wt.h r2)) (Hh.c (Wt.h r2)) (Hh.t (Wt.h r2)) (Lg.st (Wt.l r2)) (Lg.sz (Wt.l r2)))) ?_
          exact hD _ _ [0, 1, 2, 3, 4, 5] _ _ (K3 _ ((if_neg (fun q => absurd (hk15.symm.trans q) (by decide))).trans ((if_neg (fun q => absurd (hk15.symm.trans q) (by decide))).trans ((if_neg (fun q => absurd (hk15.symm.trans q) (by decide))).trans ((if_neg (fun q => absurd (hk15.symm.trans q) (by decide))).trans ((if_neg (fun q => absurd (hk15.symm.trans q) (by decide))).trans (if_pos hk15)))))))
        · skip
          refine CALL_same (r := some (.ref 14)) (h1 := wWt (Wt.c r2) (Hh.p (Wt.h r2), Hh.k (Wt.h r2), Hh.v (Wt.h r2), Hh.f (Wt.h r2), Hh.c (Wt.h r2), Hh.t (Wt.h r2), Hh.ro (Wt.h r2), nI 0) (Wt.k0 r2) (Wt.k1 r2) (Wt.k2 r2) (Wt.k3 r2) (Wt.k4 r2) (Wt.k5 r2) (Wt.k6 r2) (Wt.st r2) (Wt.l r2) t u v w b0 b1 b2 b3 b4 b5 b6) (by decide) (c_X1_kindOf_k6 l hf (Wt.c r2, (Hh.p (Wt.h r2), Hh.k (Wt.h r2), Hh.v (Wt.h r2), Hh.f (Wt.h r2), Hh.c (Wt.h r2), Hh.t (Wt.h r2), Hh.ro (Wt.h r2), nI 0), Wt.k0 r2, Wt.k1 r2, Wt.k2 r2, Wt.k3 r2, Wt.k4 r2, Wt.k5 r2, Wt.k6 r2, Wt.st r2, Wt.l r2) t u v w b0 b1 b2 b3 b4 b5 b6 (Hh.k (Wt.h r2)) hk16) ?_
          refine CALL_same (r := some (.int (m_X4_sum (Hh.p (Wt.h r2)) (Hh.k (Wt.h r2)) (Hh.v (Wt.h r2)) (Hh.f (Wt.h r2)) (Hh.c (Wt.h r2)) (Hh.t (Wt.h r2)) (Lg.st (Wt.l r2)) (Lg.sz (Wt.l r2))))) (h1 := wWt (Wt.c r2) (Hh.p (Wt.h r2), Hh.k (Wt.h r2), Hh.v (Wt.h r2), Hh.f (Wt.h r2), Hh.c (Wt.h r2), Hh.t (Wt.h r2), Hh.ro (Wt.h r2), nI 0) (Wt.k0 r2) (Wt.k1 r2) (Wt.k2 r2) (Wt.k3 r2) (Wt.k4 r2) (Wt.k5 r2) (Wt.k6 r2) (Wt.st r2) (Wt.l r2) t u v w b0 b1 b2 b3 b4 b5 b6) (by decide) (c_X4_sum l hf (Wt.c r2, (Hh.p (Wt.h r2), Hh.k (Wt.h r2), Hh.v (Wt.h r2), Hh.f (Wt.h r2), Hh.c (Wt.h r2), Hh.t (Wt.h r2), Hh.ro (Wt.h r2), nI 0), Wt.k0 r2, Wt.k1 r2, Wt.k2 r2, Wt.k3 r2, Wt.k4 r2, Wt.k5 r2, Wt.k6 r2, Wt.st r2, Wt.l r2) t u v w b0 b1 b2 b3 b4 b5 b6) ?_
          refine CALL_same (r := some (.int (m_X9_heed_c9 (Hh.c (Wt.h r2)) (Hh.ro (Wt.h r2)) (m_X4_sum (Hh.p (Wt.h r2)) (Hh.k (Wt.h r2)) (Hh.v (Wt.h r2)) (Hh.f (Wt.h r2)) (Hh.c (Wt.h r2)) (Hh.t (Wt.h r2)) (Lg.st (Wt.l r2)) (Lg.sz (Wt.l r2)))))) (h1 := wWt (Wt.c r2) (Hh.p (Wt.h r2), Hh.k (Wt.h r2), Hh.v (Wt.h r2), Hh.f (Wt.h r2), Hh.c (Wt.h r2), Hh.t (Wt.h r2), Hh.ro (Wt.h r2), nI 0) (Wt.k0 r2) (Wt.k1 r2) (Wt.k2 r2) (Wt.k3 r2) (Wt.k4 r2) (Wt.k5 r2) (Wt.k6 r2) (Wt.st r2) (Wt.l r2) t u v w b0 b1 b2 b3 b4 b5 b6) (by decide) (c_X9_heed_c9 l hf (Wt.c r2, (Hh.p (Wt.h r2), Hh.k (Wt.h r2), Hh.v (Wt.h r2), Hh.f (Wt.h r2), Hh.c (Wt.h r2), Hh.t (Wt.h r2), Hh.ro (Wt.h r2), nI 0), Wt.k0 r2, Wt.k1 r2, Wt.k2 r2, Wt.k3 r2, Wt.k4 r2, Wt.k5 r2, Wt.k6 r2, Wt.st r2, Wt.l r2) t u v w b0 b1 b2 b3 b4 b5 b6 (m_X4_sum (Hh.p (Wt.h r2)) (Hh.k (Wt.h r2)) (Hh.v (Wt.h r2)) (Hh.f (Wt.h r2)) (Hh.c (Wt.h r2)) (Hh.t (Wt.h r2)) (Lg.st (Wt.l r2)) (Lg.sz (Wt.l r2)))) ?_
          exact hD _ _ [0, 1, 2, 3, 4, 5] _ _ (K3 _ ((if_neg (fun q => absurd (hk16.symm.trans q) (by decide))).trans ((if_neg (fun q => absurd (hk16.symm.trans q) (by decide))).trans ((if_neg (fun q => absurd (hk16.symm.trans q) (by decide))).trans ((if_neg (fun q => absurd (hk16.symm.trans q) (by decide))).trans ((if_neg (fun q => absurd (hk16.symm.trans q) (by decide))).trans (if_neg (fun q => absurd (hk16.symm.trans q) (by decide)))))))))
  exact hD _ _ [2, 3, 4, 5, 1, 0] _ _ (L6 9 _ _ _ ⟨0, by decide, by decide, rfl, rfl, rfl⟩ (rfl))
theorem ef_weigh_l (s : Wt) (i : Int32) (hi : ¬ m_X7_has (Sc.sz (Wt.c s)) i = 0) : ∀ (n : Nat) (fo fa : Int32) (m1 : Wt), Wt.c m1 = Wt.c s ∧ Wt.l m1 = Wt.l s ∧ Wt.st m1 = Wt.st s → Wt.c (l_X1_weigh_6 s i n fo fa m1).2 = Wt.c s ∧ Wt.l (l_X1_weigh_6 s i n fo fa m1).2 = Wt.l s ∧ Wt.st (l_X1_weigh_6 s i n fo fa m1).2 = Wt.st s := by
  intro n
  induction n with
  | zero => intro fo fa m1 h; exact ⟨rfl, rfl, rfl⟩
  | succ n ih =>
    intro fo fa m1 h
    rw [q_X1_weigh_6]
    by_cases c : nI 8 ≤ fa
    · rw [if_pos c]; exact h
    · rw [if_neg c]
      have e := ef_look (s := m1) (i := i) (f := fa) rfl (by rw [h.1]; exact hi)
      simp only [bindv]
      exact ih _ _ _ ⟨e.1.trans h.1, e.2.1.trans h.2.1, e.2.2.1.trans h.2.2⟩
theorem ef_weigh {s : Wt} {r : Int32 × Wt} {i : Int32} (e : m_X1_weigh s i = r) (hi : ¬ m_X7_has (Sc.sz (Wt.c s)) i = 0) : Wt.c r.2 = Wt.c s ∧ Wt.l r.2 = Wt.l s ∧ Wt.st r.2 = Wt.st s := by
  rw [← e]
  exact ef_weigh_l s i hi 9 _ _ s ⟨rfl, rfl, rfl⟩
def m_X1_heedOf (s : Wt) (i : Int32) (f : Int32) : Int32 × Wt := bindv (m_X1_look s i f) (fun r1 => if Hh.k (Wt.h r1) = nI 0 then ((m_X10_heed_c10 (m_X4_sum (Hh.p (Wt.h r1)) (Hh.k (Wt.h r1)) (Hh.v (Wt.h r1)) (Hh.f (Wt.h r1)) (Hh.c (Wt.h r1)) (Hh.t (Wt.h r1)) (Lg.st (Wt.l r1)) (Lg.sz (Wt.l r1)))), r1) else (if Hh.k (Wt.h r1) = nI 1 then ((m_X3_heed_c3 (Hh.v (Wt.h r1)) (m_X4_sum (Hh.p (Wt.h r1)) (Hh.k (Wt.h r1)) (Hh.v (Wt.h r1)) (Hh.f (Wt.h r1)) (Hh.c (Wt.h r1)) (Hh.t (Wt.h r1)) (Lg.st (Wt.l r1)) (Lg.sz (Wt.l r1)))), r1) else (if Hh.k (Wt.h r1) = nI 2 then ((m_X2_heed_c2 (m_X4_sum (Hh.p (Wt.h r1)) (Hh.k (Wt.h r1)) (Hh.v (Wt.h r1)) (Hh.f (Wt.h r1)) (Hh.c (Wt.h r1)) (Hh.t (Wt.h r1)) (Lg.st (Wt.l r1)) (Lg.sz (Wt.l r1)))), r1) else (if Hh.k (Wt.h r1) = nI 3 then ((m_X0_heed_c0 (Hh.c (Wt.h r1)) (m_X4_sum (Hh.p (Wt.h r1)) (Hh.k (Wt.h r1)) (Hh.v (Wt.h r1)) (Hh.f (Wt.h r1)) (Hh.c (Wt.h r1)) (Hh.t (Wt.h r1)) (Lg.st (Wt.l r1)) (Lg.sz (Wt.l r1)))), r1) else (if Hh.k (Wt.h r1) = nI 4 then ((m_X5_heed_c5 (Hh.v (Wt.h r1)) (Hh.kw (Wt.h r1)) (m_X4_sum (Hh.p (Wt.h r1)) (Hh.k (Wt.h r1)) (Hh.v (Wt.h r1)) (Hh.f (Wt.h r1)) (Hh.c (Wt.h r1)) (Hh.t (Wt.h r1)) (Lg.st (Wt.l r1)) (Lg.sz (Wt.l r1)))), r1) else (if Hh.k (Wt.h r1) = nI 5 then ((m_X6_heed_c6 (Hh.v (Wt.h r1)) (m_X4_sum (Hh.p (Wt.h r1)) (Hh.k (Wt.h r1)) (Hh.v (Wt.h r1)) (Hh.f (Wt.h r1)) (Hh.c (Wt.h r1)) (Hh.t (Wt.h r1)) (Lg.st (Wt.l r1)) (Lg.sz (Wt.l r1)))), r1) else ((m_X9_heed_c9 (Hh.c (Wt.h r1)) (Hh.ro (Wt.h r1)) (m_X4_sum (Hh.p (Wt.h r1)) (Hh.k (Wt.h r1)) (Hh.v (Wt.h r1)) (Hh.f (Wt.h r1)) (Hh.c (Wt.h r1)) (Hh.t (Wt.h r1)) (Lg.st (Wt.l r1)) (Lg.sz (Wt.l r1)))), r1)))))))
set_option maxRecDepth 100000 in
set_option maxHeartbeats 4000000 in
theorem c_X1_heedOf (l : Launch) {fv : Value} (hf : FV fv) (s : Wt) (t u v w b0 b1 b2 b3 b4 b5 b6 : Nat) (i : Int32) (f : Int32) (hi : ¬ m_X7_has (Sc.sz (Wt.c s)) i = 0) (hk : vp_in (Sc.kd (Wt.c s) i.toNatClampNeg) 7) (hf8 : vp_in f 8) : CT l fv 3 jX1_heedOf [.ref 6, .ref 0, .ref 16, .int i, .int f] (hWt s t u v w b0 b1 b2 b3 b4 b5 b6) (DP (some (.int (m_X1_heedOf s i f).1)) (hWt ((m_X1_heedOf s i f).2) t u v w b0 b1 b2 b3 b4 b5 b6)) := by
  refine CT_of [] mt_X1_heedOf (by decide +kernel) (tab_X1 hf) okX1_heedOf (Nat.le_of_ble_eq_true rfl) ?_
  intro J hJ hD
  refine hJ 0 _ _ _ ?_
  obtain ⟨r1, er1⟩ : ∃ z : Wt, m_X1_look s i f = z := ⟨_, rfl⟩
  have hr1 := c_X1_look l hf s t u v w b0 b1 b2 b3 b4 b5 b6 i f hf8
  rw [er1] at hr1
  have h6 := ef_look er1 hi
  refine CALL_same (r := none) (h1 := hWt r1 t u v w b0 b1 b2 b3 b4 b5 b6) (by decide) (hr1) ?_
  rcases (or7 (x := (Hh.k (Wt.h r1))) (by have q := hk; rw [← h6.2.2.2] at q; exact q)) with hk2 | hk3 | hk4 | hk5 | hk6 | hk7 | hk8
  · skip
    refine CALL_same (r := some (.ref 8)) (h1 := hWt r1 t u v w b0 b1 b2 b3 b4 b5 b6) (by decide) (c_X1_kindOf_k0 l hf r1 t u v w b0 b1 b2 b3 b4 b5 b6 (Hh.k (Wt.h r1)) hk2) ?_
    refine CALL_same (r := some (.int (m_X4_sum (Hh.p (Wt.h r1)) (Hh.k (Wt.h r1)) (Hh.v (Wt.h r1)) (Hh.f (Wt.h r1)) (Hh.c (Wt.h r1)) (Hh.t (Wt.h r1)) (Lg.st (Wt.l r1)) (Lg.sz (Wt.l r1))))) (h1 := hWt r1 t u v w b0 b1 b2 b3 b4 b5 b6) (by decide) (c_X4_sum l hf r1 t u v w b0 b1 b2 b3 b4 b5 b6) ?_
    refine CALL_same (r := some (.int (m_X10_heed_c10 (m_X4_sum (Hh.p (Wt.h r1)) (Hh.k (Wt.h r1)) (Hh.v (Wt.h r1)) (Hh.f (Wt.h r1)) (Hh.c (Wt.h r1)) (Hh.t (Wt.h r1)) (Lg.st (Wt.l r1)) (Lg.sz (Wt.l r1)))))) (h1 := hWt r1 t u v w b0 b1 b2 b3 b4 b5 b6) (by decide) (c_X10_heed_c10 l hf r1 t u v w b0 b1 b2 b3 b4 b5 b6 (m_X4_sum (Hh.p (Wt.h r1)) (Hh.k (Wt.h r1)) (Hh.v (Wt.h r1)) (Hh.f (Wt.h r1)) (Hh.c (Wt.h r1)) (Hh.t (Wt.h r1)) (Lg.st (Wt.l r1)) (Lg.sz (Wt.l r1)))) ?_
    exact And.intro True.intro (DPis (F := (fun z => hWt z t u v w b0 b1 b2 b3 b4 b5 b6)) (s' := r1) ((bindv_eq er1).trans (if_pos hk2)))
  · skip
    refine CALL_same (r := some (.ref 9)) (h1 := hWt r1 t u v w b0 b1 b2 b3 b4 b5 b6) (by decide) (c_X1_kindOf_k1 l hf r1 t u v w b0 b1 b2 b3 b4 b5 b6 (Hh.k (Wt.h r1)) hk3) ?_
    refine CALL_same (r := some (.int (m_X4_sum (Hh.p (Wt.h r1)) (Hh.k (Wt.h r1)) (Hh.v (Wt.h r1)) (Hh.f (Wt.h r1)) (Hh.c (Wt.h r1)) (Hh.t (Wt.h r1)) (Lg.st (Wt.l r1)) (Lg.sz (Wt.l r1))))) (h1 := hWt r1 t u v w b0 b1 b2 b3 b4 b5 b6) (by decide) (c_X4_sum l hf r1 t u v w b0 b1 b2 b3 b4 b5 b6) ?_
    refine CALL_same (r := some (.int (m_X3_heed_c3 (Hh.v (Wt.h r1)) (m_X4_sum (Hh.p (Wt.h r1)) (Hh.k (Wt.h r1)) (Hh.v (Wt.h r1)) (Hh.f (Wt.h r1)) (Hh.c (Wt.h r1)) (Hh.t (Wt.h r1)) (Lg.st (Wt.l r1)) (Lg.sz (Wt.l r1)))))) (h1 := hWt r1 t u v w b0 b1 b2 b3 b4 b5 b6) (by decide) (c_X3_heed_c3 l hf r1 t u v w b0 b1 b2 b3 b4 b5 b6 (m_X4_sum (Hh.p (Wt.h r1)) (Hh.k (Wt.h r1)) (Hh.v (Wt.h r1)) (Hh.f (Wt.h r1)) (Hh.c (Wt.h r1)) (Hh.t (Wt.h r1)) (Lg.st (Wt.l r1)) (Lg.sz (Wt.l r1)))) ?_
    exact And.intro True.intro (DPis (F := (fun z => hWt z t u v w b0 b1 b2 b3 b4 b5 b6)) (s' := r1) ((bindv_eq er1).trans ((if_neg (fun q => absurd (hk3.symm.trans q) (by decide))).trans (if_pos hk3))))
  · skip
    refine CALL_same (r := some (.ref 10)) (h1 := hWt r1 t u v w b0 b1 b2 b3 b4 b5 b6) (by decide) (c_X1_kindOf_k2 l hf r1 t u v w b0 b1 b2 b3 b4 b5 b6 (Hh.k (Wt.h r1)) hk4) ?_
    refine CALL_same (r := some (.int (m_X4_sum (Hh.p (Wt.h r1)) (Hh.k (Wt.h r1)) (Hh.v (Wt.h r1)) (Hh.f (Wt.h r1)) (Hh.c (Wt.h r1)) (Hh.t (Wt.h r1)) (Lg.st (Wt.l r1)) (Lg.sz (Wt.l r1))))) (h1 := hWt r1 t u v w b0 b1 b2 b3 b4 b5 b6) (by decide) (c_X4_sum l hf r1 t u v w b0 b1 b2 b3 b4 b5 b6) ?_
    refine CALL_same (r := some (.int (m_X2_heed_c2 (m_X4_sum (Hh.p (Wt.h r1)) (Hh.k (Wt.h r1)) (Hh.v (Wt.h r1)) (Hh.f (Wt.h r1)) (Hh.c (Wt.h r1)) (Hh.t (Wt.h r1)) (Lg.st (Wt.l r1)) (Lg.sz (Wt.l r1)))))) (h1 := hWt r1 t u v w b0 b1 b2 b3 b4 b5 b6) (by decide) (c_X2_heed_c2 l hf r1 t u v w b0 b1 b2 b3 b4 b5 b6 (m_X4_sum (Hh.p (Wt.h r1)) (Hh.k (Wt.h r1)) (Hh.v (Wt.h r1)) (Hh.f (Wt.h r1)) (Hh.c (Wt.h r1)) (Hh.t (Wt.h r1)) (Lg.st (Wt.l r1)) (Lg.sz (Wt.l r1)))) ?_
    exact And.intro True.intro (DPis (F := (fun z => hWt z t u v w b0 b1 b2 b3 b4 b5 b6)) (s' := r1) ((bindv_eq er1).trans ((if_neg (fun q => absurd (hk4.symm.trans q) (by decide))).trans ((if_neg (fun q => absurd (hk4.symm.trans q) (by decide))).trans (if_pos hk4)))))
  · skip
    refine CALL_same (r := some (.ref 11)) (h1 := hWt r1 t u v w b0 b1 b2 b3 b4 b5 b6) (by decide) (c_X1_kindOf_k3 l hf r1 t u v w b0 b1 b2 b3 b4 b5 b6 (Hh.k (Wt.h r1)) hk5) ?_
    refine CALL_same (r := some (.int (m_X4_sum (Hh.p (Wt.h r1)) (Hh.k (Wt.h r1)) (Hh.v (Wt.h r1)) (Hh.f (Wt.h r1)) (Hh.c (Wt.h r1)) (Hh.t (Wt.h r1)) (Lg.st (Wt.l r1)) (Lg.sz (Wt.l r1))))) (h1 := hWt r1 t u v w b0 b1 b2 b3 b4 b5 b6) (by decide) (c_X4_sum l hf r1 t u v w b0 b1 b2 b3 b4 b5 b6) ?_
    refine CALL_same (r := some (.int (m_X0_heed_c0 (Hh.c (Wt.h r1)) (m_X4_sum (Hh.p (Wt.h r1)) (Hh.k (Wt.h r1)) (Hh.v (Wt.h r1)) (Hh.f (Wt.h r1)) (Hh.c (Wt.h r1)) (Hh.t (Wt.h r1)) (Lg.st (Wt.l r1)) (Lg.sz (Wt.l r1)))))) (h1 := hWt r1 t u v w b0 b1 b2 b3 b4 b5 b6) (by decide) (c_X0_heed_c0 l hf r1 t u v w b0 b1 b2 b3 b4 b5 b6 (m_X4_sum (Hh.p (Wt.h r1)) (Hh.k (Wt.h r1)) (Hh.v (Wt.h r1)) (Hh.f (Wt.h r1)) (Hh.c (Wt.h r1)) (Hh.t (Wt.h r1)) (Lg.st (Wt.l r1)) (Lg.sz (Wt.l r1)))) ?_
    exact And.intro True.intro (DPis (F := (fun z => hWt z t u v w b0 b1 b2 b3 b4 b5 b6)) (s' := r1) ((bindv_eq er1).trans ((if_neg (fun q => absurd (hk5.symm.trans q) (by decide))).trans ((if_neg (fun q => absurd (hk5.symm.trans q) (by decide))).trans ((if_neg (fun q => absurd (hk5.symm.trans q) (by decide))).trans (if_pos hk5))))))
  · skip
    refine CALL_same (r := some (.ref 12)) (h1 := hWt r1 t u v w b0 b1 b2 b3 b4 b5 b6) (by decide) (c_X1_kindOf_k4 l hf r1 t u v w b0 b1 b2 b3 b4 b5 b6 (Hh.k (Wt.h r1)) hk6) ?_
    refine CALL_same (r := some (.int (m_X4_sum (Hh.p (Wt.h r1)) (Hh.k (Wt.h r1)) (Hh.v (Wt.h r1)) (Hh.f (Wt.h r1)) (Hh.c (Wt.h r1)) (Hh.t (Wt.h r1)) (Lg.st (Wt.l r1)) (Lg.sz (Wt.l r1))))) (h1 := hWt r1 t u v w b0 b1 b2 b3 b4 b5 b6) (by decide) (c_X4_sum l hf r1 t u v w b0 b1 b2 b3 b4 b5 b6) ?_
    refine CALL_same (r := some (.int (m_X5_heed_c5 (Hh.v (Wt.h r1)) (Hh.kw (Wt.h r1)) (m_X4_sum (Hh.p (Wt.h r1)) (Hh.k (Wt.h r1)) (Hh.v (Wt.h r1)) (Hh.f (Wt.h r1)) (Hh.c (Wt.h r1)) (Hh.t (Wt.h r1)) (Lg.st (Wt.l r1)) (Lg.sz (Wt.l r1)))))) (h1 := hWt r1 t u v w b0 b1 b2 b3 b4 b5 b6) (by decide) (c_X5_heed_c5 l hf r1 t u v w b0 b1 b2 b3 b4 b5 b6 (m_X4_sum (Hh.p (Wt.h r1)) (Hh.k (Wt.h r1)) (Hh.v (Wt.h r1)) (Hh.f (Wt.h r1)) (Hh.c (Wt.h r1)) (Hh.t (Wt.h r1)) (Lg.st (Wt.l r1)) (Lg.sz (Wt.l r1)))) ?_
    exact And.intro True.intro (DPis (F := (fun z => hWt z t u v w b0 b1 b2 b3 b4 b5 b6)) (s' := r1) ((bindv_eq er1).trans ((if_neg (fun q => absurd (hk6.symm.trans q) (by decide))).trans ((if_neg (fun q => absurd (hk6.symm.trans q) (by decide))).trans ((if_neg (fun q => absurd (hk6.symm.trans q) (by decide))).trans ((if_neg (fun q => absurd (hk6.symm.trans q) (by decide))).trans (if_pos hk6)))))))
  · skip
    refine CALL_same (r := some (.ref 13)) (h1 := hWt r1 t u v w b0 b1 b2 b3 b4 b5 b6) (by decide) (c_X1_kindOf_k5 l hf r1 t u v w b0 b1 b2 b3 b4 b5 b6 (Hh.k (Wt.h r1)) hk7) ?_
    refine CALL_same (r := some (.int (m_X4_sum (Hh.p (Wt.h r1)) (Hh.k (Wt.h r1)) (Hh.v (Wt.h r1)) (Hh.f (Wt.h r1)) (Hh.c (Wt.h r1)) (Hh.t (Wt.h r1)) (Lg.st (Wt.l r1)) (Lg.sz (Wt.l r1))))) (h1 := hWt r1 t u v w b0 b1 b2 b3 b4 b5 b6) (by decide) (c_X4_sum l hf r1 t u v w b0 b1 b2 b3 b4 b5 b6) ?_
    refine CALL_same (r := some (.int (m_X6_heed_c6 (Hh.v (Wt.h r1)) (m_X4_sum (Hh.p (Wt.h r1)) (Hh.k (Wt.h r1)) (Hh.v (Wt.h r1)) (Hh.f (Wt.h r1)) (Hh.c (Wt.h r1)) (Hh.t (Wt.h r1)) (Lg.st (Wt.l r1)) (Lg.sz (Wt.l r1)))))) (h1 := hWt r1 t u v w b0 b1 b2 b3 b4 b5 b6) (by decide) (c_X6_heed_c6 l hf r1 t u v w b0 b1 b2 b3 b4 b5 b6 (m_X4_sum (Hh.p (Wt.h r1)) (Hh.k (Wt.h r1)) (Hh.v (Wt.h r1)) (Hh.f (Wt.h r1)) (Hh.c (Wt.h r1)) (Hh.t (Wt.h r1)) (Lg.st (Wt.l r1)) (Lg.sz (Wt.l r1)))) ?_
    exact And.intro True.intro (DPis (F := (fun z => hWt z t u v w b0 b1 b2 b3 b4 b5 b6)) (s' := r1) ((bindv_eq er1).trans ((if_neg (fun q => absurd (hk7.symm.trans q) (by decide))).trans ((if_neg (fun q => absurd (hk7.symm.trans q) (by decide))).trans ((if_neg (fun q => absurd (hk7.symm.trans q) (by decide))).trans ((if_neg (fun q => absurd (hk7.symm.trans q) (by decide))).trans ((if_neg (fun q => absurd (hk7.symm.trans q) (by decide))).trans (if_pos hk7))))))))
  · skip
    refine CALL_same (r := some (.ref 14)) (h1 := hWt r1 t u v w b0 b1 b2 b3 b4 b5 b6) (by decide) (c_X1_kindOf_k6 l hf r1 t u v w b0 b1 b2 b3 b4 b5 b6 (Hh.k (Wt.h r1)) hk8) ?_
    refine CALL_same (r := some (.int (m_X4_sum (Hh.p (Wt.h r1)) (Hh.k (Wt.h r1)) (Hh.v (Wt.h r1)) (Hh.f (Wt.h r1)) (Hh.c (Wt.h r1)) (Hh.t (Wt.h r1)) (Lg.st (Wt.l r1)) (Lg.sz (Wt.l r1))))) (h1 := hWt r1 t u v w b0 b1 b2 b3 b4 b5 b6) (by decide) (c_X4_sum l hf r1 t u v w b0 b1 b2 b3 b4 b5 b6) ?_
    refine CALL_same (r := some (.int (m_X9_heed_c9 (Hh.c (Wt.h r1)) (Hh.ro (Wt.h r1)) (m_X4_sum (Hh.p (Wt.h r1)) (Hh.k (Wt.h r1)) (Hh.v (Wt.h r1)) (Hh.f (Wt.h r1)) (Hh.c (Wt.h r1)) (Hh.t (Wt.h r1)) (Lg.st (Wt.l r1)) (Lg.sz (Wt.l r1)))))) (h1 := hWt r1 t u v w b0 b1 b2 b3 b4 b5 b6) (by decide) (c_X9_heed_c9 l hf r1 t u v w b0 b1 b2 b3 b4 b5 b6 (m_X4_sum (Hh.p (Wt.h r1)) (Hh.k (Wt.h r1)) (Hh.v (Wt.h r1)) (Hh.f (Wt.h r1)) (Hh.c (Wt.h r1)) (Hh.t (Wt.h r1)) (Lg.st (Wt.l r1)) (Lg.sz (Wt.l r1)))) ?_
    exact And.intro True.intro (DPis (F := (fun z => hWt z t u v w b0 b1 b2 b3 b4 b5 b6)) (s' := r1) ((bindv_eq er1).trans ((if_neg (fun q => absurd (hk8.symm.trans q) (by decide))).trans ((if_neg (fun q => absurd (hk8.symm.trans q) (by decide))).trans ((if_neg (fun q => absurd (hk8.symm.trans q) (by decide))).trans ((if_neg (fun q => absurd (hk8.symm.trans q) (by decide))).trans ((if_neg (fun q => absurd (hk8.symm.trans q) (by decide))).trans (if_neg (fun q => absurd (hk8.symm.trans q) (by decide))))))))))
def m_X1_setsOf (s : Wt) (i : Int32) : Int32 × Wt := if (m_X7_has (Sc.sz (Wt.c s)) i) = 0 then (nI 0, s) else (if ((((i * nI 9) + (m_J6_bitCount_0f7a4 (Sc.kn (Wt.c s) i.toNatClampNeg))) * nI 10) + (Sc.ti (Wt.c s) - Sc.ti (Wt.c s) / nI 10 * nI 10)) < 0 then (nI 0, s) else (if ((((i * nI 9) + (m_J6_bitCount_0f7a4 (Sc.kn (Wt.c s) i.toNatClampNeg))) * nI 10) + (Sc.ti (Wt.c s) - Sc.ti (Wt.c s) / nI 10 * nI 10)) < nI 540 then (if (Wt.st s ((((i * nI 9) + (m_J6_bitCount_0f7a4 (Sc.kn (Wt.c s) i.toNatClampNeg))) * nI 10) + (Sc.ti (Wt.c s) - Sc.ti (Wt.c s) / nI 10 * nI 10)).toNatClampNeg) = (-nI 1) then (bindv (m_X1_weigh s i) (fun r5 => (((upd (Wt.st r5.2) ((((i * nI 9) + (m_J6_bitCount_0f7a4 (Sc.kn (Wt.c s) i.toNatClampNeg))) * nI 10) + (Sc.ti (Wt.c s) - Sc.ti (Wt.c s) / nI 10 * nI 10)).toNatClampNeg r5.1) ((((i * nI 9) + (m_J6_bitCount_0f7a4 (Sc.kn (Wt.c s) i.toNatClampNeg))) * nI 10) + (Sc.ti (Wt.c s) - Sc.ti (Wt.c s) / nI 10 * nI 10)).toNatClampNeg), (Wt.c r5.2, Wt.h r5.2, Wt.k0 r5.2, Wt.k1 r5.2, Wt.k2 r5.2, Wt.k3 r5.2, Wt.k4 r5.2, Wt.k5 r5.2, Wt.k6 r5.2, (upd (Wt.st r5.2) ((((i * nI 9) + (m_J6_bitCount_0f7a4 (Sc.kn (Wt.c s) i.toNatClampNeg))) * nI 10) + (Sc.ti (Wt.c s) - Sc.ti (Wt.c s) / nI 10 * nI 10)).toNatClampNeg r5.1), Wt.l r5.2)))) else ((Wt.st s ((((i * nI 9) + (m_J6_bitCount_0f7a4 (Sc.kn (Wt.c s) i.toNatClampNeg))) * nI 10) + (Sc.ti (Wt.c s) - Sc.ti (Wt.c s) / nI 10 * nI 10)).toNatClampNeg), s)) else (nI 0, s)))
set_option maxRecDepth 100000 in
set_option maxHeartbeats 4000000 in
theorem c_X1_setsOf (l : Launch) {fv : Value} (hf : FV fv) (s : Wt) (t u v w b0 b1 b2 b3 b4 b5 b6 : Nat) (i : Int32) (hk : hK (Sc.sz (Wt.c s)) (Sc.kd (Wt.c s))) : CT l fv 4 jX1_setsOf [.ref 6, .ref 0, .ref 16, .int i] (hWt s t u v w b0 b1 b2 b3 b4 b5 b6) (DP (some (.int (m_X1_setsOf s i).1)) (hWt ((m_X1_setsOf s i).2) t u v w b0 b1 b2 b3 b4 b5 b6)) := by
  refine CT_of [] mt_X1_setsOf (by decide +kernel) (tab_X1 hf) okX1_setsOf (Nat.le_of_ble_eq_true rfl) ?_
  intro J hJ hD
  refine hJ 0 _ _ _ ?_
  refine CALL_pre (r := some (.int (m_X7_has (Sc.sz (Wt.c s)) i))) (h1 := hSc (Wt.c s) t u v w) (rest := List.drop 6 (hWt s t u v w b0 b1 b2 b3 b4 b5 b6)) (by decide) (c_X7_has l hf (Wt.c s) t u v w i) rfl rfl (Nat.le_of_ble_eq_true rfl) ?_
  refine And.intro (fun c1 => ?_) (fun c1 => ?_)
  · skip
    have hi := c1
    refine hJ 10 _ _ _ ?_
    refine And.intro (has_of hi) ?_
    refine CALL_sub (h' := hWt s t u v w b0 b1 b2 b3 b4 b5 b6) [] (by decide) (c_J6_bitCount_0f7a4 l hf (Sc.kn (Wt.c s) i.toNatClampNeg)) rfl rfl (by decide) (by decide) rfl ?_
    refine And.intro (by decide) ?_
    refine And.intro (fun c2 => ?_) (fun c2 => ?_)
    · skip
      refine hJ 56 _ _ _ ?_
      exact And.intro True.intro (DPis (F := (fun z => hWt z t u v w b0 b1 b2 b3 b4 b5 b6)) (s' := s) ((if_neg c1).trans (if_pos c2)))
    · skip
      have k1 := c2
      refine And.intro (fun c3 => ?_) (fun c3 => ?_)
      · skip
        have k2 := c3
        refine hJ 58 _ _ _ ?_
        refine And.intro (vp_of2 k1 k2 (by decide)) ?_
        refine And.intro (fun c4 => ?_) (fun c4 => ?_)
        · skip
          refine hJ 83 _ _ _ ?_
          refine And.intro (vp_of2 k1 k2 (by decide)) ?_
          exact And.intro True.intro (DPis (F := (fun z => hWt z t u v w b0 b1 b2 b3 b4 b5 b6)) (s' := s) ((if_neg c1).trans ((if_neg c2).trans ((if_pos c3).trans (if_neg c4)))))
        · skip
          obtain ⟨r5, er5⟩ : ∃ z : Int32 × Wt, m_X1_weigh s i = z := ⟨_, rfl⟩
          have hr5 := c_X1_weigh l hf s t u v w b0 b1 b2 b3 b4 b5 b6 i hi (hk _ hi)
          rw [er5] at hr5
          refine CALL_same (r := some (.int r5.1)) (h1 := hWt r5.2 t u v w b0 b1 b2 b3 b4 b5 b6) (by decide) (hr5) ?_
          refine And.intro (vp_of2 k1 k2 (by decide)) ?_
          refine And.intro (vp_of2 k1 k2 (by decide)) ?_
          exact And.intro True.intro (DPis (F := (fun z => hWt z t u v w b0 b1 b2 b3 b4 b5 b6)) (s' := (Wt.c r5.2, Wt.h r5.2, Wt.k0 r5.2, Wt.k1 r5.2, Wt.k2 r5.2, Wt.k3 r5.2, Wt.k4 r5.2, Wt.k5 r5.2, Wt.k6 r5.2, (upd (Wt.st r5.2) ((((i * nI 9) + (m_J6_bitCount_0f7a4 (Sc.kn (Wt.c s) i.toNatClampNeg))) * nI 10) + (Sc.ti (Wt.c s) - Sc.ti (Wt.c s) / nI 10 * nI 10)).toNatClampNeg r5.1), Wt.l r5.2)) ((if_neg c1).trans ((if_neg c2).trans ((if_pos c3).trans ((if_pos c4).trans (bindv_eq er5))))))
      · skip
        exact And.intro True.intro (DPis (F := (fun z => hWt z t u v w b0 b1 b2 b3 b4 b5 b6)) (s' := s) ((if_neg c1).trans ((if_neg c2).trans (if_neg c3))))
  · skip
    exact And.intro True.intro (DPis (F := (fun z => hWt z t u v w b0 b1 b2 b3 b4 b5 b6)) (s' := s) (if_pos c1))
theorem ef_setsOf {s : Wt} {r : Int32 × Wt} {i : Int32} (e : m_X1_setsOf s i = r) : Wt.c r.2 = Wt.c s ∧ Wt.l r.2 = Wt.l s := by
  rw [← e]
  unfold m_X1_setsOf
  by_cases c : m_X7_has (Sc.sz (Wt.c s)) i = 0
  · rw [if_pos c]; exact ⟨rfl, rfl⟩
  · rw [if_neg c]
    have w := ef_weigh (s := s) (i := i) rfl c
    unfold bindv
    split
    · exact ⟨rfl, rfl⟩
    · split
      · split
        · exact ⟨w.1, w.2.1⟩
        · exact ⟨rfl, rfl⟩
      · exact ⟨rfl, rfl⟩
def l_X7_goTide_6 (s : Wt) (le : Int32) : Nat → Int32 → Int32 → Wt → Wt
  | 0, _, _, _ => s
  | n6 + 1, le1, i, m1 => if Sc.sz (Wt.c m1) ≤ i then ((Sc.kd (Wt.c m1), Sc.vv (Wt.c m1), Sc.kn (Wt.c m1), Sc.rw (Wt.c m1), Sc.le (Wt.c m1), Sc.sz (Wt.c m1), Sc.ou (Wt.c m1), (Sc.ti (Wt.c m1) + nI 1), Sc.sg (Wt.c m1), Sc.lg (Wt.c m1)), Wt.h m1, Wt.k0 m1, Wt.k1 m1, Wt.k2 m1, Wt.k3 m1, Wt.k4 m1, Wt.k5 m1, Wt.k6 m1, Wt.st m1, Wt.l m1) else (if nI 6 ≤ i then ((Sc.kd (Wt.c m1), Sc.vv (Wt.c m1), Sc.kn (Wt.c m1), Sc.rw (Wt.c m1), Sc.le (Wt.c m1), Sc.sz (Wt.c m1), Sc.ou (Wt.c m1), (Sc.ti (Wt.c m1) + nI 1), Sc.sg (Wt.c m1), Sc.lg (Wt.c m1)), Wt.h m1, Wt.k0 m1, Wt.k1 m1, Wt.k2 m1, Wt.k3 m1, Wt.k4 m1, Wt.k5 m1, Wt.k6 m1, Wt.st m1, Wt.l m1) else (if (m_X7_isOut (Sc.ou (Wt.c m1)) i) = 0 then (bindv (if (m_X7_has (Sc.sz (Wt.c m1)) (i + nI 1)) = 0 then (nI 0) else (if (m_X7_isOut (Sc.ou (Wt.c m1)) (i + nI 1)) = 0 then (Sc.kn (Wt.c m1) (i + nI 1).toNatClampNeg) else (nI 0))) (fun x4_0 => bindv (m_X1_setsOf m1 i) (fun r5 => l_X7_goTide_6 s le n6 (Sc.kn (Wt.c m1) i.toNatClampNeg) (i + nI 1) ((Sc.kd (Wt.c r5.2), Sc.vv (Wt.c r5.2), (upd (Sc.kn (Wt.c r5.2)) i.toNatClampNeg (m_X7_least ((((Sc.kn (Wt.c m1) i.toNatClampNeg) &&& r5.1) ||| (((nI 1 <<< (le &&& 31)) &&& (r5.1 >>> (nI 8 &&& 31))) &&& nI 255)) ||| ((le1 ||| x4_0) &&& (r5.1 >>> (nI 16 &&& 31)))) (Lg.ke (Wt.l r5.2)))), Sc.rw (Wt.c r5.2), Sc.le (Wt.c r5.2), Sc.sz (Wt.c r5.2), Sc.ou (Wt.c r5.2), Sc.ti (Wt.c r5.2), Sc.sg (Wt.c r5.2), Sc.lg (Wt.c r5.2)), Wt.h r5.2, Wt.k0 r5.2, Wt.k1 r5.2, Wt.k2 r5.2, Wt.k3 r5.2, Wt.k4 r5.2, Wt.k5 r5.2, Wt.k6 r5.2, Wt.st r5.2, Wt.l r5.2)))) else l_X7_goTide_6 s le n6 (nI 0) (i + nI 1) m1))
theorem q_X7_goTide_6 (s : Wt) (le : Int32) (n6 : Nat) (le1 : Int32) (i : Int32) (m1 : Wt) : l_X7_goTide_6 s le (n6 + 1) le1 i m1 = (if Sc.sz (Wt.c m1) ≤ i then ((Sc.kd (Wt.c m1), Sc.vv (Wt.c m1), Sc.kn (Wt.c m1), Sc.rw (Wt.c m1), Sc.le (Wt.c m1), Sc.sz (Wt.c m1), Sc.ou (Wt.c m1), (Sc.ti (Wt.c m1) + nI 1), Sc.sg (Wt.c m1), Sc.lg (Wt.c m1)), Wt.h m1, Wt.k0 m1, Wt.k1 m1, Wt.k2 m1, Wt.k3 m1, Wt.k4 m1, Wt.k5 m1, Wt.k6 m1, Wt.st m1, Wt.l m1) else (if nI 6 ≤ i then ((Sc.kd (Wt.c m1), Sc.vv (Wt.c m1), Sc.kn (Wt.c m1), Sc.rw (Wt.c m1), Sc.le (Wt.c m1), Sc.sz (Wt.c m1), Sc.ou (Wt.c m1), (Sc.ti (Wt.c m1) + nI 1), Sc.sg (Wt.c m1), Sc.lg (Wt.c m1)), Wt.h m1, Wt.k0 m1, Wt.k1 m1, Wt.k2 m1, Wt.k3 m1, Wt.k4 m1, Wt.k5 m1, Wt.k6 m1, Wt.st m1, Wt.l m1) else (if (m_X7_isOut (Sc.ou (Wt.c m1)) i) = 0 then (bindv (if (m_X7_has (Sc.sz (Wt.c m1)) (i + nI 1)) = 0 then (nI 0) else (if (m_X7_isOut (Sc.ou (Wt.c m1)) (i + nI 1)) = 0 then (Sc.kn (Wt.c m1) (i + nI 1).toNatClampNeg) else (nI 0))) (fun x4_0 => bindv (m_X1_setsOf m1 i) (fun r5 => l_X7_goTide_6 s le n6 (Sc.kn (Wt.c m1) i.toNatClampNeg) (i + nI 1) ((Sc.kd (Wt.c r5.2), Sc.vv (Wt.c r5.2), (upd (Sc.kn (Wt.c r5.2)) i.toNatClampNeg (m_X7_least ((((Sc.kn (Wt.c m1) i.toNatClampNeg) &&& r5.1) ||| (((nI 1 <<< (le &&& 31)) &&& (r5.1 >>> (nI 8 &&& 31))) &&& nI 255)) ||| ((le1 ||| x4_0) &&& (r5.1 >>> (nI 16 &&& 31)))) (Lg.ke (Wt.l r5.2)))), Sc.rw (Wt.c r5.2), Sc.le (Wt.c r5.2), Sc.sz (Wt.c r5.2), Sc.ou (Wt.c r5.2), Sc.ti (Wt.c r5.2), Sc.sg (Wt.c r5.2), Sc.lg (Wt.c r5.2)), Wt.h r5.2, Wt.k0 r5.2, Wt.k1 r5.2, Wt.k2 r5.2, Wt.k3 r5.2, Wt.k4 r5.2, Wt.k5 r5.2, Wt.k6 r5.2, Wt.st r5.2, Wt.l r5.2)))) else l_X7_goTide_6 s le n6 (nI 0) (i + nI 1) m1))) := rfl
def m_X7_goTide (s : Wt) (le : Int32) : Wt := l_X7_goTide_6 s le 7 (nI 0) (nI 0) s
set_option maxRecDepth 100000 in
set_option maxHeartbeats 4000000 in
theorem c_X7_goTide (l : Launch) {fv : Value} (hf : FV fv) (s : Wt) (t u v w b0 b1 b2 b3 b4 b5 b6 : Nat) (le : Int32) (hk : hK (Sc.sz (Wt.c s)) (Sc.kd (Wt.c s))) : CT l fv 5 jX7_goTide [.ref 0, .ref 6, .ref 16, .int le] (hWt s t u v w b0 b1 b2 b3 b4 b5 b6) (DP none (hWt (m_X7_goTide s le) t u v w b0 b1 b2 b3 b4 b5 b6)) := by
  refine CT_of [6, 81] mt_X7_goTide (by decide +kernel) (tab_X7 hf) okX7_goTide (Nat.le_of_ble_eq_true rfl) ?_
  intro J hJ hD
  refine hJ 0 _ _ _ ?_
  have L6 : ∀ (n6 : Nat) (le1 : Int32) (i : Int32) (m1 : Wt), (∃ z9 : Nat, z9 ≤ 6 ∧ n6 + z9 = 7 ∧ i = nI z9 ∧ hK (Sc.sz (Wt.c m1)) (Sc.kd (Wt.c m1))) → m_X7_goTide s le = l_X7_goTide_6 s le n6 le1 i m1 → J 6 [(0, .ref 0), (1, .ref 6), (2, .ref 16), (3, .int le), (4, .int le1), (5, .int i)] [] (hWt m1 t u v w b0 b1 b2 b3 b4 b5 b6) := by
    intro n6
    induction n6 with
    | zero =>
      intro le1 i m1 hv
      obtain ⟨z9, h1, h2, h3, h5⟩ := hv
      omega
    | succ n6 ih6 =>
      intro le1 i m1 hv e6
      obtain ⟨z9, h1, h2, h3, h5⟩ := hv
      refine hJ 6 _ _ _ ?_
      refine And.intro (fun c1 => ?_) (fun c1 => ?_)
      · skip
        refine hJ 160 _ _ _ ?_
        refine And.intro True.intro ?_
        exact And.intro rfl (DPs (F := (fun z => hWt z t u v w b0 b1 b2 b3 b4 b5 b6)) (s' := ((Sc.kd (Wt.c m1), Sc.vv (Wt.c m1), Sc.kn (Wt.c m1), Sc.rw (Wt.c m1), Sc.le (Wt.c m1), Sc.sz (Wt.c m1), Sc.ou (Wt.c m1), (Sc.ti (Wt.c m1) + nI 1), Sc.sg (Wt.c m1), Sc.lg (Wt.c m1)), Wt.h m1, Wt.k0 m1, Wt.k1 m1, Wt.k2 m1, Wt.k3 m1, Wt.k4 m1, Wt.k5 m1, Wt.k6 m1, Wt.st m1, Wt.l m1)) (e6.trans ((q_X7_goTide_6 s le n6 le1 i m1).trans (if_pos c1))))
      · skip
        refine And.intro (fun c2 => ?_) (fun c2 => ?_)
        · skip
          refine hJ 160 _ _ _ ?_
          refine And.intro True.intro ?_
          exact And.intro rfl (DPs (F := (fun z => hWt z t u v w b0 b1 b2 b3 b4 b5 b6)) (s' := ((Sc.kd (Wt.c m1), Sc.vv (Wt.c m1), Sc.kn (Wt.c m1), Sc.rw (Wt.c m1), Sc.le (Wt.c m1), Sc.sz (Wt.c m1), Sc.ou (Wt.c m1), (Sc.ti (Wt.c m1) + nI 1), Sc.sg (Wt.c m1), Sc.lg (Wt.c m1)), Wt.h m1, Wt.k0 m1, Wt.k1 m1, Wt.k2 m1, Wt.k3 m1, Wt.k4 m1, Wt.k5 m1, Wt.k6 m1, Wt.st m1, Wt.l m1)) (e6.trans ((q_X7_goTide_6 s le n6 le1 i m1).trans ((if_neg c1).trans (if_pos c2)))))
        · skip
          have h4 : z9 < 6 := cnt_lt h3 h1 (by decide) c2
          have hp := vp_nI h3 h4 (by decide)
          refine And.intro (hp) ?_
          refine CALL_pre (r := some (.int (m_X7_isOut (Sc.ou (Wt.c m1)) i))) (h1 := hSc (Wt.c m1) t u v w) (rest := List.drop 6 (hWt m1 t u v w b0 b1 b2 b3 b4 b5 b6)) (by decide) (c_X7_isOut l hf (Wt.c m1) t u v w i) rfl rfl (Nat.le_of_ble_eq_true rfl) ?_
          refine And.intro (fun c3 => ?_) (fun c3 => ?_)
          · skip
            refine hJ 46 _ _ _ ?_
            refine CALL_pre (r := some (.int (m_X7_has (Sc.sz (Wt.c m1)) (i + nI 1)))) (h1 := hSc (Wt.c m1) t u v w) (rest := List.drop 6 (hWt m1 t u v w b0 b1 b2 b3 b4 b5 b6)) (by decide) (c_X7_has l hf (Wt.c m1) t u v w (i + nI 1)) rfl rfl (Nat.le_of_ble_eq_true rfl) ?_
            have K4 : ∀ (x4_0 : Int32), (if (m_X7_has (Sc.sz (Wt.c m1)) (i + nI 1)) = 0 then (nI 0) else (if (m_X7_isOut (Sc.ou (Wt.c m1)) (i + nI 1)) = 0 then (Sc.kn (Wt.c m1) (i + nI 1).toNatClampNeg) else (nI 0))) = x4_0 → J 81 [(0, .ref 0), (1, .ref 6), (2, .ref 16), (3, .int le), (4, .int le1), (5, .int i), (6, .int (Sc.kn (Wt.c m1) i.toNatClampNeg))] [.int x4_0] (hWt m1 t u v w b0 b1 b2 b3 b4 b5 b6) := by
              intro x4_0 ex4_0
              refine hJ 81 _ _ _ ?_
              obtain ⟨r5, er5⟩ : ∃ z : Int32 × Wt, m_X1_setsOf m1 i = z := ⟨_, rfl⟩
              have hr5 := c_X1_setsOf l hf m1 t u v w b0 b1 b2 b3 b4 b5 b6 i h5
              rw [er5] at hr5
              have h6 := ef_setsOf er5
              refine CALL_same (r := some (.int r5.1)) (h1 := hWt r5.2 t u v w b0 b1 b2 b3 b4 b5 b6) (by decide) (hr5) ?_
              refine CALL_sub (h' := hWt r5.2 t u v w b0 b1 b2 b3 b4 b5 b6) [] (by decide) (c_X7_least l hf ((((Sc.kn (Wt.c m1) i.toNatClampNeg) &&& r5.1) ||| (((nI 1 <<< (le &&& 31)) &&& (r5.1 >>> (nI 8 &&& 31))) &&& nI 255)) ||| ((le1 ||| x4_0) &&& (r5.1 >>> (nI 16 &&& 31)))) (Lg.ke (Wt.l r5.2))) rfl rfl (by decide) (by decide) rfl ?_
              refine And.intro (hp) ?_
              exact hD _ _ [5, 6, 7, 8, 1, 0] _ _ (ih6 _ _ ((Sc.kd (Wt.c r5.2), Sc.vv (Wt.c r5.2), (upd (Sc.kn (Wt.c r5.2)) i.toNatClampNeg (m_X7_least ((((Sc.kn (Wt.c m1) i.toNatClampNeg) &&& r5.1) ||| (((nI 1 <<< (le &&& 31)) &&& (r5.1 >>> (nI 8 &&& 31))) &&& nI 255)) ||| ((le1 ||| x4_0) &&& (r5.1 >>> (nI 16 &&& 31)))) (Lg.ke (Wt.l r5.2)))), Sc.rw (Wt.c r5.2), Sc.le (Wt.c r5.2), Sc.sz (Wt.c r5.2), Sc.ou (Wt.c r5.2), Sc.ti (Wt.c r5.2), Sc.sg (Wt.c r5.2), Sc.lg (Wt.c r5.2)), Wt.h r5.2, Wt.k0 r5.2, Wt.k1 r5.2, Wt.k2 r5.2, Wt.k3 r5.2, Wt.k4 r5.2, Wt.k5 r5.2, Wt.k6 r5.2, Wt.st r5.2, Wt.l r5.2) ⟨z9 + 1, by omega, by omega, by rw [h3]; exact nI_add z9 1, by first | exact h5 | (have q := h5; rw [← h6.1] at q; exact q)⟩ (e6.trans ((q_X7_goTide_6 s le n6 le1 i m1).trans ((if_neg c1).trans ((if_neg c2).trans ((if_pos c3).trans ((bindv_eq ex4_0).trans (bindv_eq er5))))))))
            refine And.intro (fun c6 => ?_) (fun c6 => ?_)
            · skip
              refine hJ 80 _ _ _ ?_
              exact hD _ _ [1, 2, 3, 4, 5, 6, 0] _ _ (K4 _ (if_pos c6))
            · skip
              have hq := has_of c6
              refine CALL_pre (r := some (.int (m_X7_isOut (Sc.ou (Wt.c m1)) (i + nI 1)))) (h1 := hSc (Wt.c m1) t u v w) (rest := List.drop 6 (hWt m1 t u v w b0 b1 b2 b3 b4 b5 b6)) (by decide) (c_X7_isOut l hf (Wt.c m1) t u v w (i + nI 1)) rfl rfl (Nat.le_of_ble_eq_true rfl) ?_
              refine And.intro (fun c7 => ?_) (fun c7 => ?_)
              · skip
                refine hJ 80 _ _ _ ?_
                exact hD _ _ [1, 2, 3, 4, 5, 6, 0] _ _ (K4 _ ((if_neg c6).trans (if_neg c7)))
              · skip
                refine And.intro (hq) ?_
                exact hD _ _ [1, 2, 3, 4, 5, 6, 0] _ _ (K4 _ ((if_neg c6).trans (if_pos c7)))
          · skip
            refine hJ 154 _ _ _ ?_
            exact hD _ _ [3, 4, 5, 6, 1, 0] _ _ (ih6 _ _ _ ⟨z9 + 1, by omega, by omega, by rw [h3]; exact nI_add z9 1, by first | exact h5 | (have q := h5; rw [← h6.1] at q; exact q)⟩ (e6.trans ((q_X7_goTide_6 s le n6 le1 i m1).trans ((if_neg c1).trans ((if_neg c2).trans (if_neg c3))))))
  exact hD _ _ [2, 3, 4, 5, 1, 0] _ _ (L6 7 _ _ _ ⟨0, by decide, by decide, rfl, hk⟩ (rfl))

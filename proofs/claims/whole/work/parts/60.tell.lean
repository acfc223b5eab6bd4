/-! printed by wip/whole/gen/specs60.py: calls of the class, tell, teach -/
theorem hK.tf {a : Sc} {i f : Int32} (h : hK (Sc.sz a) (Sc.kd a)) : hK (Sc.sz (m_X7_tellFact a i f)) (Sc.kd (m_X7_tellFact a i f)) ∧ Sc.ti (m_X7_tellFact a i f) = Sc.ti a := by
  unfold m_X7_tellFact
  split <;> exact ⟨h, rfl⟩
def m_X11_tidesIfTold (s : Us) (u : Int32) (f : Int32) : Int32 × Us := bindv (m_X7_tellFact (becR (Sf.c (Us.ah s)) (Sf.c (Us.nw s))) u f) (fun r1 => bindv (m_X11_tidesAheadWith (Us.nw s, Us.kp s, (r1, Sf.tp (Us.ah s), Sf.se (Us.ah s), Sf.pl (Us.ah s), Sf.bk (Us.ah s)), Us.h s, Us.k0 s, Us.k1 s, Us.k2 s, Us.k3 s, Us.k4 s, Us.k5 s, Us.k6 s, Us.st s, Us.l0 s, Us.l1 s, Us.l2 s, Us.l3 s, Us.l4 s, Us.l5 s, Us.b0 s, Us.b1 s, Us.b2 s, Us.b3 s, Us.b4 s, Us.b5 s, Us.b6 s, Us.it s, Us.ac s) f) (fun r2 => (r2.1, r2.2)))
set_option maxRecDepth 100000 in
set_option maxHeartbeats 4000000 in
theorem c_X11_tidesIfTold (l : Launch) {fv : Value} (hf : FV fv) (s : Us) (u : Int32) (f : Int32) (hV : Vn s) : CT l fv 7 jX11_tidesIfTold [.ref 0, .int u, .int f] (hUs s) (DP (some (.int (m_X11_tidesIfTold s u f).1)) (hUs ((m_X11_tidesIfTold s u f).2))) := by
  refine CT_of [] mt_X11_tidesIfTold (by decide +kernel) (tab_X11 hf) okX11_tidesIfTold (Nat.le_of_ble_eq_true rfl) ?_
  intro J hJ hD
  refine hJ 0 _ _ _ ?_
  refine CALL_sub (r := none) (h' := wUs (Us.nw s) (Us.kp s) (becR (Sf.c (Us.ah s)) (Sf.c (Us.nw s)), Sf.tp (Us.ah s), Sf.se (Us.ah s), Sf.pl (Us.ah s), Sf.bk (Us.ah s)) (Us.h s) (Us.k0 s) (Us.k1 s) (Us.k2 s) (Us.k3 s) (Us.k4 s) (Us.k5 s) (Us.k6 s) (Us.st s) (Us.l0 s) (Us.l1 s) (Us.l2 s) (Us.l3 s) (Us.l4 s) (Us.l5 s) (Us.b0 s) (Us.b1 s) (Us.b2 s) (Us.b3 s) (Us.b4 s) (Us.b5 s) (Us.b6 s) (Us.it s) (Us.ac s)) [13, 14, 15, 16, 17, 18, 1, 2, 3, 4, 5, 6] (by decide) (c_X7_becomeRow l hf (Sf.c (Us.ah s), Sf.c (Us.nw s)) 44 57 59 61 42 45 47 49) rfl rfl (by decide) (by decide) rfl ?_
  obtain ⟨r1, er1⟩ : ∃ z : Sc, m_X7_tellFact (becR (Sf.c (Us.ah s)) (Sf.c (Us.nw s))) u f = z := ⟨_, rfl⟩
  have hr1 := c_X7_tellFact l hf (becR (Sf.c (Us.ah s)) (Sf.c (Us.nw s))) 44 57 59 61 u f
  rw [er1] at hr1
  have t1 := (hK.tf (i := u) (f := f) (a := becR (Sf.c (Us.ah s)) (Sf.c (Us.nw s))) (hK.cpy hV.2.2.1))
  rw [er1] at t1
  have t2 : rl 9999 (Sc.ti r1) := by rw [t1.2]; exact hV.2.2.2.1
  refine CALL_sub (r := none) (h' := wUs (Us.nw s) (Us.kp s) (r1, Sf.tp (Us.ah s), Sf.se (Us.ah s), Sf.pl (Us.ah s), Sf.bk (Us.ah s)) (Us.h s) (Us.k0 s) (Us.k1 s) (Us.k2 s) (Us.k3 s) (Us.k4 s) (Us.k5 s) (Us.k6 s) (Us.st s) (Us.l0 s) (Us.l1 s) (Us.l2 s) (Us.l3 s) (Us.l4 s) (Us.l5 s) (Us.b0 s) (Us.b1 s) (Us.b2 s) (Us.b3 s) (Us.b4 s) (Us.b5 s) (Us.b6 s) (Us.it s) (Us.ac s)) [13, 14, 15, 16, 17, 18] (by decide) (hr1) rfl rfl (by decide) (by decide) rfl ?_
  obtain ⟨r2, er2⟩ : ∃ z : Int32 × Us, m_X11_tidesAheadWith (Us.nw s, Us.kp s, (r1, Sf.tp (Us.ah s), Sf.se (Us.ah s), Sf.pl (Us.ah s), Sf.bk (Us.ah s)), Us.h s, Us.k0 s, Us.k1 s, Us.k2 s, Us.k3 s, Us.k4 s, Us.k5 s, Us.k6 s, Us.st s, Us.l0 s, Us.l1 s, Us.l2 s, Us.l3 s, Us.l4 s, Us.l5 s, Us.b0 s, Us.b1 s, Us.b2 s, Us.b3 s, Us.b4 s, Us.b5 s, Us.b6 s, Us.it s, Us.ac s) f = z := ⟨_, rfl⟩
  have hr2 := c_X11_tidesAheadWith l hf (Us.nw s, Us.kp s, (r1, Sf.tp (Us.ah s), Sf.se (Us.ah s), Sf.pl (Us.ah s), Sf.bk (Us.ah s)), Us.h s, Us.k0 s, Us.k1 s, Us.k2 s, Us.k3 s, Us.k4 s, Us.k5 s, Us.k6 s, Us.st s, Us.l0 s, Us.l1 s, Us.l2 s, Us.l3 s, Us.l4 s, Us.l5 s, Us.b0 s, Us.b1 s, Us.b2 s, Us.b3 s, Us.b4 s, Us.b5 s, Us.b6 s, Us.it s, Us.ac s) f (by exact hV.1) (by exact TPs.ch hV.2.1 rfl rfl rfl rfl rfl rfl) (by exact t1.1) (by exact t2)
  rw [er2] at hr2
  refine CALL_same (r := some (.int r2.1)) (h1 := hUs r2.2) (by decide) (hr2) ?_
  exact And.intro True.intro (DPis (F := (fun z => hUs z)) (s' := r2.2) ((bindv_eq er1).trans (bindv_eq er2)))
theorem un_told {s : Us} {u f : Int32} {r : Int32 × Us} (e : m_X11_tidesIfTold s u f = r) : Un s r.2 := by
  rw [← e]
  unfold m_X11_tidesIfTold bindv
  have h := un_tides (s := (Us.nw s, Us.kp s, (m_X7_tellFact (becR (Sf.c (Us.ah s)) (Sf.c (Us.nw s))) u f, Sf.tp (Us.ah s), Sf.se (Us.ah s), Sf.pl (Us.ah s), Sf.bk (Us.ah s)), Us.h s, Us.k0 s, Us.k1 s, Us.k2 s, Us.k3 s, Us.k4 s, Us.k5 s, Us.k6 s, Us.st s, Us.l0 s, Us.l1 s, Us.l2 s, Us.l3 s, Us.l4 s, Us.l5 s, Us.b0 s, Us.b1 s, Us.b2 s, Us.b3 s, Us.b4 s, Us.b5 s, Us.b6 s, Us.it s, Us.ac s)) (f := f) rfl
  exact h
def l_X11_tell_25 (s : Us) (f : Int32) : Nat → Int32 → Int32 → Int32 → Us → Int32 × Us
  | 0, _, _, _, _ => (0, s)
  | n25 + 1, mo, be, i, m1 => if Sc.sz (Sf.c (Us.nw m1)) ≤ i then (be, m1) else (if nI 6 ≤ i then (be, m1) else (if (m_X7_isOut (Sc.ou (Sf.c (Us.nw m1))) i) = 0 then (bindv (m_X11_tidesIfTold m1 i f) (fun r5 => bindv (if r5.1 ≤ mo then mo else r5.1) (fun x6_0 => bindv (if r5.1 ≤ mo then be else i) (fun x6_1 => l_X11_tell_25 s f n25 x6_0 x6_1 (i + nI 1) r5.2)))) else (bindv (if (-nI 1) ≤ mo then mo else (-nI 1)) (fun x8_0 => bindv (if (-nI 1) ≤ mo then be else i) (fun x8_1 => l_X11_tell_25 s f n25 x8_0 x8_1 (i + nI 1) m1)))))
theorem q_X11_tell_25 (s : Us) (f : Int32) (n25 : Nat) (mo : Int32) (be : Int32) (i : Int32) (m1 : Us) : l_X11_tell_25 s f (n25 + 1) mo be i m1 = (if Sc.sz (Sf.c (Us.nw m1)) ≤ i then (be, m1) else (if nI 6 ≤ i then (be, m1) else (if (m_X7_isOut (Sc.ou (Sf.c (Us.nw m1))) i) = 0 then (bindv (m_X11_tidesIfTold m1 i f) (fun r5 => bindv (if r5.1 ≤ mo then mo else r5.1) (fun x6_0 => bindv (if r5.1 ≤ mo then be else i) (fun x6_1 => l_X11_tell_25 s f n25 x6_0 x6_1 (i + nI 1) r5.2)))) else (bindv (if (-nI 1) ≤ mo then mo else (-nI 1)) (fun x8_0 => bindv (if (-nI 1) ≤ mo then be else i) (fun x8_1 => l_X11_tell_25 s f n25 x8_0 x8_1 (i + nI 1) m1)))))) := rfl
def m_X11_tell (s : Us) (f : Int32) : Int32 × Us := if (m_X11_isFact f.toInt64) = 0 then ((-nI 1), s) else l_X11_tell_25 s f 7 (-nI 1) (-nI 5) (nI 0) (Us.nw s, Us.kp s, Us.ah s, Us.h s, Us.k0 s, Us.k1 s, Us.k2 s, Us.k3 s, Us.k4 s, Us.k5 s, Us.k6 s, fgt (Us.h s) (Us.st s), Us.l0 s, Us.l1 s, Us.l2 s, Us.l3 s, Us.l4 s, Us.l5 s, Us.b0 s, Us.b1 s, Us.b2 s, Us.b3 s, Us.b4 s, Us.b5 s, Us.b6 s, Us.it s, Us.ac s)
set_option maxRecDepth 100000 in
set_option maxHeartbeats 4000000 in
theorem c_X11_tell (l : Launch) {fv : Value} (hf : FV fv) (s : Us) (f : Int32) (hV : Vn s) : CT l fv 8 jX11_tell [.ref 0, .int f] (hUs s) (DP (some (.int (m_X11_tell s f).1)) (hUs ((m_X11_tell s f).2))) := by
  refine CT_of [25, 81] mt_X11_tell (by decide +kernel) (tab_X11 hf) okX11_tell (Nat.le_of_ble_eq_true rfl) ?_
  intro J hJ hD
  refine hJ 0 _ _ _ ?_
  refine CALL_sub (h' := hUs s) [] (by decide) (c_X11_isFact l hf f.toInt64) rfl rfl (by decide) (by decide) rfl ?_
  refine And.intro (fun c1 => ?_) (fun c1 => ?_)
  · skip
    refine hJ 10 _ _ _ ?_
    refine CALL_sub (r := none) (h' := wUs (Us.nw s) (Us.kp s) (Us.ah s) (Us.h s) (Us.k0 s) (Us.k1 s) (Us.k2 s) (Us.k3 s) (Us.k4 s) (Us.k5 s) (Us.k6 s) (fgt (Us.h s) (Us.st s)) (Us.l0 s) (Us.l1 s) (Us.l2 s) (Us.l3 s) (Us.l4 s) (Us.l5 s) (Us.b0 s) (Us.b1 s) (Us.b2 s) (Us.b3 s) (Us.b4 s) (Us.b5 s) (Us.b6 s) (Us.it s) (Us.ac s)) [19, 28] (by decide) (c_X1_forget l hf (Us.h s, Us.st s) 21 20) rfl rfl (by decide) (by decide) rfl ?_
    have L25 : ∀ (n25 : Nat) (mo : Int32) (be : Int32) (i : Int32) (m1 : Us), (∃ z9 : Nat, z9 ≤ 6 ∧ n25 + z9 = 7 ∧ i = nI z9 ∧ Un s m1) → m_X11_tell s f = l_X11_tell_25 s f n25 mo be i m1 → J 25 [(0, .ref 0), (1, .int f), (2, .int mo), (3, .int be), (4, .int i)] [] (hUs m1) := by
      intro n25
      induction n25 with
      | zero =>
        intro mo be i m1 hv
        obtain ⟨z9, h1, h2, h3, h5⟩ := hv
        omega
      | succ n25 ih25 =>
        intro mo be i m1 hv e25
        obtain ⟨z9, h1, h2, h3, h5⟩ := hv
        refine hJ 25 _ _ _ ?_
        refine And.intro (fun c2 => ?_) (fun c2 => ?_)
        · skip
          refine hJ 87 _ _ _ ?_
          exact And.intro True.intro (DPis (F := (fun z => hUs z)) (s' := m1) (e25.trans ((q_X11_tell_25 s f n25 mo be i m1).trans (if_pos c2))))
        · skip
          refine And.intro (fun c3 => ?_) (fun c3 => ?_)
          · skip
            refine hJ 87 _ _ _ ?_
            exact And.intro True.intro (DPis (F := (fun z => hUs z)) (s' := m1) (e25.trans ((q_X11_tell_25 s f n25 mo be i m1).trans ((if_neg c2).trans (if_pos c3)))))
          · skip
            have h4 : z9 < 6 := cnt_lt h3 h1 (by decide) c3
            refine CALL_sub (r := some (.int (m_X7_isOut (Sc.ou (Sf.c (Us.nw m1))) i))) (h' := hUs m1) [1, 2, 3, 4, 5, 6] (by decide) (c_X7_isOut l hf (Sf.c (Us.nw m1)) 42 45 47 49 i) rfl rfl (by decide) (by decide) rfl ?_
            refine And.intro (fun c4 => ?_) (fun c4 => ?_)
            · skip
              refine hJ 60 _ _ _ ?_
              obtain ⟨r5, er5⟩ : ∃ z : Int32 × Us, m_X11_tidesIfTold m1 i f = z := ⟨_, rfl⟩
              have hr5 := c_X11_tidesIfTold l hf m1 i f (hV.un h5)
              rw [er5] at hr5
              have h6 := h5.tr (un_told er5)
              refine CALL_same (r := some (.int r5.1)) (h1 := hUs r5.2) (by decide) (hr5) ?_
              have K6 : ∀ (x6_0 : Int32), ∀ (x6_1 : Int32), (if r5.1 ≤ mo then mo else r5.1) = x6_0 → (if r5.1 ≤ mo then be else i) = x6_1 → J 81 [(0, .ref 0), (1, .int f), (2, .int x6_0), (3, .int x6_1), (4, .int i)] [] (hUs r5.2) := by
                intro x6_0 x6_1 ex6_0 ex6_1
                refine hJ 81 _ _ _ ?_
                exact hD _ _ [1, 2, 3, 4, 0] _ _ (ih25 _ _ _ _ ⟨z9 + 1, by omega, by omega, by rw [h3]; exact nI_add z9 1, by first | exact h6 | exact h5⟩ (e25.trans ((q_X11_tell_25 s f n25 mo be i m1).trans ((if_neg c2).trans ((if_neg c3).trans ((if_pos c4).trans ((bindv_eq er5).trans ((bindv_eq ex6_0).trans (bindv_eq ex6_1)))))))))
              refine And.intro (fun c7 => ?_) (fun c7 => ?_)
              · skip
                exact hD _ _ [1, 2, 3, 4, 5] _ _ (K6 _ _ (if_pos c7) (if_pos c7))
              · skip
                exact hD _ _ [3, 4, 1, 0, 5] _ _ (K6 _ _ (if_neg c7) (if_neg c7))
            · skip
              refine hJ 67 _ _ _ ?_
              have K8 : ∀ (x8_0 : Int32), ∀ (x8_1 : Int32), (if (-nI 1) ≤ mo then mo else (-nI 1)) = x8_0 → (if (-nI 1) ≤ mo then be else i) = x8_1 → J 81 [(0, .ref 0), (1, .int f), (2, .int x8_0), (3, .int x8_1), (4, .int i)] [] (hUs m1) := by
                intro x8_0 x8_1 ex8_0 ex8_1
                refine hJ 81 _ _ _ ?_
                exact hD _ _ [1, 2, 3, 4, 0] _ _ (ih25 _ _ _ _ ⟨z9 + 1, by omega, by omega, by rw [h3]; exact nI_add z9 1, by first | exact h6 | exact h5⟩ (e25.trans ((q_X11_tell_25 s f n25 mo be i m1).trans ((if_neg c2).trans ((if_neg c3).trans ((if_neg c4).trans ((bindv_eq ex8_0).trans (bindv_eq ex8_1))))))))
              refine And.intro (fun c9 => ?_) (fun c9 => ?_)
              · skip
                exact hD _ _ [1, 2, 3, 4, 5] _ _ (K8 _ _ (if_pos c9) (if_pos c9))
              · skip
                exact hD _ _ [3, 4, 1, 0, 5] _ _ (K8 _ _ (if_neg c9) (if_neg c9))
    exact hD _ _ [3, 4, 2, 1, 0] _ _ (L25 7 _ _ _ (Us.nw s, Us.kp s, Us.ah s, Us.h s, Us.k0 s, Us.k1 s, Us.k2 s, Us.k3 s, Us.k4 s, Us.k5 s, Us.k6 s, fgt (Us.h s) (Us.st s), Us.l0 s, Us.l1 s, Us.l2 s, Us.l3 s, Us.l4 s, Us.l5 s, Us.b0 s, Us.b1 s, Us.b2 s, Us.b3 s, Us.b4 s, Us.b5 s, Us.b6 s, Us.it s, Us.ac s) ⟨0, by omega, by omega, rfl, by exact ⟨rfl, rfl, rfl, rfl, rfl, rfl, rfl, rfl, rfl, rfl⟩⟩ (if_neg c1))
  · skip
    exact And.intro True.intro (DPis (F := (fun z => hUs z)) (s' := s) (if_pos c1))
theorem te_of {n : Int32} (h1 : ¬ n < nI 1) (h2 : n ≤ nI 3) : ∃ N, N ≤ 3 ∧ n = nI N := by
  rcases pk_ix n (n := 4) (by decide) with q | q | ⟨j, hj, e⟩
  · exact absurd (Int32.lt_trans q (by decide)) h1
  · exact absurd (Int32.lt_of_lt_of_le (by decide : nI 3 < nI 4) (Int32.le_trans q h2)) (Int32.lt_irrefl)
  · exact ⟨j, by omega, e⟩
theorem tk_of {k : Int32} (h1 : ¬ k < (-nI 1)) (h2 : k ≤ nI 2) (h3 : ¬ k = (-nI 1)) : ∃ K, K < 100 ∧ k = nI K := by
  rcases pk_ix k (n := 4) (by decide) with q | q | ⟨j, hj, e⟩
  · exfalso
    apply h3
    rw [Int32.lt_iff_toInt_lt] at h1 q
    apply Int32.toInt_inj.mp
    have e1 : (-nI 1 : Int32).toInt = -1 := by decide
    have e0 : (0 : Int32).toInt = 0 := rfl
    rw [e1] at h1 ⊢
    rw [e0] at q
    omega
  · exact absurd (Int32.lt_of_lt_of_le (by decide : nI 2 < nI 4) (Int32.le_trans q h2)) (Int32.lt_irrefl)
  · exact ⟨j, by omega, e⟩
theorem ta_st {b : Int32} {z K : Nat} {k : Int32} (h : b + nI 1 = nI z) (hz : z ≤ 3) (hk : k = nI K) (hK : K < 100) (c : ¬ b ≤ k) : ∃ y, z = y + 1 ∧ b = nI y := by
  have e : b = nI z + (-nI 1) := by rw [← h, Int32.add_assoc, show (nI 1 : Int32) + (-nI 1) = 0 by decide, Int32.add_zero]
  cases z with
  | zero =>
    exfalso
    apply c
    rw [e, hk]
    have h1 : (nI 0 + (-nI 1) : Int32) ≤ nI 0 := by decide
    exact Int32.le_trans h1 (nI_le (Nat.zero_le K) (by omega))
  | succ y => exact ⟨y, rfl, by rw [e]; exact pk_m1 y⟩
def l_X11_taughtAt_7  (row : Int32) (n : Int32) (k : Int32) : Nat → Int32 → Int32 → Int32
  | 0, _, _ => 0
  | n7 + 1, re, be => if be ≤ k then (re - re / nI 9 * nI 9) else l_X11_taughtAt_7 row n k n7 (re / nI 9) (be + (-nI 1))
theorem q_X11_taughtAt_7  (row : Int32) (n : Int32) (k : Int32) (n7 : Nat) (re : Int32) (be : Int32) : l_X11_taughtAt_7 row n k (n7 + 1) re be = (if be ≤ k then (re - re / nI 9 * nI 9) else l_X11_taughtAt_7 row n k n7 (re / nI 9) (be + (-nI 1))) := rfl
def m_X11_taughtAt  (row : Int32) (n : Int32) (k : Int32) : Int32 := l_X11_taughtAt_7 row n k 4 row (n - nI 1)
set_option maxRecDepth 100000 in
set_option maxHeartbeats 4000000 in
theorem c_X11_taughtAt (l : Launch) {fv : Value} (hf : FV fv)  (row : Int32) (n : Int32) (k : Int32) {N K : Nat} (hn : n = nI N) (hN : N ≤ 3) (hk : k = nI K) (hK : K < 100) : CT l fv 1 jX11_taughtAt [.int row, .int n, .int k] ([]) (DP (some (.int (m_X11_taughtAt row n k))) ([])) := by
  refine CT_of [7] mt_X11_taughtAt (by decide +kernel) (tab_X11 hf) okX11_taughtAt (Nat.le_of_ble_eq_true rfl) ?_
  intro J hJ hD
  refine hJ 0 _ _ _ ?_
  have L7 : ∀ (n7 : Nat) (re : Int32) (be : Int32), (∃ z9 : Nat, z9 < n7 ∧ z9 ≤ 3 ∧ be + nI 1 = nI z9) → m_X11_taughtAt row n k = l_X11_taughtAt_7 row n k n7 re be → J 7 [(2, .int k), (3, .int re), (4, .int be)] [] [] := by
    intro n7
    induction n7 with
    | zero =>
      intro re be hv
      obtain ⟨z9, h1, h2, h3⟩ := hv
      omega
    | succ n7 ih7 =>
      intro re be hv e7
      obtain ⟨z9, h1, h2, h3⟩ := hv
      refine hJ 7 _ _ _ ?_
      refine And.intro (fun c1 => ?_) (fun c1 => ?_)
      · skip
        refine hJ 24 _ _ _ ?_
        refine And.intro (by decide) ?_
        exact And.intro True.intro (DPi (e7.trans ((q_X11_taughtAt_7 row n k n7 re be).trans (if_pos c1))))
      · skip
        obtain ⟨z8, rfl, hv8⟩ := ta_st h3 h2 hk hK c1
        refine And.intro (by decide) ?_
        exact hD _ _ [2, 1, 0] _ _ (ih7 _ _ ⟨z8, by omega, by omega, by rw [m1p1]; exact hv8⟩ (e7.trans ((q_X11_taughtAt_7 row n k n7 re be).trans (if_neg c1))))
  exact hD _ _ [4, 1, 0] _ _ (L7 4 _ _ ⟨N, by omega, hN, by rw [hn, Int32.sub_eq_add_neg]; exact m1p1 _⟩ (rfl))
def l_X11_heldIfTaught_19 (s : Us) (row : Int32) (n : Int32) (L : Lg) : Nat → Int32 → Us → Int32 × Us
  | 0, _, _ => (0, s)
  | n19 + 1, k, m1 => if n ≤ k then ((m_X7_held (Sc.kn (Sf.c (Us.ah m1))) (Sc.sz (Sf.c (Us.ah m1))) (Sc.ou (Sf.c (Us.ah m1)))), m1) else (bindv (m_X7_goTide (Sf.c (Us.ah m1), Us.h m1, Us.k0 m1, Us.k1 m1, Us.k2 m1, Us.k3 m1, Us.k4 m1, Us.k5 m1, Us.k6 m1, Us.st m1, L) (m_X11_taughtAt row n k)) (fun r2 => l_X11_heldIfTaught_19 s row n L n19 (k + nI 1) (Us.nw m1, Us.kp m1, (Wt.c r2, Sf.tp (Us.ah m1), Sf.se (Us.ah m1), Sf.pl (Us.ah m1), Sf.bk (Us.ah m1)), Wt.h r2, Wt.k0 r2, Wt.k1 r2, Wt.k2 r2, Wt.k3 r2, Wt.k4 r2, Wt.k5 r2, Wt.k6 r2, Wt.st r2, Us.l0 m1, Us.l1 m1, Us.l2 m1, Us.l3 m1, Us.l4 m1, Us.l5 m1, Us.b0 m1, Us.b1 m1, Us.b2 m1, Us.b3 m1, Us.b4 m1, Us.b5 m1, Us.b6 m1, Us.it m1, Us.ac m1)))
theorem q_X11_heldIfTaught_19 (s : Us) (row : Int32) (n : Int32) (L : Lg) (n19 : Nat) (k : Int32) (m1 : Us) : l_X11_heldIfTaught_19 s row n L (n19 + 1) k m1 = (if n ≤ k then ((m_X7_held (Sc.kn (Sf.c (Us.ah m1))) (Sc.sz (Sf.c (Us.ah m1))) (Sc.ou (Sf.c (Us.ah m1)))), m1) else (bindv (m_X7_goTide (Sf.c (Us.ah m1), Us.h m1, Us.k0 m1, Us.k1 m1, Us.k2 m1, Us.k3 m1, Us.k4 m1, Us.k5 m1, Us.k6 m1, Us.st m1, L) (m_X11_taughtAt row n k)) (fun r2 => l_X11_heldIfTaught_19 s row n L n19 (k + nI 1) (Us.nw m1, Us.kp m1, (Wt.c r2, Sf.tp (Us.ah m1), Sf.se (Us.ah m1), Sf.pl (Us.ah m1), Sf.bk (Us.ah m1)), Wt.h r2, Wt.k0 r2, Wt.k1 r2, Wt.k2 r2, Wt.k3 r2, Wt.k4 r2, Wt.k5 r2, Wt.k6 r2, Wt.st r2, Us.l0 m1, Us.l1 m1, Us.l2 m1, Us.l3 m1, Us.l4 m1, Us.l5 m1, Us.b0 m1, Us.b1 m1, Us.b2 m1, Us.b3 m1, Us.b4 m1, Us.b5 m1, Us.b6 m1, Us.it m1, Us.ac m1)))) := rfl
def m_X11_heldIfTaught (s : Us) (row : Int32) (n : Int32) : Int32 × Us := bindv (holdL (Sc.lg (Sf.c (Us.nw s))) (Us.l0 s) (Us.l1 s) (Us.l2 s) (Us.l3 s) (Us.l4 s) (Us.l5 s)) (fun L => l_X11_heldIfTaught_19 s row n L 4 (nI 0) (Us.nw s, Us.kp s, (becR (Sf.c (Us.ah s)) (Sf.c (Us.nw s)), Sf.tp (Us.ah s), Sf.se (Us.ah s), Sf.pl (Us.ah s), Sf.bk (Us.ah s)), Us.h s, Us.k0 s, Us.k1 s, Us.k2 s, Us.k3 s, Us.k4 s, Us.k5 s, Us.k6 s, Us.st s, Us.l0 s, Us.l1 s, Us.l2 s, Us.l3 s, Us.l4 s, Us.l5 s, Us.b0 s, Us.b1 s, Us.b2 s, Us.b3 s, Us.b4 s, Us.b5 s, Us.b6 s, Us.it s, Us.ac s))
set_option maxRecDepth 100000 in
set_option maxHeartbeats 4000000 in
theorem c_X11_heldIfTaught (l : Launch) {fv : Value} (hf : FV fv) (s : Us) (row : Int32) (n : Int32) {N : Nat} (hn : n = nI N) (hN : N ≤ 3) (hV : Vn s) : CT l fv 6 jX11_heldIfTaught [.ref 0, .int row, .int n] (hUs s) (DP (some (.int (m_X11_heldIfTaught s row n).1)) (hUs ((m_X11_heldIfTaught s row n).2))) := by
  refine CT_of [19] mt_X11_heldIfTaught (by decide +kernel) (tab_X11 hf) okX11_heldIfTaught (Nat.le_of_ble_eq_true rfl) ?_
  intro J hJ hD
  refine hJ 0 _ _ _ ?_
  obtain ⟨L, eL⟩ : ∃ z, holdL (Sc.lg (Sf.c (Us.nw s))) (Us.l0 s) (Us.l1 s) (Us.l2 s) (Us.l3 s) (Us.l4 s) (Us.l5 s) = z := ⟨_, rfl⟩
  obtain ⟨q, eq⟩ : ∃ z, holdP (Sc.lg (Sf.c (Us.nw s))) = z := ⟨_, rfl⟩
  have hQ := hold_q (s := s) hV.2.1 hV.1 eL eq
  have hcq := c_X11_holding l hf s hV.1
  have hcq : CT l fv 1 jX11_holding [.ref 0] (hUs s) (DP (some (.ref q)) (hUs s)) := by rw [← eq]; exact hcq
  refine CALL_same (r := some (.ref q)) (h1 := hUs s) (by decide) hcq ?_
  refine CALL_sub (r := none) (h' := wUs (Us.nw s) (Us.kp s) (becR (Sf.c (Us.ah s)) (Sf.c (Us.nw s)), Sf.tp (Us.ah s), Sf.se (Us.ah s), Sf.pl (Us.ah s), Sf.bk (Us.ah s)) (Us.h s) (Us.k0 s) (Us.k1 s) (Us.k2 s) (Us.k3 s) (Us.k4 s) (Us.k5 s) (Us.k6 s) (Us.st s) (Us.l0 s) (Us.l1 s) (Us.l2 s) (Us.l3 s) (Us.l4 s) (Us.l5 s) (Us.b0 s) (Us.b1 s) (Us.b2 s) (Us.b3 s) (Us.b4 s) (Us.b5 s) (Us.b6 s) (Us.it s) (Us.ac s)) [13, 14, 15, 16, 17, 18, 1, 2, 3, 4, 5, 6] (by decide) (c_X7_becomeRow l hf (Sf.c (Us.ah s), Sf.c (Us.nw s)) 44 57 59 61 42 45 47 49) rfl rfl (by decide) (by decide) rfl ?_
  have L19 : ∀ (n19 : Nat) (k : Int32) (m1 : Us), (∃ z9 : Nat, z9 ≤ N ∧ n19 + z9 = 4 ∧ k = nI z9 ∧ HQ q L m1 ∧ hK (Sc.sz (Sf.c (Us.ah m1))) (Sc.kd (Sf.c (Us.ah m1)))) → m_X11_heldIfTaught s row n = l_X11_heldIfTaught_19 s row n L n19 k m1 → J 19 [(0, .ref 0), (1, .int row), (2, .int n), (3, .ref q), (4, .int k)] [] (hUs m1) := by
    intro n19
    induction n19 with
    | zero =>
      intro k m1 hv
      obtain ⟨z9, h1, h2, h3, hQ, h6⟩ := hv
      omega
    | succ n19 ih19 =>
      intro k m1 hv e19
      obtain ⟨z9, h1, h2, h3, hQ, h6⟩ := hv
      refine hJ 19 _ _ _ ?_
      refine And.intro (fun c1 => ?_) (fun c1 => ?_)
      · skip
        refine hJ 50 _ _ _ ?_
        refine CALL_sub (r := some (.int (m_X7_held (Sc.kn (Sf.c (Us.ah m1))) (Sc.sz (Sf.c (Us.ah m1))) (Sc.ou (Sf.c (Us.ah m1)))))) (h' := hUs m1) [13, 14, 15, 16, 17, 18] (by decide) (c_X7_held l hf (Sf.c (Us.ah m1)) 44 57 59 61) rfl rfl (by decide) (by decide) rfl ?_
        exact And.intro True.intro (DPis (F := (fun z => hUs z)) (s' := m1) (e19.trans ((q_X11_heldIfTaught_19 s row n L n19 k m1).trans (if_pos c1))))
      · skip
        have h4 : z9 < N := cnt_lt h3 h1 (by omega) (by rw [← hn]; exact c1)
        refine CALL_sub (h' := hUs m1) [] (by decide) (c_X11_taughtAt l hf row n k hn hN h3 (by omega)) rfl rfl (by decide) (by decide) rfl ?_
        obtain ⟨r2, er2⟩ : ∃ z : Wt, m_X7_goTide (Sf.c (Us.ah m1), Us.h m1, Us.k0 m1, Us.k1 m1, Us.k2 m1, Us.k3 m1, Us.k4 m1, Us.k5 m1, Us.k6 m1, Us.st m1, L) (m_X11_taughtAt row n k) = z := ⟨_, rfl⟩
        have gr2 := gl_goTide er2
        have h8 := Tw.hk gr2.2.1 h6
        refine us_goTide_ah l hf m1 (HQ.ch hQ rfl rfl rfl rfl rfl rfl) (m_X11_taughtAt row n k) h6 er2 gr2.1 (by decide) ?_
        exact hD _ _ [1, 2, 3, 4, 0] _ _ (ih19 _ (Us.nw m1, Us.kp m1, (Wt.c r2, Sf.tp (Us.ah m1), Sf.se (Us.ah m1), Sf.pl (Us.ah m1), Sf.bk (Us.ah m1)), Wt.h r2, Wt.k0 r2, Wt.k1 r2, Wt.k2 r2, Wt.k3 r2, Wt.k4 r2, Wt.k5 r2, Wt.k6 r2, Wt.st r2, Us.l0 m1, Us.l1 m1, Us.l2 m1, Us.l3 m1, Us.l4 m1, Us.l5 m1, Us.b0 m1, Us.b1 m1, Us.b2 m1, Us.b3 m1, Us.b4 m1, Us.b5 m1, Us.b6 m1, Us.it m1, Us.ac m1) ⟨z9 + 1, by omega, by omega, by rw [h3]; exact nI_add z9 1, by exact HQ.ch hQ rfl rfl rfl rfl rfl rfl, by exact h8⟩ (e19.trans ((q_X11_heldIfTaught_19 s row n L n19 k m1).trans ((if_neg c1).trans (bindv_eq er2)))))
  exact hD _ _ [2, 3, 4, 1, 0] _ _ (L19 4 _ (Us.nw s, Us.kp s, (becR (Sf.c (Us.ah s)) (Sf.c (Us.nw s)), Sf.tp (Us.ah s), Sf.se (Us.ah s), Sf.pl (Us.ah s), Sf.bk (Us.ah s)), Us.h s, Us.k0 s, Us.k1 s, Us.k2 s, Us.k3 s, Us.k4 s, Us.k5 s, Us.k6 s, Us.st s, Us.l0 s, Us.l1 s, Us.l2 s, Us.l3 s, Us.l4 s, Us.l5 s, Us.b0 s, Us.b1 s, Us.b2 s, Us.b3 s, Us.b4 s, Us.b5 s, Us.b6 s, Us.it s, Us.ac s) ⟨0, by omega, by omega, rfl, by exact HQ.ch hQ rfl rfl rfl rfl rfl rfl, by exact hK.cpy hV.2.2.1⟩ (bindv_eq eL))
theorem un_taught_l (s : Us) (row n : Int32) (L : Lg) : ∀ (x : Nat) (k : Int32) (m1 : Us), Un s m1 → Un s (l_X11_heldIfTaught_19 s row n L x k m1).2 := by
  intro x
  induction x with
  | zero => intro k m1 h; exact Un.rf s
  | succ x ih =>
    intro k m1 h
    rw [q_X11_heldIfTaught_19]
    unfold bindv
    split
    · exact h
    · exact ih _ _ h
theorem un_taught {s : Us} {row n : Int32} {r : Int32 × Us} (e : m_X11_heldIfTaught s row n = r) : Un s r.2 := by
  rw [← e]
  unfold m_X11_heldIfTaught
  rw [bindv]
  exact un_taught_l s row n _ _ _ _ ⟨rfl, rfl, rfl, rfl, rfl, rfl, rfl, rfl, rfl, rfl⟩
def l_X11_teach_73 (s : Us) (n : Int32) (k : Int32) (x6_0 : Int32) : Nat → Int32 → Int32 → Int32 → Us → Int32 × Us
  | 0, _, _, _, _ => (0, s)
  | n73 + 1, mo, be, row, m1 => if x6_0 ≤ row then (if k = (-nI 1) then (mo, m1) else ((m_X11_taughtAt be n k), m1)) else (bindv (m_X11_heldIfTaught m1 row n) (fun r9 => bindv (if r9.1 ≤ mo then mo else r9.1) (fun x10_0 => bindv (if r9.1 ≤ mo then be else row) (fun x10_1 => l_X11_teach_73 s n k x6_0 n73 x10_0 x10_1 (row + nI 1) r9.2))))
theorem q_X11_teach_73 (s : Us) (n : Int32) (k : Int32) (x6_0 : Int32) (n73 : Nat) (mo : Int32) (be : Int32) (row : Int32) (m1 : Us) : l_X11_teach_73 s n k x6_0 (n73 + 1) mo be row m1 = (if x6_0 ≤ row then (if k = (-nI 1) then (mo, m1) else ((m_X11_taughtAt be n k), m1)) else (bindv (m_X11_heldIfTaught m1 row n) (fun r9 => bindv (if r9.1 ≤ mo then mo else r9.1) (fun x10_0 => bindv (if r9.1 ≤ mo then be else row) (fun x10_1 => l_X11_teach_73 s n k x6_0 n73 x10_0 x10_1 (row + nI 1) r9.2))))) := rfl
def m_X11_teach (s : Us) (n : Int32) (k : Int32) : Int32 × Us := if k < (-nI 1) then ((-nI 1), s) else (if k ≤ nI 2 then (if n < nI 1 then ((-nI 2), s) else (if n ≤ nI 3 then (if k < n then (bindv (if n = nI 1 then (nI 9) else (if n = nI 2 then (nI 81) else (nI 729))) (fun x6_0 => l_X11_teach_73 s n k x6_0 730 (-nI 1) (nI 0) (nI 0) (Us.nw s, Us.kp s, Us.ah s, Us.h s, Us.k0 s, Us.k1 s, Us.k2 s, Us.k3 s, Us.k4 s, Us.k5 s, Us.k6 s, fgt (Us.h s) (Us.st s), Us.l0 s, Us.l1 s, Us.l2 s, Us.l3 s, Us.l4 s, Us.l5 s, Us.b0 s, Us.b1 s, Us.b2 s, Us.b3 s, Us.b4 s, Us.b5 s, Us.b6 s, Us.it s, Us.ac s))) else ((-nI 5), s)) else ((-nI 2), s))) else ((-nI 1), s))
set_option maxRecDepth 100000 in
set_option maxHeartbeats 4000000 in
theorem c_X11_teach (l : Launch) {fv : Value} (hf : FV fv) (s : Us) (n : Int32) (k : Int32) (hV : Vn s) : CT l fv 8 jX11_teach [.ref 0, .int n, .int k] (hUs s) (DP (some (.int (m_X11_teach s n k).1)) (hUs ((m_X11_teach s n k).2))) := by
  refine CT_of [63, 73, 103] mt_X11_teach (by decide +kernel) (tab_X11 hf) okX11_teach (Nat.le_of_ble_eq_true rfl) ?_
  intro J hJ hD
  refine hJ 0 _ _ _ ?_
  refine And.intro (fun c1 => ?_) (fun c1 => ?_)
  · skip
    refine hJ 10 _ _ _ ?_
    exact And.intro True.intro (DPis (F := (fun z => hUs z)) (s' := s) (if_pos c1))
  · skip
    have kk1 := c1
    refine And.intro (fun c2 => ?_) (fun c2 => ?_)
    · skip
      have kk2 := c2
      refine hJ 12 _ _ _ ?_
      refine And.intro (fun c3 => ?_) (fun c3 => ?_)
      · skip
        refine hJ 22 _ _ _ ?_
        exact And.intro True.intro (DPis (F := (fun z => hUs z)) (s' := s) ((if_neg c1).trans ((if_pos c2).trans (if_pos c3))))
      · skip
        have k1 := c3
        refine And.intro (fun c4 => ?_) (fun c4 => ?_)
        · skip
          obtain ⟨N, hN, hn⟩ := te_of k1 c4
          refine hJ 25 _ _ _ ?_
          refine And.intro (fun c5 => ?_) (fun c5 => ?_)
          · skip
            refine hJ 33 _ _ _ ?_
            refine CALL_sub (r := none) (h' := wUs (Us.nw s) (Us.kp s) (Us.ah s) (Us.h s) (Us.k0 s) (Us.k1 s) (Us.k2 s) (Us.k3 s) (Us.k4 s) (Us.k5 s) (Us.k6 s) (fgt (Us.h s) (Us.st s)) (Us.l0 s) (Us.l1 s) (Us.l2 s) (Us.l3 s) (Us.l4 s) (Us.l5 s) (Us.b0 s) (Us.b1 s) (Us.b2 s) (Us.b3 s) (Us.b4 s) (Us.b5 s) (Us.b6 s) (Us.it s) (Us.ac s)) [19, 28] (by decide) (c_X1_forget l hf (Us.h s, Us.st s) 21 20) rfl rfl (by decide) (by decide) rfl ?_
            have K6 : ∀ (x6_0 : Int32), (if n = nI 1 then (nI 9) else (if n = nI 2 then (nI 81) else (nI 729))) = x6_0 → J 63 [(0, .ref 0), (1, .int n), (2, .int k)] [.int x6_0] (wUs (Us.nw s) (Us.kp s) (Us.ah s) (Us.h s) (Us.k0 s) (Us.k1 s) (Us.k2 s) (Us.k3 s) (Us.k4 s) (Us.k5 s) (Us.k6 s) (fgt (Us.h s) (Us.st s)) (Us.l0 s) (Us.l1 s) (Us.l2 s) (Us.l3 s) (Us.l4 s) (Us.l5 s) (Us.b0 s) (Us.b1 s) (Us.b2 s) (Us.b3 s) (Us.b4 s) (Us.b5 s) (Us.b6 s) (Us.it s) (Us.ac s)) := by
              intro x6_0 ex6_0
              obtain ⟨N0, hN0, hx⟩ := cod_of ex6_0
              refine hJ 63 _ _ _ ?_
              have L73 : ∀ (n73 : Nat) (mo : Int32) (be : Int32) (row : Int32) (m1 : Us), (∃ z9 : Nat, z9 ≤ N0 ∧ n73 + z9 = 730 ∧ row = nI z9 ∧ Un s m1) → m_X11_teach s n k = l_X11_teach_73 s n k x6_0 n73 mo be row m1 → J 73 [(0, .ref 0), (1, .int n), (2, .int k), (3, .int x6_0), (4, .int mo), (5, .int be), (6, .int row)] [] (hUs m1) := by
                intro n73
                induction n73 with
                | zero =>
                  intro mo be row m1 hv
                  obtain ⟨z9, h1, h2, h3, h5⟩ := hv
                  omega
                | succ n73 ih73 =>
                  intro mo be row m1 hv e73
                  obtain ⟨z9, h1, h2, h3, h5⟩ := hv
                  refine hJ 73 _ _ _ ?_
                  refine And.intro (fun c7 => ?_) (fun c7 => ?_)
                  · skip
                    refine hJ 109 _ _ _ ?_
                    refine And.intro (fun c8 => ?_) (fun c8 => ?_)
                    · skip
                      obtain ⟨K, hK, hk⟩ := tk_of kk1 kk2 c8
                      refine hJ 119 _ _ _ ?_
                      refine CALL_sub (h' := hUs m1) [] (by decide) (c_X11_taughtAt l hf be n k hn hN hk hK) rfl rfl (by decide) (by decide) rfl ?_
                      exact And.intro True.intro (DPis (F := (fun z => hUs z)) (s' := m1) (e73.trans ((q_X11_teach_73 s n k x6_0 n73 mo be row m1).trans ((if_pos c7).trans (if_neg c8)))))
                    · skip
                      refine hJ 126 _ _ _ ?_
                      exact And.intro True.intro (DPis (F := (fun z => hUs z)) (s' := m1) (e73.trans ((q_X11_teach_73 s n k x6_0 n73 mo be row m1).trans ((if_pos c7).trans (if_pos c8)))))
                  · skip
                    have h4 : z9 < N0 := cnt_lt h3 h1 (by omega) (by rw [← hx]; exact c7)
                    obtain ⟨r9, er9⟩ : ∃ z : Int32 × Us, m_X11_heldIfTaught m1 row n = z := ⟨_, rfl⟩
                    have hr9 := c_X11_heldIfTaught l hf m1 row n hn hN (hV.un h5)
                    rw [er9] at hr9
                    have h6 := h5.tr (un_taught er9)
                    refine CALL_same (r := some (.int r9.1)) (h1 := hUs r9.2) (by decide) (hr9) ?_
                    have K10 : ∀ (x10_0 : Int32), ∀ (x10_1 : Int32), (if r9.1 ≤ mo then mo else r9.1) = x10_0 → (if r9.1 ≤ mo then be else row) = x10_1 → J 103 [(0, .ref 0), (1, .int n), (2, .int k), (3, .int x6_0), (4, .int x10_0), (5, .int x10_1), (6, .int row)] [] (hUs r9.2) := by
                      intro x10_0 x10_1 ex10_0 ex10_1
                      refine hJ 103 _ _ _ ?_
                      exact hD _ _ [1, 2, 3, 4, 5, 6, 0] _ _ (ih73 _ _ _ _ ⟨z9 + 1, by omega, by omega, by rw [h3]; exact nI_add z9 1, h6⟩ (e73.trans ((q_X11_teach_73 s n k x6_0 n73 mo be row m1).trans ((if_neg c7).trans ((bindv_eq er9).trans ((bindv_eq ex10_0).trans (bindv_eq ex10_1)))))))
                    refine And.intro (fun c11 => ?_) (fun c11 => ?_)
                    · skip
                      exact hD _ _ [1, 2, 3, 4, 5, 6, 7] _ _ (K10 _ _ (if_pos c11) (if_pos c11))
                    · skip
                      exact hD _ _ [3, 4, 5, 6, 1, 0, 7] _ _ (K10 _ _ (if_neg c11) (if_neg c11))
              exact hD _ _ [4, 5, 6, 3, 2, 1, 0] _ _ (L73 730 _ _ _ (Us.nw s, Us.kp s, Us.ah s, Us.h s, Us.k0 s, Us.k1 s, Us.k2 s, Us.k3 s, Us.k4 s, Us.k5 s, Us.k6 s, fgt (Us.h s) (Us.st s), Us.l0 s, Us.l1 s, Us.l2 s, Us.l3 s, Us.l4 s, Us.l5 s, Us.b0 s, Us.b1 s, Us.b2 s, Us.b3 s, Us.b4 s, Us.b5 s, Us.b6 s, Us.it s, Us.ac s) ⟨0, by omega, by omega, rfl, by exact ⟨rfl, rfl, rfl, rfl, rfl, rfl, rfl, rfl, rfl, rfl⟩⟩ ((if_neg c1).trans ((if_pos c2).trans ((if_neg c3).trans ((if_pos c4).trans ((if_pos c5).trans (bindv_eq ex6_0)))))))
            refine And.intro (fun c12 => ?_) (fun c12 => ?_)
            · skip
              refine hJ 50 _ _ _ ?_
              refine And.intro (fun c13 => ?_) (fun c13 => ?_)
              · skip
                refine hJ 60 _ _ _ ?_
                exact hD _ _ [0, 1, 2] _ _ (K6 _ ((if_neg c12).trans (if_neg c13)))
              · skip
                exact hD _ _ [0, 1, 2] _ _ (K6 _ ((if_neg c12).trans (if_pos c13)))
            · skip
              exact hD _ _ [0, 1, 2] _ _ (K6 _ (if_pos c12))
          · skip
            exact And.intro True.intro (DPis (F := (fun z => hUs z)) (s' := s) ((if_neg c1).trans ((if_pos c2).trans ((if_neg c3).trans ((if_pos c4).trans (if_neg c5))))))
        · skip
          exact And.intro True.intro (DPis (F := (fun z => hUs z)) (s' := s) ((if_neg c1).trans ((if_pos c2).trans ((if_neg c3).trans (if_neg c4)))))
    · skip
      exact And.intro True.intro (DPis (F := (fun z => hUs z)) (s' := s) ((if_neg c1).trans (if_neg c2)))

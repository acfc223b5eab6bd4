/-! printed by wip/whole/gen/specs58.py: calls of the class, tides -/
def becR (a b : Sc) : Sc := S2.a (m_X7_becomeRow (a, b))
def fgt (h : Hh) (st : Fn) : Fn := Hs.st (m_X1_forget (h, st))
theorem le_of {k : Int32} (h : ¬ m_X11_isLesson k = 0) : vp_in k 4 := by
  unfold m_X11_isLesson at h
  by_cases c1 : k < 0
  · rw [if_pos c1] at h; exact absurd rfl h
  · rw [if_neg c1] at h
    by_cases c2 : nI 4 ≤ k
    · rw [if_pos c2] at h; exact absurd rfl h
    · exact vp_of3 c1 c2 (by decide)
theorem at_of {n : Int32} (h : ¬ m_X11_areTides n = 0) : ∃ N, N ≤ 60 ∧ n = nI N := by
  unfold m_X11_areTides at h
  by_cases c1 : n < 0
  · rw [if_pos c1] at h; exact absurd rfl h
  · rw [if_neg c1] at h
    by_cases c2 : nI 60 < n
    · rw [if_pos c2] at h; exact absurd rfl h
    · rcases pk_ix n (n := 61) (by decide) with q | q | ⟨j, hj, e⟩
      · exact absurd q c1
      · exact absurd (Int32.lt_of_lt_of_le (by decide : nI 60 < nI 61) q) c2
      · exact ⟨j, by omega, e⟩
theorem tl_of {x : Int32} (h1 : ¬ x < nI 10) (h2 : x < nI 14) : vp_in (x - nI 10) 4 := by
  have g0 : ¬ x < 0 := fun q => h1 (Int32.lt_trans q (by decide))
  obtain ⟨k, hk, rfl⟩ := vp_in_of (vp_of2 g0 h2 (by decide)) (by decide)
  rw [nI_ltI (by omega) (by decide)] at h1
  rw [pk_sub (by omega)]
  exact vp_in_nI (by omega) (by decide)
theorem hK.cpy {a b : Sc} (h : hK (Sc.sz b) (Sc.kd b)) : hK (Sc.sz (becR a b)) (Sc.kd (becR a b)) := by
  intro i hi
  have hi2 : ¬ m_X7_has (Sc.sz b) i = 0 := hi
  have h6 := has_of hi2
  have e := h i hi2
  obtain ⟨k, hk, rfl⟩ := vp_in_of h6 (by decide)
  rw [nI_clamp (by omega)] at *
  have e2 : Sc.kd (becR a b) k = Sc.kd b k := by
    show va_cpy (Sc.kd b) (Sc.kd a) (nI 0).toNatClampNeg (nI 0).toNatClampNeg (nI 6).toNatClampNeg k = _
    rw [nI_clamp (by decide), nI_clamp (by decide), pk_cpy_in (by omega) (by omega)]
    congr 1; omega
  rw [e2]; exact e
theorem Tw.hk {a b : Wt} (h : Tw a b) (g : hK (Sc.sz (Wt.c a)) (Sc.kd (Wt.c a))) : hK (Sc.sz (Wt.c b)) (Sc.kd (Wt.c b)) := by
  obtain ⟨h1, h2, h3, h4, h5, h6, h7, h8, h9⟩ := h
  rw [h2, h6]; exact g
theorem Tw.ti {a b : Wt} {B : Nat} (h : Sc.ti (Wt.c b) = Sc.ti (Wt.c a) + nI 1) (g : rl B (Sc.ti (Wt.c a))) : rl (B + 1) (Sc.ti (Wt.c b)) := by rw [h]; exact g.up
def m_X11_urchin (s : Us) (kd : Int32) (vx : Int32) : Int32 × Us := if kd < 0 then ((-nI 1), s) else (if kd < nI 7 then (if (m_X11_isNumber vx) = 0 then ((-nI 2), s) else (bindv (m_X7_join (Sf.c (Us.nw s)) kd vx) (fun r4 => (r4.1, ((r4.2, Sf.tp (Us.nw s), Sf.se (Us.nw s), Sf.pl (Us.nw s), Sf.bk (Us.nw s)), Us.kp s, Us.ah s, Us.h s, Us.k0 s, Us.k1 s, Us.k2 s, Us.k3 s, Us.k4 s, Us.k5 s, Us.k6 s, Us.st s, Us.l0 s, Us.l1 s, Us.l2 s, Us.l3 s, Us.l4 s, Us.l5 s, Us.b0 s, Us.b1 s, Us.b2 s, Us.b3 s, Us.b4 s, Us.b5 s, Us.b6 s, Us.it s, Us.ac s))))) else ((-nI 1), s))
set_option maxRecDepth 100000 in
set_option maxHeartbeats 4000000 in
theorem c_X11_urchin (l : Launch) {fv : Value} (hf : FV fv) (s : Us) (kd : Int32) (vx : Int32) : CT l fv 3 jX11_urchin [.ref 0, .int kd, .int vx] (hUs s) (DP (some (.int (m_X11_urchin s kd vx).1)) (hUs ((m_X11_urchin s kd vx).2))) := by
  refine CT_of [] mt_X11_urchin (by decide +kernel) (tab_X11 hf) okX11_urchin (Nat.le_of_ble_eq_true rfl) ?_
  intro J hJ hD
  refine hJ 0 _ _ _ ?_
  refine And.intro (fun c1 => ?_) (fun c1 => ?_)
  · skip
    refine hJ 10 _ _ _ ?_
    exact And.intro True.intro (DPis (F := (fun z => hUs z)) (s' := s) (if_pos c1))
  · skip
    refine And.intro (fun c2 => ?_) (fun c2 => ?_)
    · skip
      refine hJ 12 _ _ _ ?_
      refine CALL_sub (h' := hUs s) [] (by decide) (c_X11_isNumber l hf vx) rfl rfl (by decide) (by decide) rfl ?_
      refine And.intro (fun c3 => ?_) (fun c3 => ?_)
      · skip
        refine hJ 22 _ _ _ ?_
        obtain ⟨r4, er4⟩ : ∃ z : Int32 × Sc, m_X7_join (Sf.c (Us.nw s)) kd vx = z := ⟨_, rfl⟩
        have hr4 := c_X7_join l hf (Sf.c (Us.nw s)) 42 45 47 49 kd vx
        rw [er4] at hr4
        refine CALL_sub (r := some (.int r4.1)) (h' := wUs (r4.2, Sf.tp (Us.nw s), Sf.se (Us.nw s), Sf.pl (Us.nw s), Sf.bk (Us.nw s)) (Us.kp s) (Us.ah s) (Us.h s) (Us.k0 s) (Us.k1 s) (Us.k2 s) (Us.k3 s) (Us.k4 s) (Us.k5 s) (Us.k6 s) (Us.st s) (Us.l0 s) (Us.l1 s) (Us.l2 s) (Us.l3 s) (Us.l4 s) (Us.l5 s) (Us.b0 s) (Us.b1 s) (Us.b2 s) (Us.b3 s) (Us.b4 s) (Us.b5 s) (Us.b6 s) (Us.it s) (Us.ac s)) [1, 2, 3, 4, 5, 6] (by decide) (hr4) rfl rfl (by decide) (by decide) rfl ?_
        exact And.intro True.intro (DPis (F := (fun z => hUs z)) (s' := ((r4.2, Sf.tp (Us.nw s), Sf.se (Us.nw s), Sf.pl (Us.nw s), Sf.bk (Us.nw s)), Us.kp s, Us.ah s, Us.h s, Us.k0 s, Us.k1 s, Us.k2 s, Us.k3 s, Us.k4 s, Us.k5 s, Us.k6 s, Us.st s, Us.l0 s, Us.l1 s, Us.l2 s, Us.l3 s, Us.l4 s, Us.l5 s, Us.b0 s, Us.b1 s, Us.b2 s, Us.b3 s, Us.b4 s, Us.b5 s, Us.b6 s, Us.it s, Us.ac s)) ((if_neg c1).trans ((if_pos c2).trans ((if_neg c3).trans (bindv_eq er4)))))
      · skip
        exact And.intro True.intro (DPis (F := (fun z => hUs z)) (s' := s) ((if_neg c1).trans ((if_pos c2).trans (if_pos c3))))
    · skip
      exact And.intro True.intro (DPis (F := (fun z => hUs z)) (s' := s) ((if_neg c1).trans (if_neg c2)))
def m_X11_row (s : Us) (u : Int32) (k : Int32) (n : Int32) : Int32 × Us := if (m_X7_has (Sc.sz (Sf.c (Us.nw s))) u) = 0 then ((-nI 1), s) else (if (m_X11_isLesson k) = 0 then ((-nI 1), s) else (if (m_X11_isNumber n) = 0 then ((-nI 2), s) else (if (Sc.kd (Sf.c (Us.nw s)) u.toNatClampNeg) = nI 6 then ((Sc.rw (Sf.c (Us.nw s)) ((u * nI 4) + k).toNatClampNeg), (((Sc.kd (Sf.c (Us.nw s)), Sc.vv (Sf.c (Us.nw s)), Sc.kn (Sf.c (Us.nw s)), (upd (Sc.rw (Sf.c (Us.nw s))) ((u * nI 4) + k).toNatClampNeg n), Sc.le (Sf.c (Us.nw s)), Sc.sz (Sf.c (Us.nw s)), Sc.ou (Sf.c (Us.nw s)), Sc.ti (Sf.c (Us.nw s)), Sc.sg (Sf.c (Us.nw s)), Sc.lg (Sf.c (Us.nw s))), Sf.tp (Us.nw s), Sf.se (Us.nw s), Sf.pl (Us.nw s), Sf.bk (Us.nw s)), Us.kp s, Us.ah s, Us.h s, Us.k0 s, Us.k1 s, Us.k2 s, Us.k3 s, Us.k4 s, Us.k5 s, Us.k6 s, Us.st s, Us.l0 s, Us.l1 s, Us.l2 s, Us.l3 s, Us.l4 s, Us.l5 s, Us.b0 s, Us.b1 s, Us.b2 s, Us.b3 s, Us.b4 s, Us.b5 s, Us.b6 s, Us.it s, Us.ac s)) else ((-nI 3), s))))
set_option maxRecDepth 100000 in
set_option maxHeartbeats 4000000 in
theorem c_X11_row (l : Launch) {fv : Value} (hf : FV fv) (s : Us) (u : Int32) (k : Int32) (n : Int32) : CT l fv 2 jX11_row [.ref 0, .int u, .int k, .int n] (hUs s) (DP (some (.int (m_X11_row s u k n).1)) (hUs ((m_X11_row s u k n).2))) := by
  refine CT_of [] mt_X11_row (by decide +kernel) (tab_X11 hf) okX11_row (Nat.le_of_ble_eq_true rfl) ?_
  intro J hJ hD
  refine hJ 0 _ _ _ ?_
  refine CALL_sub (r := some (.int (m_X7_has (Sc.sz (Sf.c (Us.nw s))) u))) (h' := hUs s) [1, 2, 3, 4, 5, 6] (by decide) (c_X7_has l hf (Sf.c (Us.nw s)) 42 45 47 49 u) rfl rfl (by decide) (by decide) rfl ?_
  refine And.intro (fun c1 => ?_) (fun c1 => ?_)
  · skip
    refine hJ 18 _ _ _ ?_
    exact And.intro True.intro (DPis (F := (fun z => hUs z)) (s' := s) (if_pos c1))
  · skip
    have hi := has_of c1
    refine CALL_sub (h' := hUs s) [] (by decide) (c_X11_isLesson l hf k) rfl rfl (by decide) (by decide) rfl ?_
    refine And.intro (fun c2 => ?_) (fun c2 => ?_)
    · skip
      have hk := le_of c2
      refine hJ 20 _ _ _ ?_
      refine CALL_sub (h' := hUs s) [] (by decide) (c_X11_isNumber l hf n) rfl rfl (by decide) (by decide) rfl ?_
      refine And.intro (fun c3 => ?_) (fun c3 => ?_)
      · skip
        refine hJ 30 _ _ _ ?_
        refine And.intro (hi) ?_
        refine And.intro (fun c4 => ?_) (fun c4 => ?_)
        · skip
          refine hJ 47 _ _ _ ?_
          refine And.intro (vp_x4c hi hk (by decide) (by decide) (by decide)) ?_
          refine And.intro (vp_x4c hi hk (by decide) (by decide) (by decide)) ?_
          exact And.intro True.intro (DPis (F := (fun z => hUs z)) (s' := (((Sc.kd (Sf.c (Us.nw s)), Sc.vv (Sf.c (Us.nw s)), Sc.kn (Sf.c (Us.nw s)), (upd (Sc.rw (Sf.c (Us.nw s))) ((u * nI 4) + k).toNatClampNeg n), Sc.le (Sf.c (Us.nw s)), Sc.sz (Sf.c (Us.nw s)), Sc.ou (Sf.c (Us.nw s)), Sc.ti (Sf.c (Us.nw s)), Sc.sg (Sf.c (Us.nw s)), Sc.lg (Sf.c (Us.nw s))), Sf.tp (Us.nw s), Sf.se (Us.nw s), Sf.pl (Us.nw s), Sf.bk (Us.nw s)), Us.kp s, Us.ah s, Us.h s, Us.k0 s, Us.k1 s, Us.k2 s, Us.k3 s, Us.k4 s, Us.k5 s, Us.k6 s, Us.st s, Us.l0 s, Us.l1 s, Us.l2 s, Us.l3 s, Us.l4 s, Us.l5 s, Us.b0 s, Us.b1 s, Us.b2 s, Us.b3 s, Us.b4 s, Us.b5 s, Us.b6 s, Us.it s, Us.ac s)) ((if_neg c1).trans ((if_neg c2).trans ((if_neg c3).trans (if_pos c4)))))
        · skip
          exact And.intro True.intro (DPis (F := (fun z => hUs z)) (s' := s) ((if_neg c1).trans ((if_neg c2).trans ((if_neg c3).trans (if_neg c4)))))
      · skip
        exact And.intro True.intro (DPis (F := (fun z => hUs z)) (s' := s) ((if_neg c1).trans ((if_neg c2).trans (if_pos c3))))
    · skip
      exact And.intro True.intro (DPis (F := (fun z => hUs z)) (s' := s) ((if_neg c1).trans (if_pos c2)))
def m_X11_learn (s : Us) (u : Int32) (x : Int32) : Int32 × Us := if (m_X7_has (Sc.sz (Sf.c (Us.nw s))) u) = 0 then ((-nI 1), s) else (if (m_X11_isSet x) = 0 then ((-nI 2), s) else ((Sc.kn (Sf.c (Us.nw s)) u.toNatClampNeg), (((Sc.kd (Sf.c (Us.nw s)), Sc.vv (Sf.c (Us.nw s)), (upd (Sc.kn (Sf.c (Us.nw s))) u.toNatClampNeg x), Sc.rw (Sf.c (Us.nw s)), Sc.le (Sf.c (Us.nw s)), Sc.sz (Sf.c (Us.nw s)), Sc.ou (Sf.c (Us.nw s)), Sc.ti (Sf.c (Us.nw s)), Sc.sg (Sf.c (Us.nw s)), Sc.lg (Sf.c (Us.nw s))), Sf.tp (Us.nw s), Sf.se (Us.nw s), Sf.pl (Us.nw s), Sf.bk (Us.nw s)), Us.kp s, Us.ah s, Us.h s, Us.k0 s, Us.k1 s, Us.k2 s, Us.k3 s, Us.k4 s, Us.k5 s, Us.k6 s, Us.st s, Us.l0 s, Us.l1 s, Us.l2 s, Us.l3 s, Us.l4 s, Us.l5 s, Us.b0 s, Us.b1 s, Us.b2 s, Us.b3 s, Us.b4 s, Us.b5 s, Us.b6 s, Us.it s, Us.ac s)))
set_option maxRecDepth 100000 in
set_option maxHeartbeats 4000000 in
theorem c_X11_learn (l : Launch) {fv : Value} (hf : FV fv) (s : Us) (u : Int32) (x : Int32) : CT l fv 2 jX11_learn [.ref 0, .int u, .int x] (hUs s) (DP (some (.int (m_X11_learn s u x).1)) (hUs ((m_X11_learn s u x).2))) := by
  refine CT_of [] mt_X11_learn (by decide +kernel) (tab_X11 hf) okX11_learn (Nat.le_of_ble_eq_true rfl) ?_
  intro J hJ hD
  refine hJ 0 _ _ _ ?_
  refine CALL_sub (r := some (.int (m_X7_has (Sc.sz (Sf.c (Us.nw s))) u))) (h' := hUs s) [1, 2, 3, 4, 5, 6] (by decide) (c_X7_has l hf (Sf.c (Us.nw s)) 42 45 47 49 u) rfl rfl (by decide) (by decide) rfl ?_
  refine And.intro (fun c1 => ?_) (fun c1 => ?_)
  · skip
    have hi := has_of c1
    refine hJ 13 _ _ _ ?_
    refine CALL_sub (h' := hUs s) [] (by decide) (c_X11_isSet l hf x) rfl rfl (by decide) (by decide) rfl ?_
    refine And.intro (fun c2 => ?_) (fun c2 => ?_)
    · skip
      refine hJ 23 _ _ _ ?_
      refine And.intro (hi) ?_
      refine And.intro (hi) ?_
      exact And.intro True.intro (DPis (F := (fun z => hUs z)) (s' := (((Sc.kd (Sf.c (Us.nw s)), Sc.vv (Sf.c (Us.nw s)), (upd (Sc.kn (Sf.c (Us.nw s))) u.toNatClampNeg x), Sc.rw (Sf.c (Us.nw s)), Sc.le (Sf.c (Us.nw s)), Sc.sz (Sf.c (Us.nw s)), Sc.ou (Sf.c (Us.nw s)), Sc.ti (Sf.c (Us.nw s)), Sc.sg (Sf.c (Us.nw s)), Sc.lg (Sf.c (Us.nw s))), Sf.tp (Us.nw s), Sf.se (Us.nw s), Sf.pl (Us.nw s), Sf.bk (Us.nw s)), Us.kp s, Us.ah s, Us.h s, Us.k0 s, Us.k1 s, Us.k2 s, Us.k3 s, Us.k4 s, Us.k5 s, Us.k6 s, Us.st s, Us.l0 s, Us.l1 s, Us.l2 s, Us.l3 s, Us.l4 s, Us.l5 s, Us.b0 s, Us.b1 s, Us.b2 s, Us.b3 s, Us.b4 s, Us.b5 s, Us.b6 s, Us.it s, Us.ac s)) ((if_neg c1).trans (if_neg c2)))
    · skip
      exact And.intro True.intro (DPis (F := (fun z => hUs z)) (s' := s) ((if_neg c1).trans (if_pos c2)))
  · skip
    exact And.intro True.intro (DPis (F := (fun z => hUs z)) (s' := s) (if_pos c1))
def m_X11_beach (s : Us) (u : Int32) (b : Int32) : Int32 × Us := if (m_X7_has (Sc.sz (Sf.c (Us.nw s))) u) = 0 then ((-nI 1), s) else (bindv (if (m_X7_isOut (Sc.ou (Sf.c (Us.nw s))) u) = 0 then (nI 0) else (nI 1)) (fun x2_0 => bindv (m_X7_putOut (Sf.c (Us.nw s)) u b) (fun r3 => (x2_0, ((r3, Sf.tp (Us.nw s), Sf.se (Us.nw s), Sf.pl (Us.nw s), Sf.bk (Us.nw s)), Us.kp s, Us.ah s, Us.h s, Us.k0 s, Us.k1 s, Us.k2 s, Us.k3 s, Us.k4 s, Us.k5 s, Us.k6 s, Us.st s, Us.l0 s, Us.l1 s, Us.l2 s, Us.l3 s, Us.l4 s, Us.l5 s, Us.b0 s, Us.b1 s, Us.b2 s, Us.b3 s, Us.b4 s, Us.b5 s, Us.b6 s, Us.it s, Us.ac s)))))
set_option maxRecDepth 100000 in
set_option maxHeartbeats 4000000 in
theorem c_X11_beach (l : Launch) {fv : Value} (hf : FV fv) (s : Us) (u : Int32) (b : Int32) : CT l fv 2 jX11_beach [.ref 0, .int u, .int b] (hUs s) (DP (some (.int (m_X11_beach s u b).1)) (hUs ((m_X11_beach s u b).2))) := by
  refine CT_of [29] mt_X11_beach (by decide +kernel) (tab_X11 hf) okX11_beach (Nat.le_of_ble_eq_true rfl) ?_
  intro J hJ hD
  refine hJ 0 _ _ _ ?_
  refine CALL_sub (r := some (.int (m_X7_has (Sc.sz (Sf.c (Us.nw s))) u))) (h' := hUs s) [1, 2, 3, 4, 5, 6] (by decide) (c_X7_has l hf (Sf.c (Us.nw s)) 42 45 47 49 u) rfl rfl (by decide) (by decide) rfl ?_
  refine And.intro (fun c1 => ?_) (fun c1 => ?_)
  · skip
    refine hJ 13 _ _ _ ?_
    refine CALL_sub (r := some (.int (m_X7_isOut (Sc.ou (Sf.c (Us.nw s))) u))) (h' := hUs s) [1, 2, 3, 4, 5, 6] (by decide) (c_X7_isOut l hf (Sf.c (Us.nw s)) 42 45 47 49 u) rfl rfl (by decide) (by decide) rfl ?_
    have K2 : ∀ (x2_0 : Int32), (if (m_X7_isOut (Sc.ou (Sf.c (Us.nw s))) u) = 0 then (nI 0) else (nI 1)) = x2_0 → J 29 [(0, .ref 0), (1, .int u), (2, .int b)] [.int x2_0] (hUs s) := by
      intro x2_0 ex2_0
      refine hJ 29 _ _ _ ?_
      obtain ⟨r3, er3⟩ : ∃ z : Sc, m_X7_putOut (Sf.c (Us.nw s)) u b = z := ⟨_, rfl⟩
      have hr3 := c_X7_putOut l hf (Sf.c (Us.nw s)) 42 45 47 49 u b
      rw [er3] at hr3
      refine CALL_sub (r := none) (h' := wUs (r3, Sf.tp (Us.nw s), Sf.se (Us.nw s), Sf.pl (Us.nw s), Sf.bk (Us.nw s)) (Us.kp s) (Us.ah s) (Us.h s) (Us.k0 s) (Us.k1 s) (Us.k2 s) (Us.k3 s) (Us.k4 s) (Us.k5 s) (Us.k6 s) (Us.st s) (Us.l0 s) (Us.l1 s) (Us.l2 s) (Us.l3 s) (Us.l4 s) (Us.l5 s) (Us.b0 s) (Us.b1 s) (Us.b2 s) (Us.b3 s) (Us.b4 s) (Us.b5 s) (Us.b6 s) (Us.it s) (Us.ac s)) [1, 2, 3, 4, 5, 6] (by decide) (hr3) rfl rfl (by decide) (by decide) rfl ?_
      exact And.intro True.intro (DPis (F := (fun z => hUs z)) (s' := ((r3, Sf.tp (Us.nw s), Sf.se (Us.nw s), Sf.pl (Us.nw s), Sf.bk (Us.nw s)), Us.kp s, Us.ah s, Us.h s, Us.k0 s, Us.k1 s, Us.k2 s, Us.k3 s, Us.k4 s, Us.k5 s, Us.k6 s, Us.st s, Us.l0 s, Us.l1 s, Us.l2 s, Us.l3 s, Us.l4 s, Us.l5 s, Us.b0 s, Us.b1 s, Us.b2 s, Us.b3 s, Us.b4 s, Us.b5 s, Us.b6 s, Us.it s, Us.ac s)) ((if_neg c1).trans ((bindv_eq ex2_0).trans (bindv_eq er3))))
    refine And.intro (fun c4 => ?_) (fun c4 => ?_)
    · skip
      refine hJ 28 _ _ _ ?_
      exact hD _ _ [0, 1, 2] _ _ (K2 _ (if_pos c4))
    · skip
      exact hD _ _ [0, 1, 2] _ _ (K2 _ (if_neg c4))
  · skip
    exact And.intro True.intro (DPis (F := (fun z => hUs z)) (s' := s) (if_pos c1))
def m_X11_lesson (s : Us) (k : Int32) (f : Int32) : Int32 × Us := if (m_X11_isLesson k) = 0 then ((-nI 1), s) else (if f = (-nI 1) then (bindv (if f = (-nI 1) then (nI 8) else f) (fun x3_0 => if (Sc.le (Sf.c (Us.nw s)) k.toNatClampNeg) = nI 8 then ((-nI 5), (((Sc.kd (Sf.c (Us.nw s)), Sc.vv (Sf.c (Us.nw s)), Sc.kn (Sf.c (Us.nw s)), Sc.rw (Sf.c (Us.nw s)), (upd (Sc.le (Sf.c (Us.nw s))) k.toNatClampNeg x3_0), Sc.sz (Sf.c (Us.nw s)), Sc.ou (Sf.c (Us.nw s)), Sc.ti (Sf.c (Us.nw s)), Sc.sg (Sf.c (Us.nw s)), Sc.lg (Sf.c (Us.nw s))), Sf.tp (Us.nw s), Sf.se (Us.nw s), Sf.pl (Us.nw s), Sf.bk (Us.nw s)), Us.kp s, Us.ah s, Us.h s, Us.k0 s, Us.k1 s, Us.k2 s, Us.k3 s, Us.k4 s, Us.k5 s, Us.k6 s, Us.st s, Us.l0 s, Us.l1 s, Us.l2 s, Us.l3 s, Us.l4 s, Us.l5 s, Us.b0 s, Us.b1 s, Us.b2 s, Us.b3 s, Us.b4 s, Us.b5 s, Us.b6 s, Us.it s, Us.ac s)) else ((Sc.le (Sf.c (Us.nw s)) k.toNatClampNeg), (((Sc.kd (Sf.c (Us.nw s)), Sc.vv (Sf.c (Us.nw s)), Sc.kn (Sf.c (Us.nw s)), Sc.rw (Sf.c (Us.nw s)), (upd (Sc.le (Sf.c (Us.nw s))) k.toNatClampNeg x3_0), Sc.sz (Sf.c (Us.nw s)), Sc.ou (Sf.c (Us.nw s)), Sc.ti (Sf.c (Us.nw s)), Sc.sg (Sf.c (Us.nw s)), Sc.lg (Sf.c (Us.nw s))), Sf.tp (Us.nw s), Sf.se (Us.nw s), Sf.pl (Us.nw s), Sf.bk (Us.nw s)), Us.kp s, Us.ah s, Us.h s, Us.k0 s, Us.k1 s, Us.k2 s, Us.k3 s, Us.k4 s, Us.k5 s, Us.k6 s, Us.st s, Us.l0 s, Us.l1 s, Us.l2 s, Us.l3 s, Us.l4 s, Us.l5 s, Us.b0 s, Us.b1 s, Us.b2 s, Us.b3 s, Us.b4 s, Us.b5 s, Us.b6 s, Us.it s, Us.ac s)))) else (if (m_X11_isFact f.toInt64) = 0 then ((-nI 1), s) else (bindv (if f = (-nI 1) then (nI 8) else f) (fun x7_0 => if (Sc.le (Sf.c (Us.nw s)) k.toNatClampNeg) = nI 8 then ((-nI 5), (((Sc.kd (Sf.c (Us.nw s)), Sc.vv (Sf.c (Us.nw s)), Sc.kn (Sf.c (Us.nw s)), Sc.rw (Sf.c (Us.nw s)), (upd (Sc.le (Sf.c (Us.nw s))) k.toNatClampNeg x7_0), Sc.sz (Sf.c (Us.nw s)), Sc.ou (Sf.c (Us.nw s)), Sc.ti (Sf.c (Us.nw s)), Sc.sg (Sf.c (Us.nw s)), Sc.lg (Sf.c (Us.nw s))), Sf.tp (Us.nw s), Sf.se (Us.nw s), Sf.pl (Us.nw s), Sf.bk (Us.nw s)), Us.kp s, Us.ah s, Us.h s, Us.k0 s, Us.k1 s, Us.k2 s, Us.k3 s, Us.k4 s, Us.k5 s, Us.k6 s, Us.st s, Us.l0 s, Us.l1 s, Us.l2 s, Us.l3 s, Us.l4 s, Us.l5 s, Us.b0 s, Us.b1 s, Us.b2 s, Us.b3 s, Us.b4 s, Us.b5 s, Us.b6 s, Us.it s, Us.ac s)) else ((Sc.le (Sf.c (Us.nw s)) k.toNatClampNeg), (((Sc.kd (Sf.c (Us.nw s)), Sc.vv (Sf.c (Us.nw s)), Sc.kn (Sf.c (Us.nw s)), Sc.rw (Sf.c (Us.nw s)), (upd (Sc.le (Sf.c (Us.nw s))) k.toNatClampNeg x7_0), Sc.sz (Sf.c (Us.nw s)), Sc.ou (Sf.c (Us.nw s)), Sc.ti (Sf.c (Us.nw s)), Sc.sg (Sf.c (Us.nw s)), Sc.lg (Sf.c (Us.nw s))), Sf.tp (Us.nw s), Sf.se (Us.nw s), Sf.pl (Us.nw s), Sf.bk (Us.nw s)), Us.kp s, Us.ah s, Us.h s, Us.k0 s, Us.k1 s, Us.k2 s, Us.k3 s, Us.k4 s, Us.k5 s, Us.k6 s, Us.st s, Us.l0 s, Us.l1 s, Us.l2 s, Us.l3 s, Us.l4 s, Us.l5 s, Us.b0 s, Us.b1 s, Us.b2 s, Us.b3 s, Us.b4 s, Us.b5 s, Us.b6 s, Us.it s, Us.ac s))))))
set_option maxRecDepth 100000 in
set_option maxHeartbeats 4000000 in
theorem c_X11_lesson (l : Launch) {fv : Value} (hf : FV fv) (s : Us) (k : Int32) (f : Int32) : CT l fv 2 jX11_lesson [.ref 0, .int k, .int f] (hUs s) (DP (some (.int (m_X11_lesson s k f).1)) (hUs ((m_X11_lesson s k f).2))) := by
  refine CT_of [51] mt_X11_lesson (by decide +kernel) (tab_X11 hf) okX11_lesson (Nat.le_of_ble_eq_true rfl) ?_
  intro J hJ hD
  refine hJ 0 _ _ _ ?_
  refine CALL_sub (h' := hUs s) [] (by decide) (c_X11_isLesson l hf k) rfl rfl (by decide) (by decide) rfl ?_
  refine And.intro (fun c1 => ?_) (fun c1 => ?_)
  · skip
    refine hJ 20 _ _ _ ?_
    exact And.intro True.intro (DPis (F := (fun z => hUs z)) (s' := s) (if_pos c1))
  · skip
    have hk := le_of c1
    refine And.intro (fun c2 => ?_) (fun c2 => ?_)
    · skip
      refine hJ 22 _ _ _ ?_
      refine And.intro (hk) ?_
      have K3 : ∀ (x3_0 : Int32), (if f = (-nI 1) then (nI 8) else f) = x3_0 → J 51 [(3, .int (Sc.le (Sf.c (Us.nw s)) k.toNatClampNeg))] [.int x3_0, .int k, .ref 6] (hUs s) := by
        intro x3_0 ex3_0
        refine hJ 51 _ _ _ ?_
        refine And.intro (hk) ?_
        refine And.intro (fun c4 => ?_) (fun c4 => ?_)
        · skip
          refine hJ 63 _ _ _ ?_
          exact And.intro True.intro (DPis (F := (fun z => hUs z)) (s' := (((Sc.kd (Sf.c (Us.nw s)), Sc.vv (Sf.c (Us.nw s)), Sc.kn (Sf.c (Us.nw s)), Sc.rw (Sf.c (Us.nw s)), (upd (Sc.le (Sf.c (Us.nw s))) k.toNatClampNeg x3_0), Sc.sz (Sf.c (Us.nw s)), Sc.ou (Sf.c (Us.nw s)), Sc.ti (Sf.c (Us.nw s)), Sc.sg (Sf.c (Us.nw s)), Sc.lg (Sf.c (Us.nw s))), Sf.tp (Us.nw s), Sf.se (Us.nw s), Sf.pl (Us.nw s), Sf.bk (Us.nw s)), Us.kp s, Us.ah s, Us.h s, Us.k0 s, Us.k1 s, Us.k2 s, Us.k3 s, Us.k4 s, Us.k5 s, Us.k6 s, Us.st s, Us.l0 s, Us.l1 s, Us.l2 s, Us.l3 s, Us.l4 s, Us.l5 s, Us.b0 s, Us.b1 s, Us.b2 s, Us.b3 s, Us.b4 s, Us.b5 s, Us.b6 s, Us.it s, Us.ac s)) ((if_neg c1).trans ((if_pos c2).trans ((bindv_eq ex3_0).trans (if_neg c4)))))
        · skip
          refine hJ 64 _ _ _ ?_
          exact And.intro True.intro (DPis (F := (fun z => hUs z)) (s' := (((Sc.kd (Sf.c (Us.nw s)), Sc.vv (Sf.c (Us.nw s)), Sc.kn (Sf.c (Us.nw s)), Sc.rw (Sf.c (Us.nw s)), (upd (Sc.le (Sf.c (Us.nw s))) k.toNatClampNeg x3_0), Sc.sz (Sf.c (Us.nw s)), Sc.ou (Sf.c (Us.nw s)), Sc.ti (Sf.c (Us.nw s)), Sc.sg (Sf.c (Us.nw s)), Sc.lg (Sf.c (Us.nw s))), Sf.tp (Us.nw s), Sf.se (Us.nw s), Sf.pl (Us.nw s), Sf.bk (Us.nw s)), Us.kp s, Us.ah s, Us.h s, Us.k0 s, Us.k1 s, Us.k2 s, Us.k3 s, Us.k4 s, Us.k5 s, Us.k6 s, Us.st s, Us.l0 s, Us.l1 s, Us.l2 s, Us.l3 s, Us.l4 s, Us.l5 s, Us.b0 s, Us.b1 s, Us.b2 s, Us.b3 s, Us.b4 s, Us.b5 s, Us.b6 s, Us.it s, Us.ac s)) ((if_neg c1).trans ((if_pos c2).trans ((bindv_eq ex3_0).trans (if_pos c4)))))
      refine And.intro (fun c5 => ?_) (fun c5 => ?_)
      · skip
        refine hJ 50 _ _ _ ?_
        exact hD _ _ [0] _ _ (K3 _ (if_neg c5))
      · skip
        exact hD _ _ [0] _ _ (K3 _ (if_pos c5))
    · skip
      refine CALL_sub (h' := hUs s) [] (by decide) (c_X11_isFact l hf f.toInt64) rfl rfl (by decide) (by decide) rfl ?_
      refine And.intro (fun c6 => ?_) (fun c6 => ?_)
      · skip
        refine hJ 22 _ _ _ ?_
        refine And.intro (hk) ?_
        have K7 : ∀ (x7_0 : Int32), (if f = (-nI 1) then (nI 8) else f) = x7_0 → J 51 [(3, .int (Sc.le (Sf.c (Us.nw s)) k.toNatClampNeg))] [.int x7_0, .int k, .ref 6] (hUs s) := by
          intro x7_0 ex7_0
          refine hJ 51 _ _ _ ?_
          refine And.intro (hk) ?_
          refine And.intro (fun c8 => ?_) (fun c8 => ?_)
          · skip
            refine hJ 63 _ _ _ ?_
            exact And.intro True.intro (DPis (F := (fun z => hUs z)) (s' := (((Sc.kd (Sf.c (Us.nw s)), Sc.vv (Sf.c (Us.nw s)), Sc.kn (Sf.c (Us.nw s)), Sc.rw (Sf.c (Us.nw s)), (upd (Sc.le (Sf.c (Us.nw s))) k.toNatClampNeg x7_0), Sc.sz (Sf.c (Us.nw s)), Sc.ou (Sf.c (Us.nw s)), Sc.ti (Sf.c (Us.nw s)), Sc.sg (Sf.c (Us.nw s)), Sc.lg (Sf.c (Us.nw s))), Sf.tp (Us.nw s), Sf.se (Us.nw s), Sf.pl (Us.nw s), Sf.bk (Us.nw s)), Us.kp s, Us.ah s, Us.h s, Us.k0 s, Us.k1 s, Us.k2 s, Us.k3 s, Us.k4 s, Us.k5 s, Us.k6 s, Us.st s, Us.l0 s, Us.l1 s, Us.l2 s, Us.l3 s, Us.l4 s, Us.l5 s, Us.b0 s, Us.b1 s, Us.b2 s, Us.b3 s, Us.b4 s, Us.b5 s, Us.b6 s, Us.it s, Us.ac s)) ((if_neg c1).trans ((if_neg c2).trans ((if_neg c6).trans ((bindv_eq ex7_0).trans (if_neg c8))))))
          · skip
            refine hJ 64 _ _ _ ?_
            exact And.intro True.intro (DPis (F := (fun z => hUs z)) (s' := (((Sc.kd (Sf.c (Us.nw s)), Sc.vv (Sf.c (Us.nw s)), Sc.kn (Sf.c (Us.nw s)), Sc.rw (Sf.c (Us.nw s)), (upd (Sc.le (Sf.c (Us.nw s))) k.toNatClampNeg x7_0), Sc.sz (Sf.c (Us.nw s)), Sc.ou (Sf.c (Us.nw s)), Sc.ti (Sf.c (Us.nw s)), Sc.sg (Sf.c (Us.nw s)), Sc.lg (Sf.c (Us.nw s))), Sf.tp (Us.nw s), Sf.se (Us.nw s), Sf.pl (Us.nw s), Sf.bk (Us.nw s)), Us.kp s, Us.ah s, Us.h s, Us.k0 s, Us.k1 s, Us.k2 s, Us.k3 s, Us.k4 s, Us.k5 s, Us.k6 s, Us.st s, Us.l0 s, Us.l1 s, Us.l2 s, Us.l3 s, Us.l4 s, Us.l5 s, Us.b0 s, Us.b1 s, Us.b2 s, Us.b3 s, Us.b4 s, Us.b5 s, Us.b6 s, Us.it s, Us.ac s)) ((if_neg c1).trans ((if_neg c2).trans ((if_neg c6).trans ((bindv_eq ex7_0).trans (if_pos c8))))))
        refine And.intro (fun c9 => ?_) (fun c9 => ?_)
        · skip
          refine hJ 50 _ _ _ ?_
          exact hD _ _ [0] _ _ (K7 _ (if_neg c9))
        · skip
          exact hD _ _ [0] _ _ (K7 _ (if_pos c9))
      · skip
        exact And.intro True.intro (DPis (F := (fun z => hUs z)) (s' := s) ((if_neg c1).trans ((if_neg c2).trans (if_pos c6))))
def m_X11_toldLesson (znw_c_le : Fn) (x : Int32) : Int32 := if x < nI 10 then (-nI 1) else (if x < nI 14 then (if (znw_c_le (x - nI 10).toNatClampNeg) = nI 8 then (-nI 5) else (znw_c_le (x - nI 10).toNatClampNeg)) else (-nI 1))
set_option maxRecDepth 100000 in
set_option maxHeartbeats 4000000 in
theorem c_X11_toldLesson (l : Launch) {fv : Value} (hf : FV fv) (s : Us) (x : Int32) : CT l fv 1 jX11_toldLesson [.ref 0, .int x] (hUs s) (DP (some (.int (m_X11_toldLesson (Sc.le (Sf.c (Us.nw s))) x))) (hUs s)) := by
  refine CT_of [] mt_X11_toldLesson (by decide +kernel) (tab_X11 hf) okX11_toldLesson (Nat.le_of_ble_eq_true rfl) ?_
  intro J hJ hD
  refine hJ 0 _ _ _ ?_
  refine And.intro (fun c1 => ?_) (fun c1 => ?_)
  · skip
    refine hJ 12 _ _ _ ?_
    exact And.intro True.intro (DPi (if_pos c1))
  · skip
    have k1 := c1
    refine And.intro (fun c2 => ?_) (fun c2 => ?_)
    · skip
      have hk := tl_of k1 c2
      refine hJ 14 _ _ _ ?_
      refine And.intro (hk) ?_
      refine And.intro (fun c3 => ?_) (fun c3 => ?_)
      · skip
        refine hJ 38 _ _ _ ?_
        exact And.intro True.intro (DPi ((if_neg c1).trans ((if_pos c2).trans (if_neg c3))))
      · skip
        refine hJ 39 _ _ _ ?_
        exact And.intro True.intro (DPi ((if_neg c1).trans ((if_pos c2).trans (if_pos c3))))
    · skip
      exact And.intro True.intro (DPi ((if_neg c1).trans (if_neg c2)))
def m_X11_told (znw_c_kn : Fn) (znw_c_le : Fn) (znw_c_sz : Int32) (znw_c_ou : Int32) (znw_c_ti : Int32) (znw_c_lg : Int32) (zl0_ke : Int32) (zl0_pa : Int32) (zl1_ke : Int32) (zl1_pa : Int32) (zl2_ke : Int32) (zl2_pa : Int32) (zl3_ke : Int32) (zl3_pa : Int32) (zl4_ke : Int32) (zl4_pa : Int32) (zl5_ke : Int32) (zl5_pa : Int32) (x : Int32) : Int32 := if x = nI 0 then znw_c_ti else (if x = nI 1 then (if znw_c_lg = nI 1 then zl1_ke else (if znw_c_lg = nI 2 then zl2_ke else (if znw_c_lg = nI 3 then zl3_ke else (if znw_c_lg = nI 4 then zl4_ke else (if znw_c_lg = nI 5 then zl5_ke else zl0_ke))))) else (if x = nI 2 then (if znw_c_lg = nI 1 then zl1_pa else (if znw_c_lg = nI 2 then zl2_pa else (if znw_c_lg = nI 3 then zl3_pa else (if znw_c_lg = nI 4 then zl4_pa else (if znw_c_lg = nI 5 then zl5_pa else zl0_pa))))) else (if x = nI 3 then (m_X7_all (znw_c_kn) (znw_c_sz) (znw_c_ou)) else (if x = nI 4 then (m_X7_held (znw_c_kn) (znw_c_sz) (znw_c_ou)) else (if x = nI 5 then znw_c_ou else (if x = nI 6 then (m_X7_few (znw_c_kn) (znw_c_sz) (znw_c_ou)) else (m_X11_toldLesson (znw_c_le) x)))))))
set_option maxRecDepth 100000 in
set_option maxHeartbeats 4000000 in
theorem c_X11_told (l : Launch) {fv : Value} (hf : FV fv) (s : Us) (x : Int32) (hl : rl 5 (Sc.lg (Sf.c (Us.nw s)))) (hu : rl 6 (Sc.sz (Sf.c (Us.nw s)))) : CT l fv 4 jX11_told [.ref 0, .int x] (hUs s) (DP (some (.int (m_X11_told (Sc.kn (Sf.c (Us.nw s))) (Sc.le (Sf.c (Us.nw s))) (Sc.sz (Sf.c (Us.nw s))) (Sc.ou (Sf.c (Us.nw s))) (Sc.ti (Sf.c (Us.nw s))) (Sc.lg (Sf.c (Us.nw s))) (Lg.ke (Us.l0 s)) (Lg.pa (Us.l0 s)) (Lg.ke (Us.l1 s)) (Lg.pa (Us.l1 s)) (Lg.ke (Us.l2 s)) (Lg.pa (Us.l2 s)) (Lg.ke (Us.l3 s)) (Lg.pa (Us.l3 s)) (Lg.ke (Us.l4 s)) (Lg.pa (Us.l4 s)) (Lg.ke (Us.l5 s)) (Lg.pa (Us.l5 s)) x))) (hUs s)) := by
  refine CT_of [] mt_X11_told (by decide +kernel) (tab_X11 hf) okX11_told (Nat.le_of_ble_eq_true rfl) ?_
  intro J hJ hD
  refine hJ 0 _ _ _ ?_
  refine And.intro (fun c1 => ?_) (And.intro (by decide) (And.intro (fun c2 => ?_) (And.intro (fun c3 => ?_) (And.intro (fun c4 => ?_) (And.intro (fun c5 => ?_) (And.intro (fun c6 => ?_) (And.intro (fun c7 => ?_) (And.intro (fun c8 => ?_) (True.intro)))))))))
  · skip
    refine hJ 100 _ _ _ ?_
    refine CALL_same (r := some (.int (m_X11_toldLesson (Sc.le (Sf.c (Us.nw s))) x))) (h1 := hUs s) (by decide) (c_X11_toldLesson l hf s x) ?_
    exact And.intro True.intro (DPi ((if_neg (sw_ne 0 c1 (by decide) (by decide) (by decide))).trans ((if_neg (sw_ne 1 c1 (by decide) (by decide) (by decide))).trans ((if_neg (sw_ne 2 c1 (by decide) (by decide) (by decide))).trans ((if_neg (sw_ne 3 c1 (by decide) (by decide) (by decide))).trans ((if_neg (sw_ne 4 c1 (by decide) (by decide) (by decide))).trans ((if_neg (sw_ne 5 c1 (by decide) (by decide) (by decide))).trans (if_neg (sw_ne 6 c1 (by decide) (by decide) (by decide))))))))))
  · skip
    refine hJ 44 _ _ _ ?_
    exact And.intro True.intro (DPi (if_pos (sw_eq 0 c2 rfl (by decide))))
  · skip
    refine hJ 52 _ _ _ ?_
    by_cases hk9 : Sc.lg (Sf.c (Us.nw s)) = nI 1
    · skip
      refine CALL_same (r := some (.ref 31)) (h1 := hUs s) (by decide) (c_X11_holding_z1 l hf s hl hk9) ?_
      exact And.intro True.intro (DPi ((if_neg (sw_ot 0 c3 (by decide) (by decide))).trans ((if_pos (sw_eq 1 c3 rfl (by decide))).trans (if_pos hk9))))
    by_cases hk10 : Sc.lg (Sf.c (Us.nw s)) = nI 2
    · skip
      refine CALL_same (r := some (.ref 33)) (h1 := hUs s) (by decide) (c_X11_holding_z2 l hf s hl hk10) ?_
      exact And.intro True.intro (DPi ((if_neg (sw_ot 0 c3 (by decide) (by decide))).trans ((if_pos (sw_eq 1 c3 rfl (by decide))).trans ((if_neg hk9).trans (if_pos hk10)))))
    by_cases hk11 : Sc.lg (Sf.c (Us.nw s)) = nI 3
    · skip
      refine CALL_same (r := some (.ref 35)) (h1 := hUs s) (by decide) (c_X11_holding_z3 l hf s hl hk11) ?_
      exact And.intro True.intro (DPi ((if_neg (sw_ot 0 c3 (by decide) (by decide))).trans ((if_pos (sw_eq 1 c3 rfl (by decide))).trans ((if_neg hk9).trans ((if_neg hk10).trans (if_pos hk11))))))
    by_cases hk12 : Sc.lg (Sf.c (Us.nw s)) = nI 4
    · skip
      refine CALL_same (r := some (.ref 37)) (h1 := hUs s) (by decide) (c_X11_holding_z4 l hf s hl hk12) ?_
      exact And.intro True.intro (DPi ((if_neg (sw_ot 0 c3 (by decide) (by decide))).trans ((if_pos (sw_eq 1 c3 rfl (by decide))).trans ((if_neg hk9).trans ((if_neg hk10).trans ((if_neg hk11).trans (if_pos hk12)))))))
    by_cases hk13 : Sc.lg (Sf.c (Us.nw s)) = nI 5
    · skip
      refine CALL_same (r := some (.ref 39)) (h1 := hUs s) (by decide) (c_X11_holding_z5 l hf s hl hk13) ?_
      exact And.intro True.intro (DPi ((if_neg (sw_ot 0 c3 (by decide) (by decide))).trans ((if_pos (sw_eq 1 c3 rfl (by decide))).trans ((if_neg hk9).trans ((if_neg hk10).trans ((if_neg hk11).trans ((if_neg hk12).trans (if_pos hk13))))))))
    refine CALL_same (r := some (.ref 29)) (h1 := hUs s) (by decide) (c_X11_holding_h5 l hf s hl hk9 hk10 hk11 hk12 hk13) ?_
    exact And.intro True.intro (DPi ((if_neg (sw_ot 0 c3 (by decide) (by decide))).trans ((if_pos (sw_eq 1 c3 rfl (by decide))).trans ((if_neg hk9).trans ((if_neg hk10).trans ((if_neg hk11).trans ((if_neg hk12).trans (if_neg hk13))))))))
  · skip
    refine hJ 60 _ _ _ ?_
    by_cases hk14 : Sc.lg (Sf.c (Us.nw s)) = nI 1
    · skip
      refine CALL_same (r := some (.ref 31)) (h1 := hUs s) (by decide) (c_X11_holding_z1 l hf s hl hk14) ?_
      exact And.intro True.intro (DPi ((if_neg (sw_ot 0 c4 (by decide) (by decide))).trans ((if_neg (sw_ot 1 c4 (by decide) (by decide))).trans ((if_pos (sw_eq 2 c4 rfl (by decide))).trans (if_pos hk14)))))
    by_cases hk15 : Sc.lg (Sf.c (Us.nw s)) = nI 2
    · skip
      refine CALL_same (r := some (.ref 33)) (h1 := hUs s) (by decide) (c_X11_holding_z2 l hf s hl hk15) ?_
      exact And.intro True.intro (DPi ((if_neg (sw_ot 0 c4 (by decide) (by decide))).trans ((if_neg (sw_ot 1 c4 (by decide) (by decide))).trans ((if_pos (sw_eq 2 c4 rfl (by decide))).trans ((if_neg hk14).trans (if_pos hk15))))))
    by_cases hk16 : Sc.lg (Sf.c (Us.nw s)) = nI 3
    · skip
      refine CALL_same (r := some (.ref 35)) (h1 := hUs s) (by decide) (c_X11_holding_z3 l hf s hl hk16) ?_
      exact And.intro True.intro (DPi ((if_neg (sw_ot 0 c4 (by decide) (by decide))).trans ((if_neg (sw_ot 1 c4 (by decide) (by decide))).trans ((if_pos (sw_eq 2 c4 rfl (by decide))).trans ((if_neg hk14).trans ((if_neg hk15).trans (if_pos hk16)))))))
    by_cases hk17 : Sc.lg (Sf.c (Us.nw s)) = nI 4
    · skip
      refine CALL_same (r := some (.ref 37)) (h1 := hUs s) (by decide) (c_X11_holding_z4 l hf s hl hk17) ?_
      exact And.intro True.intro (DPi ((if_neg (sw_ot 0 c4 (by decide) (by decide))).trans ((if_neg (sw_ot 1 c4 (by decide) (by decide))).trans ((if_pos (sw_eq 2 c4 rfl (by decide))).trans ((if_neg hk14).trans ((if_neg hk15).trans ((if_neg hk16).trans (if_pos hk17))))))))
    by_cases hk18 : Sc.lg (Sf.c (Us.nw s)) = nI 5
    · skip
      refine CALL_same (r := some (.ref 39)) (h1 := hUs s) (by decide) (c_X11_holding_z5 l hf s hl hk18) ?_
      exact And.intro True.intro (DPi ((if_neg (sw_ot 0 c4 (by decide) (by decide))).trans ((if_neg (sw_ot 1 c4 (by decide) (by decide))).trans ((if_pos (sw_eq 2 c4 rfl (by decide))).trans ((if_neg hk14).trans ((if_neg hk15).trans ((if_neg hk16).trans ((if_neg hk17).trans (if_pos hk18)))))))))
    refine CALL_same (r := some (.ref 29)) (h1 := hUs s) (by decide) (c_X11_holding_h5 l hf s hl hk14 hk15 hk16 hk17 hk18) ?_
    exact And.intro True.intro (DPi ((if_neg (sw_ot 0 c4 (by decide) (by decide))).trans ((if_neg (sw_ot 1 c4 (by decide) (by decide))).trans ((if_pos (sw_eq 2 c4 rfl (by decide))).trans ((if_neg hk14).trans ((if_neg hk15).trans ((if_neg hk16).trans ((if_neg hk17).trans (if_neg hk18)))))))))
  · skip
    refine hJ 68 _ _ _ ?_
    refine CALL_sub (r := some (.int (m_X7_all (Sc.kn (Sf.c (Us.nw s))) (Sc.sz (Sf.c (Us.nw s))) (Sc.ou (Sf.c (Us.nw s)))))) (h' := hUs s) [1, 2, 3, 4, 5, 6] (by decide) (c_X7_all l hf (Sf.c (Us.nw s)) 42 45 47 49) rfl rfl (by decide) (by decide) rfl ?_
    exact And.intro True.intro (DPi ((if_neg (sw_ot 0 c5 (by decide) (by decide))).trans ((if_neg (sw_ot 1 c5 (by decide) (by decide))).trans ((if_neg (sw_ot 2 c5 (by decide) (by decide))).trans (if_pos (sw_eq 3 c5 rfl (by decide)))))))
  · skip
    refine hJ 76 _ _ _ ?_
    refine CALL_sub (r := some (.int (m_X7_held (Sc.kn (Sf.c (Us.nw s))) (Sc.sz (Sf.c (Us.nw s))) (Sc.ou (Sf.c (Us.nw s)))))) (h' := hUs s) [1, 2, 3, 4, 5, 6] (by decide) (c_X7_held l hf (Sf.c (Us.nw s)) 42 45 47 49) rfl rfl (by decide) (by decide) rfl ?_
    exact And.intro True.intro (DPi ((if_neg (sw_ot 0 c6 (by decide) (by decide))).trans ((if_neg (sw_ot 1 c6 (by decide) (by decide))).trans ((if_neg (sw_ot 2 c6 (by decide) (by decide))).trans ((if_neg (sw_ot 3 c6 (by decide) (by decide))).trans (if_pos (sw_eq 4 c6 rfl (by decide))))))))
  · skip
    refine hJ 84 _ _ _ ?_
    exact And.intro True.intro (DPi ((if_neg (sw_ot 0 c7 (by decide) (by decide))).trans ((if_neg (sw_ot 1 c7 (by decide) (by decide))).trans ((if_neg (sw_ot 2 c7 (by decide) (by decide))).trans ((if_neg (sw_ot 3 c7 (by decide) (by decide))).trans ((if_neg (sw_ot 4 c7 (by decide) (by decide))).trans (if_pos (sw_eq 5 c7 rfl (by decide)))))))))
  · skip
    refine hJ 92 _ _ _ ?_
    refine CALL_sub (r := some (.int (m_X7_few (Sc.kn (Sf.c (Us.nw s))) (Sc.sz (Sf.c (Us.nw s))) (Sc.ou (Sf.c (Us.nw s)))))) (h' := hUs s) [1, 2, 3, 4, 5, 6] (by decide) (c_X7_few l hf (Sf.c (Us.nw s)) 42 45 47 49 hu) rfl rfl (by decide) (by decide) rfl ?_
    exact And.intro True.intro (DPi ((if_neg (sw_ot 0 c8 (by decide) (by decide))).trans ((if_neg (sw_ot 1 c8 (by decide) (by decide))).trans ((if_neg (sw_ot 2 c8 (by decide) (by decide))).trans ((if_neg (sw_ot 3 c8 (by decide) (by decide))).trans ((if_neg (sw_ot 4 c8 (by decide) (by decide))).trans ((if_neg (sw_ot 5 c8 (by decide) (by decide))).trans (if_pos (sw_eq 6 c8 rfl (by decide))))))))))
def l_X11_go_p1_8 (s : Us) (n : Int32) (L : Lg) : Nat → Int32 → Us → Us
  | 0, _, _ => s
  | n8 + 1, i, m1 => if n ≤ i then m1 else (bindv (m_X7_goTide (Sf.c (Us.nw m1), Us.h m1, Us.k0 m1, Us.k1 m1, Us.k2 m1, Us.k3 m1, Us.k4 m1, Us.k5 m1, Us.k6 m1, Us.st m1, L) (m_X7_lessonNow (Sc.le (Sf.c (Us.nw m1))) (Sc.ti (Sf.c (Us.nw m1))))) (fun r2 => l_X11_go_p1_8 s n L n8 (i + nI 1) ((Wt.c r2, Sf.tp (Us.nw m1), Sf.se (Us.nw m1), Sf.pl (Us.nw m1), Sf.bk (Us.nw m1)), Us.kp m1, Us.ah m1, Wt.h r2, Wt.k0 r2, Wt.k1 r2, Wt.k2 r2, Wt.k3 r2, Wt.k4 r2, Wt.k5 r2, Wt.k6 r2, Wt.st r2, Us.l0 m1, Us.l1 m1, Us.l2 m1, Us.l3 m1, Us.l4 m1, Us.l5 m1, Us.b0 m1, Us.b1 m1, Us.b2 m1, Us.b3 m1, Us.b4 m1, Us.b5 m1, Us.b6 m1, Us.it m1, Us.ac m1)))
theorem q_X11_go_p1_8 (s : Us) (n : Int32) (L : Lg) (n8 : Nat) (i : Int32) (m1 : Us) : l_X11_go_p1_8 s n L (n8 + 1) i m1 = (if n ≤ i then m1 else (bindv (m_X7_goTide (Sf.c (Us.nw m1), Us.h m1, Us.k0 m1, Us.k1 m1, Us.k2 m1, Us.k3 m1, Us.k4 m1, Us.k5 m1, Us.k6 m1, Us.st m1, L) (m_X7_lessonNow (Sc.le (Sf.c (Us.nw m1))) (Sc.ti (Sf.c (Us.nw m1))))) (fun r2 => l_X11_go_p1_8 s n L n8 (i + nI 1) ((Wt.c r2, Sf.tp (Us.nw m1), Sf.se (Us.nw m1), Sf.pl (Us.nw m1), Sf.bk (Us.nw m1)), Us.kp m1, Us.ah m1, Wt.h r2, Wt.k0 r2, Wt.k1 r2, Wt.k2 r2, Wt.k3 r2, Wt.k4 r2, Wt.k5 r2, Wt.k6 r2, Wt.st r2, Us.l0 m1, Us.l1 m1, Us.l2 m1, Us.l3 m1, Us.l4 m1, Us.l5 m1, Us.b0 m1, Us.b1 m1, Us.b2 m1, Us.b3 m1, Us.b4 m1, Us.b5 m1, Us.b6 m1, Us.it m1, Us.ac m1)))) := rfl
def m_X11_go_p1 (s : Us) (n : Int32) : Us := bindv (holdL (Sc.lg (Sf.c (Us.nw s))) (Us.l0 s) (Us.l1 s) (Us.l2 s) (Us.l3 s) (Us.l4 s) (Us.l5 s)) (fun L => l_X11_go_p1_8 s n L (n.toNatClampNeg + 1) (nI 0) s)
set_option maxRecDepth 100000 in
set_option maxHeartbeats 4000000 in
theorem c_X11_go_p1 (l : Launch) {fv : Value} (hf : FV fv) (s : Us) (n : Int32) {B N : Nat} (hn : n = nI N) (hB : B + N ≤ 1000000) (hN : N ≤ 1000) (hl : rl 5 (Sc.lg (Sf.c (Us.nw s)))) (ht : TPs s) (hk : hK (Sc.sz (Sf.c (Us.nw s))) (Sc.kd (Sf.c (Us.nw s)))) (hT : rl B (Sc.ti (Sf.c (Us.nw s)))) : CT l fv 6 jX11_go [.ref 0, .ref 1, .int n] (hUs s) (DP none (hUs (m_X11_go_p1 s n))) := by
  refine CT_of [8] mt_X11_go (by decide +kernel) (tab_X11 hf) okX11_go (Nat.le_of_ble_eq_true rfl) ?_
  intro J hJ hD
  refine hJ 0 _ _ _ ?_
  obtain ⟨L, eL⟩ : ∃ z, holdL (Sc.lg (Sf.c (Us.nw s))) (Us.l0 s) (Us.l1 s) (Us.l2 s) (Us.l3 s) (Us.l4 s) (Us.l5 s) = z := ⟨_, rfl⟩
  obtain ⟨q, eq⟩ : ∃ z, holdP (Sc.lg (Sf.c (Us.nw s))) = z := ⟨_, rfl⟩
  have hQ := hold_q (s := s) ht hl eL eq
  have hcq := c_X11_holding l hf s hl
  have hcq : CT l fv 1 jX11_holding [.ref 0] (hUs s) (DP (some (.ref q)) (hUs s)) := by rw [← eq]; exact hcq
  refine CALL_same (r := some (.ref q)) (h1 := hUs s) (by decide) hcq ?_
  have L8 : ∀ (n8 : Nat) (i : Int32) (m1 : Us), (∃ z9 : Nat, z9 ≤ N ∧ n8 + z9 = N + 1 ∧ i = nI z9 ∧ HQ q L m1 ∧ hK (Sc.sz (Sf.c (Us.nw m1))) (Sc.kd (Sf.c (Us.nw m1))) ∧ rl (B + z9) (Sc.ti (Sf.c (Us.nw m1)))) → m_X11_go_p1 s n = l_X11_go_p1_8 s n L n8 i m1 → J 8 [(0, .ref 0), (1, .ref 1), (2, .int n), (3, .ref q), (4, .int i)] [] (hUs m1) := by
    intro n8
    induction n8 with
    | zero =>
      intro i m1 hv
      obtain ⟨z9, h1, h2, h3, hQ, h6, h7⟩ := hv
      omega
    | succ n8 ih8 =>
      intro i m1 hv e8
      obtain ⟨z9, h1, h2, h3, hQ, h6, h7⟩ := hv
      refine hJ 8 _ _ _ ?_
      refine And.intro (fun c1 => ?_) (fun c1 => ?_)
      · skip
        refine hJ 33 _ _ _ ?_
        exact And.intro rfl (DPs (F := (fun z => hUs z)) (s' := m1) (e8.trans ((q_X11_go_p1_8 s n L n8 i m1).trans (if_pos c1))))
      · skip
        have h4 : z9 < N := cnt_lt h3 h1 (by omega) (by rw [← hn]; exact c1)
        refine CALL_sub (r := some (.int (m_X7_lessonNow (Sc.le (Sf.c (Us.nw m1))) (Sc.ti (Sf.c (Us.nw m1)))))) (h' := hUs m1) [1, 2, 3, 4, 5, 6] (by decide) (c_X7_lessonNow l hf (Sf.c (Us.nw m1)) 42 45 47 49 (h7.mono (by omega))) rfl rfl (by decide) (by decide) rfl ?_
        obtain ⟨r2, er2⟩ : ∃ z : Wt, m_X7_goTide (Sf.c (Us.nw m1), Us.h m1, Us.k0 m1, Us.k1 m1, Us.k2 m1, Us.k3 m1, Us.k4 m1, Us.k5 m1, Us.k6 m1, Us.st m1, L) (m_X7_lessonNow (Sc.le (Sf.c (Us.nw m1))) (Sc.ti (Sf.c (Us.nw m1)))) = z := ⟨_, rfl⟩
        have gr2 := gl_goTide er2
        have h8 := Tw.hk gr2.2.1 h6
        have h9 := Tw.ti gr2.2.2 h7
        refine us_goTide_nw l hf m1 (HQ.ch hQ rfl rfl rfl rfl rfl rfl) (m_X7_lessonNow (Sc.le (Sf.c (Us.nw m1))) (Sc.ti (Sf.c (Us.nw m1)))) h6 er2 gr2.1 (by decide) ?_
        exact hD _ _ [1, 2, 3, 4, 0] _ _ (ih8 _ ((Wt.c r2, Sf.tp (Us.nw m1), Sf.se (Us.nw m1), Sf.pl (Us.nw m1), Sf.bk (Us.nw m1)), Us.kp m1, Us.ah m1, Wt.h r2, Wt.k0 r2, Wt.k1 r2, Wt.k2 r2, Wt.k3 r2, Wt.k4 r2, Wt.k5 r2, Wt.k6 r2, Wt.st r2, Us.l0 m1, Us.l1 m1, Us.l2 m1, Us.l3 m1, Us.l4 m1, Us.l5 m1, Us.b0 m1, Us.b1 m1, Us.b2 m1, Us.b3 m1, Us.b4 m1, Us.b5 m1, Us.b6 m1, Us.it m1, Us.ac m1) ⟨z9 + 1, by omega, by omega, by rw [h3]; exact nI_add z9 1, by exact HQ.ch hQ rfl rfl rfl rfl rfl rfl, by exact h8, by exact h9⟩ (e8.trans ((q_X11_go_p1_8 s n L n8 i m1).trans ((if_neg c1).trans (bindv_eq er2)))))
  exact hD _ _ [2, 3, 4, 1, 0] _ _ (L8 (n.toNatClampNeg + 1) _ _ ⟨0, by omega, by rw [hn, nI_clamp (by omega)], rfl, hQ, hk, hT⟩ (bindv_eq eL))
def l_X11_go_p13_8 (s : Us) (n : Int32) (L : Lg) : Nat → Int32 → Us → Us
  | 0, _, _ => s
  | n8 + 1, i, m1 => if n ≤ i then m1 else (bindv (m_X7_goTide (Sf.c (Us.ah m1), Us.h m1, Us.k0 m1, Us.k1 m1, Us.k2 m1, Us.k3 m1, Us.k4 m1, Us.k5 m1, Us.k6 m1, Us.st m1, L) (m_X7_lessonNow (Sc.le (Sf.c (Us.ah m1))) (Sc.ti (Sf.c (Us.ah m1))))) (fun r2 => l_X11_go_p13_8 s n L n8 (i + nI 1) (Us.nw m1, Us.kp m1, (Wt.c r2, Sf.tp (Us.ah m1), Sf.se (Us.ah m1), Sf.pl (Us.ah m1), Sf.bk (Us.ah m1)), Wt.h r2, Wt.k0 r2, Wt.k1 r2, Wt.k2 r2, Wt.k3 r2, Wt.k4 r2, Wt.k5 r2, Wt.k6 r2, Wt.st r2, Us.l0 m1, Us.l1 m1, Us.l2 m1, Us.l3 m1, Us.l4 m1, Us.l5 m1, Us.b0 m1, Us.b1 m1, Us.b2 m1, Us.b3 m1, Us.b4 m1, Us.b5 m1, Us.b6 m1, Us.it m1, Us.ac m1)))
theorem q_X11_go_p13_8 (s : Us) (n : Int32) (L : Lg) (n8 : Nat) (i : Int32) (m1 : Us) : l_X11_go_p13_8 s n L (n8 + 1) i m1 = (if n ≤ i then m1 else (bindv (m_X7_goTide (Sf.c (Us.ah m1), Us.h m1, Us.k0 m1, Us.k1 m1, Us.k2 m1, Us.k3 m1, Us.k4 m1, Us.k5 m1, Us.k6 m1, Us.st m1, L) (m_X7_lessonNow (Sc.le (Sf.c (Us.ah m1))) (Sc.ti (Sf.c (Us.ah m1))))) (fun r2 => l_X11_go_p13_8 s n L n8 (i + nI 1) (Us.nw m1, Us.kp m1, (Wt.c r2, Sf.tp (Us.ah m1), Sf.se (Us.ah m1), Sf.pl (Us.ah m1), Sf.bk (Us.ah m1)), Wt.h r2, Wt.k0 r2, Wt.k1 r2, Wt.k2 r2, Wt.k3 r2, Wt.k4 r2, Wt.k5 r2, Wt.k6 r2, Wt.st r2, Us.l0 m1, Us.l1 m1, Us.l2 m1, Us.l3 m1, Us.l4 m1, Us.l5 m1, Us.b0 m1, Us.b1 m1, Us.b2 m1, Us.b3 m1, Us.b4 m1, Us.b5 m1, Us.b6 m1, Us.it m1, Us.ac m1)))) := rfl
def m_X11_go_p13 (s : Us) (n : Int32) : Us := bindv (holdL (Sc.lg (Sf.c (Us.nw s))) (Us.l0 s) (Us.l1 s) (Us.l2 s) (Us.l3 s) (Us.l4 s) (Us.l5 s)) (fun L => l_X11_go_p13_8 s n L (n.toNatClampNeg + 1) (nI 0) s)
set_option maxRecDepth 100000 in
set_option maxHeartbeats 4000000 in
theorem c_X11_go_p13 (l : Launch) {fv : Value} (hf : FV fv) (s : Us) (n : Int32) {B N : Nat} (hn : n = nI N) (hB : B + N ≤ 1000000) (hN : N ≤ 1000) (hl : rl 5 (Sc.lg (Sf.c (Us.nw s)))) (ht : TPs s) (hk : hK (Sc.sz (Sf.c (Us.ah s))) (Sc.kd (Sf.c (Us.ah s)))) (hT : rl B (Sc.ti (Sf.c (Us.ah s)))) : CT l fv 6 jX11_go [.ref 0, .ref 13, .int n] (hUs s) (DP none (hUs (m_X11_go_p13 s n))) := by
  refine CT_of [8] mt_X11_go (by decide +kernel) (tab_X11 hf) okX11_go (Nat.le_of_ble_eq_true rfl) ?_
  intro J hJ hD
  refine hJ 0 _ _ _ ?_
  obtain ⟨L, eL⟩ : ∃ z, holdL (Sc.lg (Sf.c (Us.nw s))) (Us.l0 s) (Us.l1 s) (Us.l2 s) (Us.l3 s) (Us.l4 s) (Us.l5 s) = z := ⟨_, rfl⟩
  obtain ⟨q, eq⟩ : ∃ z, holdP (Sc.lg (Sf.c (Us.nw s))) = z := ⟨_, rfl⟩
  have hQ := hold_q (s := s) ht hl eL eq
  have hcq := c_X11_holding l hf s hl
  have hcq : CT l fv 1 jX11_holding [.ref 0] (hUs s) (DP (some (.ref q)) (hUs s)) := by rw [← eq]; exact hcq
  refine CALL_same (r := some (.ref q)) (h1 := hUs s) (by decide) hcq ?_
  have L8 : ∀ (n8 : Nat) (i : Int32) (m1 : Us), (∃ z9 : Nat, z9 ≤ N ∧ n8 + z9 = N + 1 ∧ i = nI z9 ∧ HQ q L m1 ∧ hK (Sc.sz (Sf.c (Us.ah m1))) (Sc.kd (Sf.c (Us.ah m1))) ∧ rl (B + z9) (Sc.ti (Sf.c (Us.ah m1)))) → m_X11_go_p13 s n = l_X11_go_p13_8 s n L n8 i m1 → J 8 [(0, .ref 0), (1, .ref 13), (2, .int n), (3, .ref q), (4, .int i)] [] (hUs m1) := by
    intro n8
    induction n8 with
    | zero =>
      intro i m1 hv
      obtain ⟨z9, h1, h2, h3, hQ, h6, h7⟩ := hv
      omega
    | succ n8 ih8 =>
      intro i m1 hv e8
      obtain ⟨z9, h1, h2, h3, hQ, h6, h7⟩ := hv
      refine hJ 8 _ _ _ ?_
      refine And.intro (fun c1 => ?_) (fun c1 => ?_)
      · skip
        refine hJ 33 _ _ _ ?_
        exact And.intro rfl (DPs (F := (fun z => hUs z)) (s' := m1) (e8.trans ((q_X11_go_p13_8 s n L n8 i m1).trans (if_pos c1))))
      · skip
        have h4 : z9 < N := cnt_lt h3 h1 (by omega) (by rw [← hn]; exact c1)
        refine CALL_sub (r := some (.int (m_X7_lessonNow (Sc.le (Sf.c (Us.ah m1))) (Sc.ti (Sf.c (Us.ah m1)))))) (h' := hUs m1) [13, 14, 15, 16, 17, 18] (by decide) (c_X7_lessonNow l hf (Sf.c (Us.ah m1)) 44 57 59 61 (h7.mono (by omega))) rfl rfl (by decide) (by decide) rfl ?_
        obtain ⟨r2, er2⟩ : ∃ z : Wt, m_X7_goTide (Sf.c (Us.ah m1), Us.h m1, Us.k0 m1, Us.k1 m1, Us.k2 m1, Us.k3 m1, Us.k4 m1, Us.k5 m1, Us.k6 m1, Us.st m1, L) (m_X7_lessonNow (Sc.le (Sf.c (Us.ah m1))) (Sc.ti (Sf.c (Us.ah m1)))) = z := ⟨_, rfl⟩
        have gr2 := gl_goTide er2
        have h8 := Tw.hk gr2.2.1 h6
        have h9 := Tw.ti gr2.2.2 h7
        refine us_goTide_ah l hf m1 (HQ.ch hQ rfl rfl rfl rfl rfl rfl) (m_X7_lessonNow (Sc.le (Sf.c (Us.ah m1))) (Sc.ti (Sf.c (Us.ah m1)))) h6 er2 gr2.1 (by decide) ?_
        exact hD _ _ [1, 2, 3, 4, 0] _ _ (ih8 _ (Us.nw m1, Us.kp m1, (Wt.c r2, Sf.tp (Us.ah m1), Sf.se (Us.ah m1), Sf.pl (Us.ah m1), Sf.bk (Us.ah m1)), Wt.h r2, Wt.k0 r2, Wt.k1 r2, Wt.k2 r2, Wt.k3 r2, Wt.k4 r2, Wt.k5 r2, Wt.k6 r2, Wt.st r2, Us.l0 m1, Us.l1 m1, Us.l2 m1, Us.l3 m1, Us.l4 m1, Us.l5 m1, Us.b0 m1, Us.b1 m1, Us.b2 m1, Us.b3 m1, Us.b4 m1, Us.b5 m1, Us.b6 m1, Us.it m1, Us.ac m1) ⟨z9 + 1, by omega, by omega, by rw [h3]; exact nI_add z9 1, by exact HQ.ch hQ rfl rfl rfl rfl rfl rfl, by exact h8, by exact h9⟩ (e8.trans ((q_X11_go_p13_8 s n L n8 i m1).trans ((if_neg c1).trans (bindv_eq er2)))))
  exact hD _ _ [2, 3, 4, 1, 0] _ _ (L8 (n.toNatClampNeg + 1) _ _ ⟨0, by omega, by rw [hn, nI_clamp (by omega)], rfl, hQ, hk, hT⟩ (bindv_eq eL))

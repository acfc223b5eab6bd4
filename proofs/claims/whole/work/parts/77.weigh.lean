/-! what the class weighs, bit by bit -/
theorem sh1 : ∀ k, k < 24 → ∀ b, b < 24 → (nI 1 <<< (nI k &&& 31)).toBitVec.getLsbD b = decide (b = k) := by decide +kernel
theorem look_h {s r : Wt} {i f : Int32} (e : m_X1_look s i f = r) (hi : ¬ m_X7_has (Sc.sz (Wt.c s)) i = 0) : Hh.p (Wt.h r) = i ∧ Hh.k (Wt.h r) = Sc.kd (Wt.c s) i.toNatClampNeg ∧ Hh.v (Wt.h r) = Sc.vv (Wt.c s) i.toNatClampNeg ∧ Hh.f (Wt.h r) = f ∧ Hh.c (Wt.h r) = m_J6_bitCount_0f7a4 (Sc.kn (Wt.c s) i.toNatClampNeg) ∧ Hh.t (Wt.h r) = (Sc.ti (Wt.c s) - Sc.ti (Wt.c s) / nI 10 * nI 10) ∧ Hh.ro (Wt.h r) = Sc.rw (Wt.c s) ((i * nI 4) + (f - f / nI 4 * nI 4)).toNatClampNeg := by
  rw [← e]
  unfold m_X1_look
  rw [if_neg hi]
  split <;> exact ⟨rfl, rfl, rfl, rfl, rfl, rfl, rfl⟩
/-- how one heeds a fact that it doesn't know, by the class's cells -/
def oc (c : Sc) (l : Lg) (i : Nat) (cn tt : Int32) (f : Nat) : Int32 := hd (Sc.kd c i) (m_X4_sum (nI i) (Sc.kd c i) (Sc.vv c i) (nI f) cn tt (Lg.st l) (Lg.sz l)) (Sc.vv c i) cn (Sc.rw c (i * 4 + f % 4)) false
def tb (c : Sc) (l : Lg) (i : Nat) (cn tt : Int32) (b : Nat) : Bool := if b < 8 then decide (¬ oc c l i cn tt b < 0) else if b < 16 then decide (¬ oc c l i cn tt (b - 8) ≤ 0) else decide (¬ oc c l i cn tt (b - 16) < Lg.pa l)
def WB (c : Sc) (l : Lg) (i : Nat) (cn tt w : Int32) : Prop := ∀ b, b < 24 → w.toBitVec.getLsbD b = tb c l i cn tt b
theorem wstep {x y : Int32} {P : Prop} [Decidable P] {k : Nat} (hk : k < 24) (e : x = if P then y else (y ||| (nI 1 <<< (nI k &&& 31)))) : ∀ b, b < 24 → x.toBitVec.getLsbD b = (y.toBitVec.getLsbD b || (decide (b = k) && decide (¬ P))) := by
  intro b hb
  rw [e]
  by_cases p : P
  · rw [if_pos p]; simp [p]
  · rw [if_neg p, gb_or, sh1 k hk b hb]; simp [p]
theorem weigh_l (s : Wt) {i : Nat} (hi6 : i < 6) (hi : ¬ m_X7_has (Sc.sz (Wt.c s)) (nI i) = 0) (hk : vp_in (Sc.kd (Wt.c s) i) 7) {cn tt : Int32} (hc : m_J6_bitCount_0f7a4 (Sc.kn (Wt.c s) i) = cn) (ht : (Sc.ti (Wt.c s) - Sc.ti (Wt.c s) / nI 10 * nI 10) = tt) : ∀ (n k : Nat) (fo fa : Int32) (m1 : Wt), k ≤ 8 → n + k = 9 → fa = nI k → Wt.c m1 = Wt.c s → Wt.l m1 = Wt.l s → (∀ b, b < 24 → fo.toBitVec.getLsbD b = (decide (b % 8 < k) && tb (Wt.c s) (Wt.l s) i cn tt b)) → WB (Wt.c s) (Wt.l s) i cn tt (l_X1_weigh_6 s (nI i) n fo fa m1).1 := by
  intro n
  induction n with
  | zero => intro k fo fa m1 h1 h2; omega
  | succ n ih =>
    intro k fo fa m1 h1 h2 h3 h4 h5 h6
    rw [q_X1_weigh_6]
    by_cases c : nI 8 ≤ fa
    · rw [if_pos c]
      rw [h3, nI_leI (by decide) (by omega)] at c
      intro b hb
      show fo.toBitVec.getLsbD b = _
      rw [h6 b hb]
      have : b % 8 < k := by have := Nat.mod_lt b (show 0 < 8 by decide); omega
      simp [this]
    · rw [if_neg c]
      have hk8 : k < 8 := cnt_lt h3 h1 (by decide) c
      have ei : (nI i).toNatClampNeg = i := nI_clamp (by omega)
      have e := look_h (s := m1) (i := nI i) (f := fa) rfl (by rw [h4]; exact hi)
      have g := ef_look (s := m1) (i := nI i) (f := fa) rfl (by rw [h4]; exact hi)
      generalize m_X1_look m1 (nI i) fa = r at e g ⊢
      rw [h4, ei] at e
      obtain ⟨e1, e2, e3, e4, e5, e6, e7⟩ := e
      have er : ((nI i * nI 4) + (fa - fa / nI 4 * nI 4)).toNatClampNeg = i * 4 + k % 4 := by
        rw [h3, pk_rem (by omega) (by decide) (by decide), pk_mul, nI_add, nI_clamp (by omega)]
      rw [er] at e7
      rw [hc] at e5
      rw [ht] at e6
      have gl : Wt.l r = Wt.l s := g.2.1.trans h5
      have gc : Wt.c r = Wt.c s := g.1.trans h4
      rw [bindv]
      rw [e1, e2, e3, e4, e5, e6, gl, h3]
      have eo : (if Sc.kd (Wt.c s) i = nI 0 then (m_X10_heed_c10 (m_X4_sum (nI i) (Sc.kd (Wt.c s) i) (Sc.vv (Wt.c s) i) (nI k) cn tt (Lg.st (Wt.l s)) (Lg.sz (Wt.l s)))) else (if Sc.kd (Wt.c s) i = nI 1 then (m_X3_heed_c3 (Sc.vv (Wt.c s) i) (m_X4_sum (nI i) (Sc.kd (Wt.c s) i) (Sc.vv (Wt.c s) i) (nI k) cn tt (Lg.st (Wt.l s)) (Lg.sz (Wt.l s)))) else (if Sc.kd (Wt.c s) i = nI 2 then (m_X2_heed_c2 (m_X4_sum (nI i) (Sc.kd (Wt.c s) i) (Sc.vv (Wt.c s) i) (nI k) cn tt (Lg.st (Wt.l s)) (Lg.sz (Wt.l s)))) else (if Sc.kd (Wt.c s) i = nI 3 then (m_X0_heed_c0 cn (m_X4_sum (nI i) (Sc.kd (Wt.c s) i) (Sc.vv (Wt.c s) i) (nI k) cn tt (Lg.st (Wt.l s)) (Lg.sz (Wt.l s)))) else (if Sc.kd (Wt.c s) i = nI 4 then (m_X5_heed_c5 (Sc.vv (Wt.c s) i) (nI 0) (m_X4_sum (nI i) (Sc.kd (Wt.c s) i) (Sc.vv (Wt.c s) i) (nI k) cn tt (Lg.st (Wt.l s)) (Lg.sz (Wt.l s)))) else (if Sc.kd (Wt.c s) i = nI 5 then (m_X6_heed_c6 (Sc.vv (Wt.c s) i) (m_X4_sum (nI i) (Sc.kd (Wt.c s) i) (Sc.vv (Wt.c s) i) (nI k) cn tt (Lg.st (Wt.l s)) (Lg.sz (Wt.l s)))) else (m_X9_heed_c9 cn (Hh.ro (Wt.h r)) (m_X4_sum (nI i) (Sc.kd (Wt.c s) i) (Sc.vv (Wt.c s) i) (nI k) cn tt (Lg.st (Wt.l s)) (Lg.sz (Wt.l s)))))))))) = oc (Wt.c s) (Wt.l s) i cn tt k := by
        rw [e7]
        unfold oc
        generalize m_X4_sum (nI i) (Sc.kd (Wt.c s) i) (Sc.vv (Wt.c s) i) (nI k) cn tt (Lg.st (Wt.l s)) (Lg.sz (Wt.l s)) = su
        generalize Sc.vv (Wt.c s) i = v
        generalize Sc.rw (Wt.c s) (i * 4 + k % 4) = ro
        rcases or7 hk with q | q | q | q | q | q | q <;> rw [q] <;> rfl
      rw [eo]
      simp only [bindv, nI_add]
      refine ih (k + 1) _ _ _ (by omega) (by omega) rfl gc rfl ?_
      intro b hb
      have w3 := wstep (P := oc (Wt.c s) (Wt.l s) i cn tt k < Lg.pa (Wt.l s)) (y := (if oc (Wt.c s) (Wt.l s) i cn tt k ≤ 0 then (if oc (Wt.c s) (Wt.l s) i cn tt k < 0 then fo else (fo ||| (nI 1 <<< (nI k &&& 31)))) else ((if oc (Wt.c s) (Wt.l s) i cn tt k < 0 then fo else (fo ||| (nI 1 <<< (nI k &&& 31)))) ||| (nI 1 <<< (nI (8 + k) &&& 31))))) (k := 16 + k) (by omega) rfl b hb
      have w2 := wstep (P := oc (Wt.c s) (Wt.l s) i cn tt k ≤ 0) (y := (if oc (Wt.c s) (Wt.l s) i cn tt k < 0 then fo else (fo ||| (nI 1 <<< (nI k &&& 31))))) (k := 8 + k) (by omega) rfl b hb
      have w1 := wstep (P := oc (Wt.c s) (Wt.l s) i cn tt k < 0) (y := fo) (k := k) (by omega) rfl b hb
      rw [w3, w2, w1, h6 b hb]
      have bm := Nat.mod_lt b (show 0 < 8 by decide)
      by_cases z : b % 8 = k
      · have : b = k ∨ b = 8 + k ∨ b = 16 + k := by omega
        have n1 : ¬ b % 8 < k := by omega
        have n2 : b % 8 < k + 1 := by omega
        unfold tb
        rcases this with rfl | rfl | rfl
        · have a1 : ¬ b = 8 + b := by omega
          have a2 : ¬ b = 16 + b := by omega
          have a3 : b < 8 := by omega
          simp [n1, n2, a1, a2, a3]
        · have a1 : ¬ 8 + k = k := by omega
          have a2 : ¬ 8 + k = 16 + k := by omega
          have a3 : ¬ 8 + k < 8 := by omega
          have a4 : 8 + k < 16 := by omega
          rw [if_neg a3, if_pos a4, Nat.add_sub_cancel_left]
          have m8 : (8 + k) % 8 = k := z
          rw [m8]
          simp [a1, a2]
        · have a1 : ¬ 16 + k = k := by omega
          have a2 : ¬ 16 + k = 8 + k := by omega
          have a3 : ¬ 16 + k < 8 := by omega
          have a4 : ¬ 16 + k < 16 := by omega
          rw [if_neg a3, if_neg a4, Nat.add_sub_cancel_left]
          have m8 : (16 + k) % 8 = k := z
          rw [m8]
          simp [a1, a2]
      · have a1 : ¬ b = k := by omega
        have a2 : ¬ b = 8 + k := by omega
        have a3 : ¬ b = 16 + k := by omega
        by_cases y : b % 8 < k
        · have n2 : b % 8 < k + 1 := by omega
          simp [a1, a2, a3, y, n2]
        · have n2 : ¬ b % 8 < k + 1 := by omega
          simp [a1, a2, a3, y, n2]
theorem weigh_eq (s : Wt) {i : Nat} (hi6 : i < 6) (hi : ¬ m_X7_has (Sc.sz (Wt.c s)) (nI i) = 0) (hk : vp_in (Sc.kd (Wt.c s) i) 7) {cn tt : Int32} (hc : m_J6_bitCount_0f7a4 (Sc.kn (Wt.c s) i) = cn) (ht : (Sc.ti (Wt.c s) - Sc.ti (Wt.c s) / nI 10 * nI 10) = tt) : WB (Wt.c s) (Wt.l s) i cn tt (m_X1_weigh s (nI i)).1 :=
  weigh_l s hi6 hi hk hc ht 9 0 (nI 0) (nI 0) s (by decide) rfl rfl rfl rfl (fun b hb => by rw [gb_0]; simp)

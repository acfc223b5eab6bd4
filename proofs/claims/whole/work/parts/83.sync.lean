/-! class and check go on side by side -/
theorem outB_b (ou : Int32) (p : Nat) : m_X7_isOut ou (nI p) = b2i (outB ou p) := by
  unfold outB
  exact bl_b2i bl_X7_isOut
theorem tells_s {m m' : Ms} (hh : hH m) (k : ∀ i, 7 ≤ i → Ms.s m' i = Ms.s m i) (b : Nat) (z : Int32) (hb : 7 ≤ b) (hb2 : b < 900) : m_X12_tellsOf (Ms.s m') (nI b) z = m_X12_tellsOf (Ms.s m) (nI b) z := by
  have e23 : Ms.s m' (nI 23).toNatClampNeg = Ms.s m (nI 23).toNatClampNeg := k _ (by rw [c23]; decide)
  unfold m_X12_tellsOf
  rw [e23]
  by_cases c : Ms.s m (nI 23).toNatClampNeg = (-nI 1)
  · rw [if_pos c, if_pos c]
  · rw [if_neg c, if_neg c]
    apply k
    obtain ⟨q, hq, e⟩ := vp_in_of (hh c) (by decide)
    rw [e, nI_add, nI_clamp (by omega)]
    omega
/-- the class's school W and the check m, side by side -/
def Sy (W : Wt) (m : Ms) (U T : Nat) (X : Nat → Nat) : Prop :=
  (U ≤ 6 ∧ Sc.sz (Wt.c W) = nI U ∧ Ms.s m 17 = nI U) ∧ (T ≤ 1000000 ∧ Sc.ti (Wt.c W) = nI T ∧ Ms.s m 0 = nI T) ∧
  (∀ p, p < U → X p < 256 ∧ Sc.kn (Wt.c W) p = nI (X p) ∧ Ms.s m (1 + p) = nI (X p)) ∧ SR (Wt.c W) m U ∧
  SO m (Lg.st (Wt.l W)) (Lg.sz (Wt.l W)) ∧ CK m (Lg.st (Wt.l W)) (Lg.sz (Wt.l W)) ∧ SK W ∧
  (∃ R, R < 1000 ∧ Lg.ke (Wt.l W) = nI R ∧ m_X12_tellsOf (Ms.s m) (nI 212) (nI 4) = nI R) ∧ (m_X12_tellsOf (Ms.s m) (nI 217) (nI 6) = Lg.pa (Wt.l W) ∧ 0 ≤ Lg.pa (Wt.l W)) ∧
  hH m ∧ hK (Sc.sz (Wt.c W)) (Sc.kd (Wt.c W)) ∧ (∀ k, k < 4 → ∃ j, j ≤ 8 ∧ Sc.le (Wt.c W) k = nI j ∧ Ms.s m (13 + k) = if j = 8 then (-nI 5) else nI j)
/-- what a lesson is, to both -/
def LeR (le : Nat) (lm : Int32) : Prop := le ≤ 8 ∧ ∀ f, f < 8 → (lm = nI f ↔ f = le)
theorem Sy.step {W : Wt} {m : Ms} {U T : Nat} {X : Nat → Nat} (h : Sy W m U T X) {le : Nat} {lm : Int32} (hl : LeR le lm) (hT : T + 1 ≤ 1000000) : ∃ X', Sy (m_X7_goTide W (nI le)) (m_X12_goesBy m lm) U (T + 1) X' := by
  obtain ⟨⟨u1, u2, u3⟩, ⟨t1, t2, t3⟩, hX, sr, so, ck, sk, ⟨R, r1, r2, r3⟩, ⟨p1, p2⟩, hh, hk, les⟩ := h
  have gt := goTide_eq (s := W) (le := le) u1 u2 t2 t1 (fun p hp => (hX p hp).2.1) (fun p hp => (hX p hp).1) r2 r1 hl.1 hk sk
  have gb := goesBy_eq so ck lm u1 u3 t3 t1 (fun p hp => (hX p hp).2.2) r3 r1
  have tw := gl_goTide (s := W) (le := nI le) rfl
  have te := tide_eq so rfl rfl (T := T) (R := R) u1 u3 sr (fun p hp => (hX p hp).2.2) (fun p hp => (hX p hp).1) p1 p2 hl.2
  obtain ⟨tl, ⟨w1, w2, w3, w4, w5, w6, w7, w8, w9⟩, wt⟩ := tw
  have s7 : ∀ i, 7 ≤ i → Ms.s (m_X12_goesBy m lm) i = Ms.s m i := fun i hi => gb.2.1 i (by omega)
  refine ⟨nxc (Wt.c W) (Wt.l W) U T R le X, ⟨u1, by rw [w6]; exact u2, by rw [s7 17 (by decide)]; exact u3⟩, ⟨hT, by rw [wt, t2]; exact nI_add T 1, gb.2.2.1⟩, fun p hp => ⟨?_, gt.1 p hp, by rw [gb.1 p hp, te p hp]⟩, ?_, ?_, ?_, gt.2, ⟨R, r1, by rw [tl]; exact r2, by rw [tells_s hh s7 212 _ (by decide) (by decide)]; exact r3⟩, ⟨by rw [tells_s hh s7 217 _ (by decide) (by decide), tl]; exact p1, by rw [tl]; exact p2⟩, ?_, by rw [w6, w2]; exact hk, fun k hk4 => ?_⟩
  · rw [← te p hp]; exact nxt_lt (hX p hp).1
  · intro p hp
    obtain ⟨a1, a2, a3, a4, a5, a6, a7⟩ := sr p hp
    rw [s7 (24 + p) (by omega), s7 (30 + p) (by omega), s7 (7 + p) (by omega), w2, w3, w4, w7]
    exact ⟨a1, a2, fun k hk4 => by rw [s7 _ (by omega)]; exact a3 k hk4, a4, a5, a6, a7⟩
  · rw [tl]; exact so.kp hh s7 (by decide)
  · rw [tl]; exact gb.2.2.2
  · unfold hH at *
    rw [c23] at *
    rw [s7 23 (by decide)]; exact hh
  · obtain ⟨j, j1, j2, j3⟩ := les k hk4
    exact ⟨j, j1, by rw [w5]; exact j2, by rw [s7 (13 + k) (by omega)]; exact j3⟩
theorem LeR.of {j : Nat} (h : j ≤ 8) : LeR j (if j = 8 then (-nI 5) else nI j) := by
  refine ⟨h, fun f hf => ?_⟩
  by_cases z : j = 8
  · rw [if_pos z]
    constructor
    · intro q
      have := congrArg Int32.toInt q
      rw [nI_toInt (by omega), show (-nI 5 : Int32).toInt = -5 by decide] at this
      omega
    · intro q; omega
  · rw [if_neg z]
    constructor
    · intro q
      exact (nI_inj q (by omega) (by omega)).symm
    · intro q; rw [q]
theorem Sy.lesson {W : Wt} {m : Ms} {U T : Nat} {X : Nat → Nat} (h : Sy W m U T X) : ∃ j, m_X7_lessonNow (Sc.le (Wt.c W)) (Sc.ti (Wt.c W)) = nI j ∧ LeR j (Ms.s m (nI 13 + ((Ms.s m (nI 0).toNatClampNeg) - (Ms.s m (nI 0).toNatClampNeg) / nI 4 * nI 4)).toNatClampNeg) := by
  obtain ⟨-, ⟨t1, t2, t3⟩, -, -, -, -, -, -, -, -, -, les⟩ := h
  have hm : T % 4 < 4 := Nat.mod_lt T (by decide)
  obtain ⟨j, j1, j2, j3⟩ := les (T % 4) hm
  refine ⟨j, ?_, ?_⟩
  · unfold m_X7_lessonNow
    rw [t2, pk_rem (by omega) (by decide) (by decide), if_neg (show ¬ nI (T % 4) < 0 from Int32.not_lt.mpr (nI_le (Nat.zero_le _) (by omega))), nI_clamp (by omega)]
    exact j2
  · rw [c0, t3, pk_rem (by omega) (by decide) (by decide), nI_add, nI_clamp (by omega), j3]
    exact LeR.of j1
/-- one tide, of both -/
theorem Sy.goes {W : Wt} {m : Ms} {U T : Nat} {X : Nat → Nat} (h : Sy W m U T X) (hT : T + 1 ≤ 1000000) : ∃ X', Sy (m_X7_goTide W (m_X7_lessonNow (Sc.le (Wt.c W)) (Sc.ti (Wt.c W)))) (m_X12_goes m) U (T + 1) X' := by
  obtain ⟨j, e, l⟩ := h.lesson
  rw [e]
  exact h.step l hT
theorem all_l {c : Sc} {f : Fn} {U : Nat} {X : Nat → Nat} (hU : U ≤ 6) (u2 : Sc.sz c = nI U) (u3 : f 17 = nI U) (hX : ∀ p, p < U → Sc.kn c p = nI (X p) ∧ f (1 + p) = nI (X p)) (ho : ∀ p, p < U → f (7 + p) = b2i (outB (Sc.ou c) p)) : ∀ (n k : Nat) (a i : Int32), k ≤ U → n + k = 7 → i = nI k → l_X7_all_4 (Sc.kn c) (Sc.sz c) (Sc.ou c) n a i = l_X12_knownByAny_4 f n a i := by
  intro n
  induction n with
  | zero => intro k a i h1 h2; omega
  | succ n ih =>
    intro k a i h1 h2 h3
    rw [q_X7_all_4, q_X12_knownByAny_4, u2, c17, u3]
    by_cases c : nI U ≤ i
    · rw [if_pos c, if_pos c]
    · rw [if_neg c, if_neg c]
      rw [h3, nI_leI (by omega) (by omega)] at c
      rw [if_neg (fun q => by rw [h3, nI_leI (by decide) (by omega)] at q; omega)]
      have e7 : (nI 7 + i).toNatClampNeg = 7 + k := by rw [h3, nI_add, nI_clamp (by omega)]
      have e1 : (nI 1 + i).toNatClampNeg = 1 + k := by rw [h3, nI_add, nI_clamp (by omega)]
      have ei : i.toNatClampNeg = k := by rw [h3, nI_clamp (by omega)]
      rw [e7, e1, ei, ho k (by omega), (hX k (by omega)).1, (hX k (by omega)).2, h3, outB_b]
      unfold bindv
      rw [← u2]
      exact ih (k + 1) _ _ (by omega) (by omega) (nI_add k 1)
theorem held_l2 {c : Sc} {f : Fn} {U : Nat} {X : Nat → Nat} (hU : U ≤ 6) (u2 : Sc.sz c = nI U) (u3 : f 17 = nI U) (hX : ∀ p, p < U → X p < 256 ∧ Sc.kn c p = nI (X p) ∧ f (1 + p) = nI (X p)) (ho : ∀ p, p < U → f (7 + p) = b2i (outB (Sc.ou c) p)) : ∀ (n k : Nat) (a i : Int32), k ≤ U → n + k = 7 → i = nI k → l_X7_held_4 (Sc.kn c) (Sc.sz c) (Sc.ou c) n a i = l_X12_heldByAll_4 f n a i := by
  intro n
  induction n with
  | zero => intro k a i h1 h2; omega
  | succ n ih =>
    intro k a i h1 h2 h3
    rw [q_X7_held_4, q_X12_heldByAll_4, u2, c17, u3]
    by_cases c : nI U ≤ i
    · rw [if_pos c, if_pos c]
    · rw [if_neg c, if_neg c]
      rw [h3, nI_leI (by omega) (by omega)] at c
      rw [if_neg (fun q => by rw [h3, nI_leI (by decide) (by omega)] at q; omega)]
      have e7 : (nI 7 + i).toNatClampNeg = 7 + k := by rw [h3, nI_add, nI_clamp (by omega)]
      have e1 : (nI 1 + i).toNatClampNeg = 1 + k := by rw [h3, nI_add, nI_clamp (by omega)]
      have ei : i.toNatClampNeg = k := by rw [h3, nI_clamp (by omega)]
      obtain ⟨x1, x2, x3⟩ := hX k (by omega)
      rw [e7, e1, ei, ho k (by omega), x2, x3, h3, outB_b, cnt_eq _ x1]
      unfold bindv
      rw [← u2]
      exact ih (k + 1) _ _ (by omega) (by omega) (nI_add k 1)
theorem Sy.all {W : Wt} {m : Ms} {U T : Nat} {X : Nat → Nat} (h : Sy W m U T X) : m_X7_all (Sc.kn (Wt.c W)) (Sc.sz (Wt.c W)) (Sc.ou (Wt.c W)) = m_X12_knownByAny (Ms.s m) :=
  all_l h.1.1 h.1.2.1 h.1.2.2 (fun p hp => (h.2.2.1 p hp).2) (fun p hp => (h.2.2.2.1 p hp).2.2.2.1) 7 0 _ _ (Nat.zero_le _) rfl rfl
theorem Sy.held {W : Wt} {m : Ms} {U T : Nat} {X : Nat → Nat} (h : Sy W m U T X) : m_X7_held (Sc.kn (Wt.c W)) (Sc.sz (Wt.c W)) (Sc.ou (Wt.c W)) = m_X12_heldByAll (Ms.s m) :=
  held_l2 h.1.1 h.1.2.1 h.1.2.2 h.2.2.1 (fun p hp => (h.2.2.2.1 p hp).2.2.2.1) 7 0 _ _ (Nat.zero_le _) rfl rfl

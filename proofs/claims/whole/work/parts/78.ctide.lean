/-! a tide of the class -/
def iy (i c t : Nat) : Nat := (i * 9 + c) * 10 + t
theorem iy_inj {i c t i' c' t' : Nat} (h : iy i c t = iy i' c' t') (hc : c ≤ 8) (ht : t < 10) (hc' : c' ≤ 8) (ht' : t' < 10) : i = i' ∧ c = c' ∧ t = t' := by
  unfold iy at h
  have a1 : t = t' := by omega
  have a2 : c = c' := by omega
  have a3 : i = i' := by omega
  exact ⟨a3, a2, a1⟩
/-- what is kept of weighing is right -/
def SK (s : Wt) : Prop := ∀ i c t, i < 6 → c ≤ 8 → t < 10 → Wt.st s (iy i c t) = (-nI 1) ∨ WB (Wt.c s) (Wt.l s) i (nI c) (nI t) (Wt.st s (iy i c t))
theorem WB.ch {c c' : Sc} {l : Lg} {i : Nat} {cn tt w : Int32} (h : WB c l i cn tt w) (e1 : Sc.kd c' = Sc.kd c) (e2 : Sc.vv c' = Sc.vv c) (e3 : Sc.rw c' = Sc.rw c) : WB c' l i cn tt w := by
  intro b hb
  rw [h b hb]
  unfold tb oc
  rw [e1, e2, e3]
theorem setsOf_eq {s : Wt} (sk : SK s) {i X C T : Nat} (hi6 : i < 6) (hi : ¬ m_X7_has (Sc.sz (Wt.c s)) (nI i) = 0) (hk : vp_in (Sc.kd (Wt.c s) i) 7) (hX : Sc.kn (Wt.c s) i = nI X) (hC : m_J6_bitCount_0f7a4 (nI X) = nI C) (hC2 : C ≤ 8) (hT : Sc.ti (Wt.c s) = nI T) (hT2 : T ≤ 1000000) :
    WB (Wt.c s) (Wt.l s) i (nI C) (nI (T % 10)) (m_X1_setsOf s (nI i)).1 ∧ SK (m_X1_setsOf s (nI i)).2 := by
  have ht : T % 10 < 10 := Nat.mod_lt T (by decide)
  have ei : (nI i).toNatClampNeg = i := nI_clamp (by omega)
  have em : (nI T - nI T / nI 10 * nI 10 : Int32) = nI (T % 10) := pk_rem (by omega) (by decide) (by decide)
  have ex : (((nI i * nI 9) + nI C) * nI 10) + nI (T % 10) = nI (iy i C (T % 10)) := by
    rw [pk_mul, nI_add, pk_mul, nI_add]; rfl
  have hx : iy i C (T % 10) < 540 := by unfold iy; omega
  unfold m_X1_setsOf
  rw [if_neg hi, ei, hX, hC, hT, em, ex, if_neg (show ¬ nI (iy i C (T % 10)) < 0 from Int32.not_lt.mpr (nI_le (Nat.zero_le _) (by omega))), if_pos (nI_lt hx (by decide)), nI_clamp (by omega : iy i C (T % 10) < 2 ^ 31)]
  have w := weigh_eq s hi6 hi hk (cn := nI C) (tt := nI (T % 10)) (by rw [hX]; exact hC) (by rw [hT]; exact em)
  have g := ef_weigh (s := s) (i := nI i) rfl hi
  by_cases c : Wt.st s (iy i C (T % 10)) = (-nI 1)
  · rw [if_pos c]
    generalize m_X1_weigh s (nI i) = r at w g ⊢
    rw [bindv]
    refine ⟨?_, ?_⟩
    · show WB (Wt.c s) (Wt.l s) i (nI C) (nI (T % 10)) (upd (Wt.st r.2) (iy i C (T % 10)) r.1 (iy i C (T % 10)))
      rw [pk_us]; exact w
    · intro i' c' t' hi' hc' ht'
      show upd (Wt.st r.2) (iy i C (T % 10)) r.1 (iy i' c' t') = (-nI 1) ∨ WB (Wt.c r.2) (Wt.l r.2) i' (nI c') (nI t') (upd (Wt.st r.2) (iy i C (T % 10)) r.1 (iy i' c' t'))
      rw [g.1, g.2.1, g.2.2]
      by_cases z : iy i' c' t' = iy i C (T % 10)
      · obtain ⟨z1, z2, z3⟩ := iy_inj z hc' ht' hC2 ht
        rw [z, pk_us, z1, z2, z3]
        exact Or.inr w
      · rw [pk_un z]
        exact sk i' c' t' hi' hc' ht'
  · rw [if_neg c]
    exact ⟨(sk i C (T % 10) hi6 hC2 ht).resolve_left c, sk⟩
theorem gb_shr8 (x : Int32) {j : Nat} (hj : j < 23) : (x >>> (nI 8 &&& 31)).toBitVec.getLsbD j = x.toBitVec.getLsbD (8 + j) := by
  rw [Int32.toBitVec_shiftRight]
  have e : ((nI 8 &&& 31 : Int32).toBitVec.smod 32) = 8#32 := by decide
  rw [e, BitVec.sshiftRight_eq', BitVec.getLsbD_sshiftRight]
  simp only [show (8#32).toNat = 8 from rfl]
  have h1 : ¬ 32 ≤ j := by omega
  have h2 : 8 + j < 32 := by omega
  simp [h1, h2]
theorem gb_shr16 (x : Int32) {j : Nat} (hj : j < 15) : (x >>> (nI 16 &&& 31)).toBitVec.getLsbD j = x.toBitVec.getLsbD (16 + j) := by
  rw [Int32.toBitVec_shiftRight]
  have e : ((nI 16 &&& 31 : Int32).toBitVec.smod 32) = 16#32 := by decide
  rw [e, BitVec.sshiftRight_eq', BitVec.getLsbD_sshiftRight]
  simp only [show (16#32).toNat = 16 from rfl]
  have h1 : ¬ 32 ≤ j := by omega
  have h2 : 16 + j < 32 := by omega
  simp [h1, h2]
theorem gb_nI (x b : Nat) : (nI x).toBitVec.getLsbD b = (decide (b < 32) && x.testBit b) := by
  show (BitVec.ofNat 32 x).getLsbD b = _
  rw [BitVec.getLsbD_ofNat]
theorem gb_255 : ∀ b, b < 32 → (nI 255).toBitVec.getLsbD b = decide (b < 8) := by decide +kernel
theorem gb_hi {x : Int32} (h : ∀ b, 8 ≤ b → b < 32 → x.toBitVec.getLsbD b = false) : ∃ n, n < 256 ∧ x = nI n ∧ ∀ b, b < 8 → n.testBit b = x.toBitVec.getLsbD b := by
  refine ⟨x.toBitVec.toNat, ?_, ?_, fun b _ => BitVec.testBit_toNat x.toBitVec⟩
  · refine Nat.lt_pow_two_of_testBit (n := 8) _ fun b hb => ?_
    rw [BitVec.testBit_toNat]
    by_cases z : b < 32
    · exact h b hb z
    · exact BitVec.getLsbD_of_ge _ _ (by omega)
  · apply Int32.toBitVec_inj.mp
    show x.toBitVec = BitVec.ofNat 32 x.toBitVec.toNat
    rw [BitVec.ofNat_toNat]
    simp
/-- which facts one knows next, but for room, by the class -/
def Qt (so pa : Int32) (X le : Nat) (nb : Int32) (f : Nat) : Bool := (X.testBit f && so.toBitVec.getLsbD f) || (decide (f = le) && so.toBitVec.getLsbD (8 + f)) || (nb.toBitVec.getLsbD f && so.toBitVec.getLsbD (16 + f))
theorem next_set {so pa lv rv : Int32} {X le : Nat} (hX : X < 256) (hle : le ≤ 8) (hl : ∀ b, 8 ≤ b → b < 32 → (lv ||| rv).toBitVec.getLsbD b = false) : ∃ n, n < 256 ∧ (((nI X &&& so) ||| (((nI 1 <<< (nI le &&& 31)) &&& (so >>> (nI 8 &&& 31))) &&& nI 255)) ||| ((lv ||| rv) &&& (so >>> (nI 16 &&& 31)))) = nI n ∧ ∀ b, b < 8 → n.testBit b = Qt so pa X le (lv ||| rv) b := by
  have hXb : ∀ b, 8 ≤ b → X.testBit b = false := fun b hb => Nat.testBit_lt_two_pow (Nat.lt_of_lt_of_le hX (Nat.pow_le_pow_right (by decide : 0 < 2) hb))
  obtain ⟨n, h1, h2, h3⟩ := gb_hi (x := (((nI X &&& so) ||| (((nI 1 <<< (nI le &&& 31)) &&& (so >>> (nI 8 &&& 31))) &&& nI 255)) ||| ((lv ||| rv) &&& (so >>> (nI 16 &&& 31))))) (by
    intro b hb hb2
    rw [gb_or, gb_or, gb_and, gb_and, gb_and, gb_and, gb_nI, hXb b hb, hl b hb hb2, gb_255 b hb2]
    have : ¬ b < 8 := by omega
    simp [this])
  refine ⟨n, h1, h2, fun b hb => ?_⟩
  rw [h3 b hb, gb_or, gb_or, gb_and, gb_and, gb_and, gb_and, gb_nI, gb_shr8 _ (by omega), gb_shr16 _ (by omega), gb_255 b (by omega), sh1 le (by omega) b (by omega)]
  unfold Qt
  have a1 : b < 32 := by omega
  simp [a1, hb]

/-! the two tides agree -/
theorem kb_eq : ∀ x, x < 256 → ∀ f, f < 8 → kb x f = x.testBit f := by decide +kernel
/-- a school of the class and the check's numbers, but for what is known and the tide -/
def SR (c : Sc) (m : Ms) (U : Nat) : Prop := ∀ p, p < U → Ms.s m (24 + p) = Sc.kd c p ∧ Ms.s m (30 + p) = Sc.vv c p ∧ (∀ k, k < 4 → Ms.s m (36 + 4 * p + k) = Sc.rw c (p * 4 + k)) ∧ Ms.s m (7 + p) = b2i (outB (Sc.ou c) p) ∧ vp_in (Sc.kd c p) 7 ∧ bnd (Sc.vv c p) 9 ∧ (∀ k, k < 4 → bnd (Sc.rw c (p * 4 + k)) 9)
theorem passed_eq {c : Sc} {m : Ms} {U : Nat} (hU : U ≤ 6) (hu : Ms.s m 17 = nI U) (sr : SR c m U) {X : Nat → Nat} (hX : ∀ p, p < U → Ms.s m (1 + p) = nI (X p)) (hX2 : ∀ p, p < U → X p < 256) {p f : Nat} (hp : p < U) (hf : f < 8) : decide (¬ m_X12_isPassed (Ms.s m) (nI p) (nI f) = 0) = ((lft (Sc.ou c) X p).testBit f || (rgt (Sc.ou c) U X p).testBit f) := by
  have el : (if nI p ≤ 0 then nI 0 else (if Ms.s m ((nI 7 + nI p) - nI 1).toNatClampNeg = 0 then (if ((Ms.s m ((nI 1 + nI p) - nI 1).toNatClampNeg) >>> (nI f &&& 31)) &&& nI 1 = nI 1 then nI 1 else nI 0) else nI 0)) = b2i ((lft (Sc.ou c) X p).testBit f) := by
    unfold lft
    by_cases z : p = 0
    · subst z
      rw [if_pos (show nI 0 ≤ 0 from Int32.le_refl _), if_pos rfl]
      simp [b2i]
    · rw [if_neg (fun q => by have q2 : nI p ≤ nI 0 := q; rw [nI_leI (by omega) (by decide)] at q2; omega), if_neg z]
      have a1 : ((nI 7 + nI p) - nI 1).toNatClampNeg = 7 + (p - 1) := by rw [nI_add, pk_sub (by omega), nI_clamp (by omega)]; omega
      have a2 : ((nI 1 + nI p) - nI 1).toNatClampNeg = 1 + (p - 1) := by rw [nI_add, pk_sub (by omega), nI_clamp (by omega)]; omega
      rw [a1, a2, (sr (p - 1) (by omega)).2.2.2.1, hX (p - 1) (by omega)]
      by_cases o : outB (Sc.ou c) (p - 1) = true
      · rw [o, if_neg (show ¬ b2i true = 0 by decide), if_pos rfl]
        simp [b2i]
      · have o2 : outB (Sc.ou c) (p - 1) = false := by simpa using o
        rw [o2, if_pos (show b2i false = 0 from rfl), if_neg (show ¬ false = true by decide)]
        have k := kb_eq (X (p - 1)) (hX2 _ (by omega)) f hf
        unfold kb at k
        rw [← k]
        by_cases y : (nI (X (p - 1)) >>> (nI f &&& 31)) &&& nI 1 = nI 1
        · rw [if_pos y]; simp [y, b2i]
        · rw [if_neg y]; simp [y, b2i]
  have er : (if Ms.s m (nI 17).toNatClampNeg ≤ (nI p + nI 1) then nI 0 else (if Ms.s m ((nI 7 + nI p) + nI 1).toNatClampNeg = 0 then (if ((Ms.s m ((nI 1 + nI p) + nI 1).toNatClampNeg) >>> (nI f &&& 31)) &&& nI 1 = nI 1 then nI 1 else nI 0) else nI 0)) = b2i ((rgt (Sc.ou c) U X p).testBit f) := by
    rw [c17, hu, nI_add]
    unfold rgt
    by_cases z : U ≤ p + 1
    · rw [if_pos (nI_le z (by omega)), if_pos z]
      simp [b2i]
    · rw [if_neg (fun q => by rw [nI_leI (by omega) (by omega)] at q; omega), if_neg z]
      have a1 : ((nI 7 + nI p) + nI 1).toNatClampNeg = 7 + (p + 1) := by rw [nI_add, nI_add, nI_clamp (by omega)]; omega
      have a2 : ((nI 1 + nI p) + nI 1).toNatClampNeg = 1 + (p + 1) := by rw [nI_add, nI_add, nI_clamp (by omega)]; omega
      rw [a1, a2, (sr (p + 1) (by omega)).2.2.2.1, hX (p + 1) (by omega)]
      by_cases o : outB (Sc.ou c) (p + 1) = true
      · rw [o, if_neg (show ¬ b2i true = 0 by decide), if_pos rfl]
        simp [b2i]
      · have o2 : outB (Sc.ou c) (p + 1) = false := by simpa using o
        rw [o2, if_pos (show b2i false = 0 from rfl), if_neg (show ¬ false = true by decide)]
        have k := kb_eq (X (p + 1)) (hX2 _ (by omega)) f hf
        unfold kb at k
        rw [← k]
        by_cases y : (nI (X (p + 1)) >>> (nI f &&& 31)) &&& nI 1 = nI 1
        · rw [if_pos y]; simp [y, b2i]
        · rw [if_neg y]; simp [y, b2i]
  unfold m_X12_isPassed
  rw [el, er]
  generalize (lft (Sc.ou c) X p).testBit f = a
  generalize (rgt (Sc.ou c) U X p).testBit f = b
  cases a <;> cases b <;> rfl
theorem tide_eq {c : Sc} {l : Lg} {m : Ms} {st : Fn} {sz : Int32} (so : SO m st sz) (est : Lg.st l = st) (esz : Lg.sz l = sz) {U T R le : Nat} {lm : Int32} {X : Nat → Nat} (hU : U ≤ 6) (hu : Ms.s m 17 = nI U) (sr : SR c m U) (hX : ∀ p, p < U → Ms.s m (1 + p) = nI (X p)) (hX2 : ∀ p, p < U → X p < 256) (hps : m_X12_tellsOf (Ms.s m) (nI 217) (nI 6) = Lg.pa l) (hp0 : 0 ≤ Lg.pa l) (hle : ∀ f, f < 8 → (lm = nI f ↔ f = le)) : ∀ p, p < U → nxt m st sz lm T R X p = nxc c l U T R le X p := by
  intro p hp
  obtain ⟨s1, s2, s3, s4, s5, s6, s7⟩ := sr p hp
  unfold nxt nxc
  rw [s4]
  by_cases o : outB (Sc.ou c) p = true
  · rw [o, if_pos (show b2i true = nI 1 from rfl), if_pos rfl]
  · have o2 : outB (Sc.ou c) p = false := by simpa using o
    rw [o2, if_neg (show ¬ b2i false = nI 1 by decide), if_neg (by decide)]
    refine sel_congr 8 0 R 0 fun f hf => ?_
    have hf8 : f < 8 := by omega
    have hm : f % 4 < 4 := Nat.mod_lt f (by decide)
    unfold Qn Qc hq oc
    rw [passed_eq hU hu sr hX hX2 hp hf8, kb_eq _ (hX2 p hp) f hf8, hps, s1, s2, s3 _ hm, est, esz]
    have cn := cnt_is (X p)
    rw [qm_eq (msum_bnd _ _ _ _ _ _ so) s6 (bnd_nI cn.2 (by decide)) (s7 _ hm) hp0]
    have : decide (lm = nI f) = decide (f = le) := by rw [decide_eq_decide]; exact hle f hf8
    rw [this]

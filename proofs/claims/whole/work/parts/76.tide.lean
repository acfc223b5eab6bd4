/-! a tide of the check -/
def cnt (x : Nat) : Nat := (m_X12_countOf (nI x)).toNatClampNeg
theorem cnt_is (x : Nat) : m_X12_countOf (nI x) = nI (cnt x) ∧ cnt x ≤ 8 := by
  obtain ⟨k, hk, e⟩ := rl_count (nI x)
  unfold cnt
  rw [e, nI_clamp (by omega)]
  exact ⟨rfl, hk⟩
/-- what one knows behind the tide -/
def nxt (m : Ms) (st : Fn) (sz le : Int32) (T R : Nat) (X : Nat → Nat) (p : Nat) : Nat := if Ms.s m (7 + p) = nI 1 then X p else sel (Qn m st sz le p (cnt (X p)) T (X p)) 8 0 R 0
theorem g57 (m : Ms) (le p : Int32) (m1 : Ms) {U : Nat} (hU : U ≤ 6) : ∀ (n k : Nat) (b : Int32) (s1 : Fn), k ≤ U → n + k = 7 → b = nI k → s1 17 = nI U → (∀ j, j < k → s1 (1 + j) = Ms.nx m1 j) → (∀ i, ¬ (1 ≤ i ∧ i ≤ k) → s1 i = Ms.s m1 i) →
    (∀ j, j < U → Ms.s (l_X12_goesBy_57 m le p m1 n b s1) (1 + j) = Ms.nx m1 j) ∧ (∀ i, ¬ (i ≤ U) → Ms.s (l_X12_goesBy_57 m le p m1 n b s1) i = Ms.s m1 i) ∧ Ms.s (l_X12_goesBy_57 m le p m1 n b s1) 0 = Ms.s m1 0 + nI 1 ∧ Ms.su (l_X12_goesBy_57 m le p m1 n b s1) = Ms.su m1 ∧ Ms.lf (l_X12_goesBy_57 m le p m1 n b s1) = Ms.lf m1 ∧ Ms.lk (l_X12_goesBy_57 m le p m1 n b s1) = Ms.lk m1 := by
  intro n
  induction n with
  | zero => intro k b s1 h1 h2; omega
  | succ n ih =>
    intro k b s1 h1 h2 h3 h4 h5 h6
    rw [q_X12_goesBy_57]
    by_cases c : s1 (nI 17).toNatClampNeg ≤ b
    · rw [if_pos c]
      rw [c17, h4, h3, nI_leI (by omega) (by omega)] at c
      have : k = U := by omega
      subst this
      refine ⟨fun j hj => ?_, fun i hi => ?_, ?_, rfl, rfl, rfl⟩
      · show upd s1 (nI 0).toNatClampNeg (s1 (nI 0).toNatClampNeg + nI 1) (1 + j) = _
        rw [c0, pk_un (by omega)]; exact h5 j hj
      · show upd s1 (nI 0).toNatClampNeg (s1 (nI 0).toNatClampNeg + nI 1) i = _
        rw [c0, pk_un (by omega)]; exact h6 i (by omega)
      · show upd s1 (nI 0).toNatClampNeg (s1 (nI 0).toNatClampNeg + nI 1) 0 = _
        rw [c0, pk_us, h6 0 (by omega)]
    · rw [if_neg c]
      rw [c17, h4, h3, nI_leI (by omega) (by omega)] at c
      have e3 : (nI 1 + b).toNatClampNeg = 1 + k := by rw [h3, nI_add, nI_clamp (by omega)]
      have e4 : b.toNatClampNeg = k := by rw [h3, nI_clamp (by omega)]
      rw [e3, e4]
      refine ih (k + 1) _ _ (by omega) (by omega) (by rw [h3]; exact nI_add k 1) (by rw [pk_un (by omega)]; exact h4) (fun j hj => ?_) (fun i hi => ?_)
      · by_cases z : j = k
        · rw [z, pk_us]
        · rw [pk_un (by omega)]; exact h5 j (by omega)
      · rw [pk_un (by omega)]; exact h6 i (by omega)
theorem g2 {m : Ms} {st : Fn} {sz : Int32} (so : SO m st sz) (le : Int32) {U T R : Nat} {X : Nat → Nat} (hU : U ≤ 6) (hu : Ms.s m 17 = nI U) (hT : Ms.s m 0 = nI T) (hT2 : T ≤ 1000000) (hX : ∀ p, p < U → Ms.s m (1 + p) = nI (X p)) (hR : m_X12_tellsOf (Ms.s m) (nI 212) (nI 4) = nI R) (hR2 : R < 1000) : ∀ (n k : Nat) (p : Int32) (m1 : Ms), k ≤ U → n + k = 7 → p = nI k → Cn m m1 → CK m1 st sz → (∀ j, j < k → Ms.nx m1 j = nI (nxt m st sz le T R X j)) →
    (∀ j, j < U → Ms.s (l_X12_goesBy_2 m le n p m1) (1 + j) = nI (nxt m st sz le T R X j)) ∧ (∀ i, ¬ (i ≤ U) → Ms.s (l_X12_goesBy_2 m le n p m1) i = Ms.s m i) ∧ Ms.s (l_X12_goesBy_2 m le n p m1) 0 = nI (T + 1) ∧ CK (l_X12_goesBy_2 m le n p m1) st sz := by
  intro n
  induction n with
  | zero => intro k p m1 h1 h2; omega
  | succ n ih =>
    intro k p m1 h1 h2 h3 h4 h5 h6
    have s1 : Ms.s m1 = Ms.s m := h4.1
    rw [q_X12_goesBy_2]
    by_cases c : Ms.s m1 (nI 17).toNatClampNeg ≤ p
    · rw [if_pos c]
      rw [c17, s1, hu, h3, nI_leI (by omega) (by omega)] at c
      have : k = U := by omega
      subst this
      have g := g57 m le p m1 hU 7 0 (nI 0) (Ms.s m1) (Nat.zero_le _) rfl rfl (by rw [s1]; exact hu) (fun j hj => by omega) (fun _ _ => rfl)
      refine ⟨fun j hj => by rw [g.1 j hj]; exact h6 j hj, fun i hi => by rw [g.2.1 i hi, s1], by rw [g.2.2.1, s1, hT]; exact nI_add T 1, ?_⟩
      exact h5.kp (fun i hi => g.2.1 i (by omega)) g.2.2.2.1 g.2.2.2.2.1 g.2.2.2.2.2
    · rw [if_neg c]
      rw [c17, s1, hu, h3, nI_leI (by omega) (by omega)] at c
      have e7 : (nI 7 + p).toNatClampNeg = 7 + k := by rw [h3, nI_add, nI_clamp (by omega)]
      have e1 : (nI 1 + p).toNatClampNeg = 1 + k := by rw [h3, nI_add, nI_clamp (by omega)]
      have ep : p.toNatClampNeg = k := by rw [h3, nI_clamp (by omega)]
      by_cases c2 : Ms.s m1 (nI 7 + p).toNatClampNeg = nI 1
      · rw [if_pos c2]
        rw [e7, s1] at c2
        refine ih (k + 1) _ _ (by omega) (by omega) (by rw [h3]; exact nI_add k 1) (h4.nx _) (h5.kp (fun _ _ => rfl) rfl rfl rfl) (fun j hj => ?_)
        show upd (Ms.nx m1) p.toNatClampNeg (Ms.s m1 (nI 1 + p).toNatClampNeg) j = _
        rw [ep, e1, s1]
        by_cases z : j = k
        · rw [z, pk_us, hX k (by omega)]
          unfold nxt
          rw [if_pos c2]
        · rw [pk_un z]; exact h6 j (by omega)
      · rw [if_neg c2]
        rw [e7, s1] at c2
        have kn := knownNext_eq (so.cq s1) h5 (R := R) le (show k < 6 by omega) (by rw [s1]; exact hT) hT2 (by rw [s1]; exact hX k (by omega)) (cnt_is (X k)).1 (cnt_is (X k)).2 (by rw [s1]; exact hR) hR2
        have cq := cq_knownNext m1 (nI k) le
        rw [← h3] at kn cq
        generalize m_X12_knownNext m1 p le = r at kn cq ⊢
        rw [Qn.cq s1] at kn
        unfold bindv
        refine ih (k + 1) _ _ (by omega) (by omega) (by rw [h3]; exact nI_add k 1) ((h4.tr cq.cn).nx _) (kn.2.kp (fun _ _ => rfl) rfl rfl rfl) (fun j hj => ?_)
        show upd (Ms.nx r.2) p.toNatClampNeg r.1 j = _
        rw [ep]
        by_cases z : j = k
        · rw [z, pk_us, kn.1]
          unfold nxt
          rw [if_neg c2]
        · rw [pk_un z, cq.2.2.2.2.2.1]; exact h6 j (by omega)
/-- A TIDE OF THE CHECK -/
theorem goesBy_eq {m : Ms} {st : Fn} {sz : Int32} (so : SO m st sz) (ck : CK m st sz) (le : Int32) {U T R : Nat} {X : Nat → Nat} (hU : U ≤ 6) (hu : Ms.s m 17 = nI U) (hT : Ms.s m 0 = nI T) (hT2 : T ≤ 1000000) (hX : ∀ p, p < U → Ms.s m (1 + p) = nI (X p)) (hR : m_X12_tellsOf (Ms.s m) (nI 212) (nI 4) = nI R) (hR2 : R < 1000) :
    (∀ j, j < U → Ms.s (m_X12_goesBy m le) (1 + j) = nI (nxt m st sz le T R X j)) ∧ (∀ i, ¬ (i ≤ U) → Ms.s (m_X12_goesBy m le) i = Ms.s m i) ∧ Ms.s (m_X12_goesBy m le) 0 = nI (T + 1) ∧ CK (m_X12_goesBy m le) st sz :=
  g2 so le hU hu hT hT2 hX hR hR2 7 0 (nI 0) m (Nat.zero_le _) rfl rfl (Cn.rf m) ck (fun j hj => by omega)
theorem nxt_lt {m : Ms} {st : Fn} {sz le : Int32} {T R : Nat} {X : Nat → Nat} {p : Nat} (h : X p < 256) : nxt m st sz le T R X p < 256 := by
  unfold nxt
  split
  · exact h
  · exact sel_lt _ 8 0 R 0 (by decide)

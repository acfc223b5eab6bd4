/-! what one knows behind a tide, by the check: as many as there is room for -/
theorem or_bit8 : ∀ k, k < 8 → ∀ x, x < 2 ^ k → nI x ||| (nI 1 <<< (nI k &&& 31)) = nI (x + 2 ^ k) := by decide +kernel
theorem sel_lt (Q : Nat → Bool) : ∀ (n f r a : Nat), a < 2 ^ f → sel Q n f r a < 2 ^ (f + n)
  | 0, _, _, _, h => h
  | n + 1, f, r, a, h => by
    have p : 2 ^ (f + 1) = 2 ^ f + 2 ^ f := by rw [Nat.pow_succ]; omega
    have e : f + (n + 1) = f + 1 + n := by omega
    unfold sel
    split
    · exact Nat.lt_of_lt_of_le h (Nat.pow_le_pow_right (by decide) (by omega))
    · split
      · rw [e]; exact sel_lt Q n (f + 1) (r - 1) _ (by omega)
      · rw [e]; exact sel_lt Q n (f + 1) r _ (by omega)
/-- which facts one knows next, but for room -/
def Qn (m : Ms) (st : Fn) (sz le : Int32) (P C T X : Nat) : Nat → Bool := fun f => qm (hq m st sz P f C T (kb X f)) (kb X f) (decide (le = nI f)) (decide (¬ m_X12_isPassed (Ms.s m) (nI P) (nI f) = 0)) (m_X12_tellsOf (Ms.s m) (nI 217) (nI 6))
theorem Qn.cq {m m1 : Ms} (h : Ms.s m1 = Ms.s m) (st : Fn) (sz le : Int32) (P C T X : Nat) : Qn m1 st sz le P C T X = Qn m st sz le P C T X := by
  unfold Qn hq
  rw [h]
theorem SO.cq {m m1 : Ms} {st : Fn} {sz : Int32} (h : SO m st sz) (e : Ms.s m1 = Ms.s m) : SO m1 st sz := by
  unfold SO HE at *
  rw [e]; exact h
theorem kn_l {m : Ms} {st : Fn} {sz : Int32} (so : SO m st sz) {P T C X : Nat} (le : Int32) (hP : P < 6) (hT : Ms.s m 0 = nI T) (hT2 : T ≤ 1000000) (hX : Ms.s m (1 + P) = nI X) (hC : m_X12_countOf (nI X) = nI C) (hC2 : C ≤ 8) : ∀ (n k R A : Nat) (a room f : Int32) (m1 : Ms), k ≤ 8 → n + k = 9 → f = nI k → a = nI A → A < 2 ^ k → room = nI R → R < 1000 → Cq m m1 → CK m1 st sz →
    (l_X12_knownNext_15 m (nI P) le n a room f m1).1 = nI (sel (Qn m st sz le P C T X) (8 - k) k R A) ∧ CK (l_X12_knownNext_15 m (nI P) le n a room f m1).2 st sz := by
  intro n
  induction n with
  | zero => intro k R A a room f m1 h1 h2; omega
  | succ n ih =>
    intro k R A a room f m1 h1 h2 h3 h4 h5 h6 h7 h8 h9
    rw [q_X12_knownNext_15]
    by_cases c : nI 8 ≤ f
    · rw [if_pos c]
      rw [h3, nI_leI (by decide) (by omega)] at c
      have : k = 8 := by omega
      subst this
      exact ⟨h4, h9⟩
    · rw [if_neg c]
      have hk : k < 8 := cnt_lt h3 h1 (by decide) c
      have e8 : 8 - k = (7 - k) + 1 := by omega
      by_cases c2 : room ≤ 0
      · rw [if_pos c2]
        have : R = 0 := by
          rw [h6] at c2
          have c3 : nI R ≤ nI 0 := c2
          rw [nI_leI (by omega) (by decide)] at c3
          omega
        subst this
        refine ⟨?_, h9⟩
        rw [e8]
        unfold sel
        rw [if_pos rfl]; exact h4
      · rw [if_neg c2]
        have hR : R ≠ 0 := by
          intro z
          subst z
          rw [h6] at c2
          exact c2 (Int32.le_refl _)
        have kn := known_eq (so.cq h8.1) h9 (le := le) hP hk (by rw [h8.1]; exact hT) hT2 (by rw [h8.1]; exact hX) hC hC2
        have cq := cq_isKnownNext m1 (nI P) (nI k) le
        rw [h3]
        generalize m_X12_isKnownNext m1 (nI P) (nI k) le = r at kn cq ⊢
        have v : r.1 = b2i (Qn m st sz le P C T X k) := by rw [← Qn.cq h8.1]; exact kn.1
        rw [e8]
        unfold sel
        rw [if_neg hR]
        by_cases b : Qn m st sz le P C T X k = true
        · rw [if_pos b]
          have z : ¬ r.1 = 0 := by rw [v, b]; decide
          simp only [bindv, if_neg z]
          have p : 2 ^ (k + 1) = 2 ^ k + 2 ^ k := by rw [Nat.pow_succ]; omega
          have q := ih (k + 1) (R - 1) (A + 2 ^ k) (a ||| (nI 1 <<< (nI k &&& 31))) (room + (-nI 1)) (nI k + nI 1) r.2 (by omega) (by omega) (nI_add k 1) (by rw [h4]; exact or_bit8 k hk A h5) (by omega) (by
            obtain ⟨R', rfl⟩ : ∃ y, R = y + 1 := ⟨R - 1, by omega⟩
            rw [h6]; exact pk_m1 R') (by omega) (h8.tr cq) kn.2
          rw [show 8 - (k + 1) = 7 - k by omega] at q
          exact q
        · rw [if_neg b]
          have z : r.1 = 0 := by
            rw [v]
            cases hb : Qn m st sz le P C T X k with
            | false => rfl
            | true => exact absurd hb b
          simp only [bindv, if_pos z]
          have p : 2 ^ (k + 1) = 2 ^ k + 2 ^ k := by rw [Nat.pow_succ]; omega
          have q := ih (k + 1) R A a room (nI k + nI 1) r.2 (by omega) (by omega) (nI_add k 1) h4 (by omega) h6 h7 (h8.tr cq) kn.2
          rw [show 8 - (k + 1) = 7 - k by omega] at q
          exact q
theorem knownNext_eq {m : Ms} {st : Fn} {sz : Int32} (so : SO m st sz) (ck : CK m st sz) {P T C X R : Nat} (le : Int32) (hP : P < 6) (hT : Ms.s m 0 = nI T) (hT2 : T ≤ 1000000) (hX : Ms.s m (1 + P) = nI X) (hC : m_X12_countOf (nI X) = nI C) (hC2 : C ≤ 8) (hR : m_X12_tellsOf (Ms.s m) (nI 212) (nI 4) = nI R) (hR2 : R < 1000) :
    (m_X12_knownNext m (nI P) le).1 = nI (sel (Qn m st sz le P C T X) 8 0 R 0) ∧ CK (m_X12_knownNext m (nI P) le).2 st sz := by
  unfold m_X12_knownNext
  rw [hR]
  exact kn_l so le hP hT hT2 hX hC hC2 9 0 R 0 _ _ _ m (by omega) rfl rfl rfl (by decide) rfl hR2 (Cq.rf m) ck

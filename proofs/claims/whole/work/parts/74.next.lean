/-! what one knows behind a tide, by the check -/
/-- how one heeds a fact, while X is known by it (kw: as one that is known) -/
def hq (m : Ms) (st : Fn) (sz : Int32) (P f C T : Nat) (kw : Bool) : Int32 := hd (Ms.s m (24 + P)) (m_X4_sum (nI P) (Ms.s m (24 + P)) (Ms.s m (30 + P)) (nI f) (nI C) (nI (T % 10)) st sz) (Ms.s m (30 + P)) (nI C) (Ms.s m (36 + 4 * P + f % 4)) kw
def kb (X f : Nat) : Bool := decide ((nI X >>> (nI f &&& 31)) &&& nI 1 = nI 1)
/-- whether a fact is known behind the tide, but for room -/
def qm (h : Int32) (was le pa : Bool) (ps : Int32) : Bool := (was && decide (0 ≤ h)) || (le && decide (0 < h)) || (pa && decide (¬ h < ps))
theorem qm_t {h ps : Int32} {a b c : Bool} {x : Int32} (e : x = b2i (qm h a b c ps)) : x = b2i (qm h a b c ps) := e
theorem bl_b2i {x : Int32} (h : bl x) : x = b2i (decide (¬ x = 0)) := by
  rcases h with rfl | rfl <;> rfl
theorem known_eq {m : Ms} {st : Fn} {sz : Int32} (so : SO m st sz) (ck : CK m st sz) {P f T C X : Nat} {le : Int32} (hP : P < 6) (hf : f < 8) (hT : Ms.s m 0 = nI T) (hT2 : T ≤ 1000000) (hX : Ms.s m (1 + P) = nI X) (hC : m_X12_countOf (nI X) = nI C) (hC2 : C ≤ 8) :
    (m_X12_isKnownNext m (nI P) (nI f) le).1 = b2i (qm (hq m st sz P f C T (kb X f)) (kb X f) (decide (le = nI f)) (decide (¬ m_X12_isPassed (Ms.s m) (nI P) (nI f) = 0)) (m_X12_tellsOf (Ms.s m) (nI 217) (nI 6))) ∧ CK (m_X12_isKnownNext m (nI P) (nI f) le).2 st sz := by
  have e1 : (nI 1 + nI P).toNatClampNeg = 1 + P := by rw [nI_add, nI_clamp (by omega)]
  obtain ⟨v, w, q⟩ := heedOf_eq so ck hP hf hT hT2 hX hC hC2 (f := f)
  unfold m_X12_isKnownNext
  rw [e1, hX]
  generalize m_X12_heedOf m (nI P) (nI f) = r at v w q ⊢
  have v2 : r.1 = hq m st sz P f C T (kb X f) := v
  generalize hq m st sz P f C T (kb X f) = h at v2 ⊢
  have tq : m_X12_tellsOf (Ms.s r.2) (nI 217) (nI 6) = m_X12_tellsOf (Ms.s m) (nI 217) (nI 6) := by rw [q.1]
  generalize m_X12_tellsOf (Ms.s m) (nI 217) (nI 6) = ps at tq ⊢
  unfold kb
  generalize m_X12_isPassed (Ms.s m) (nI P) (nI f) = pa
  by_cases b : (nI X >>> (nI f &&& 31)) &&& nI 1 = nI 1
  · by_cases c1 : 0 ≤ h
    · simp only [bindv, b, if_true, tq, v2, if_pos c1, decide_true, qm, Bool.true_and, c1, Bool.true_or, if_neg (show ¬ nI 1 = 0 by decide)]
      exact ⟨rfl, w⟩
    · by_cases c2 : le = nI f
      · by_cases c3 : 0 < h
        · exact absurd (Int32.le_of_lt c3) c1
        · by_cases c4 : pa = 0
          · simp only [bindv, b, if_true, tq, v2, decide_true, qm, c1, c2, c3, c4, if_neg (show ¬ nI 1 = 0 by decide), decide_false, if_false, not_true]
            exact ⟨rfl, w⟩
          · by_cases c5 : h < ps
            · simp only [bindv, b, if_true, tq, v2, decide_true, qm, c1, c2, c3, c4, c5, if_neg (show ¬ nI 1 = 0 by decide), decide_false, if_false, not_true]
              exact ⟨rfl, w⟩
            · simp only [bindv, b, if_true, tq, v2, decide_true, qm, c1, c2, c3, c4, c5, if_neg (show ¬ nI 1 = 0 by decide), decide_false, if_false, not_false_eq_true]
              exact ⟨rfl, w⟩
      · by_cases c4 : pa = 0
        · simp only [bindv, b, if_true, tq, v2, decide_true, qm, c1, c2, c4, if_neg (show ¬ nI 1 = 0 by decide), decide_false, if_false, not_true]
          exact ⟨rfl, w⟩
        · by_cases c5 : h < ps
          · simp only [bindv, b, if_true, tq, v2, decide_true, qm, c1, c2, c4, c5, if_neg (show ¬ nI 1 = 0 by decide), decide_false, if_false, not_true]
            exact ⟨rfl, w⟩
          · simp only [bindv, b, if_true, tq, v2, decide_true, qm, c1, c2, c4, c5, if_neg (show ¬ nI 1 = 0 by decide), decide_false, if_false, not_false_eq_true]
            exact ⟨rfl, w⟩
  · have z0 : (nI 0 = 0) = True := eq_true rfl
    by_cases c4 : pa = 0
    · by_cases c2 : le = nI f
      · by_cases c3 : 0 < h
        · simp only [bindv, b, if_false, z0, if_true, tq, v2, qm, c2, c3, c4, decide_false, decide_true, not_true]
          exact ⟨rfl, w⟩
        · simp only [bindv, b, if_false, z0, if_true, tq, v2, qm, c2, c3, c4, decide_false, decide_true, not_true]
          exact ⟨rfl, w⟩
      · simp only [bindv, b, if_false, z0, if_true, qm, c2, c4, decide_false, not_true]
        exact ⟨rfl, ck⟩
    · by_cases c2 : le = nI f
      · by_cases c3 : 0 < h
        · simp only [bindv, b, if_false, z0, if_true, tq, v2, qm, c2, c3, c4, decide_false, decide_true, not_false_eq_true]
          exact ⟨rfl, w⟩
        · by_cases c5 : h < ps
          · simp only [bindv, b, if_false, z0, if_true, tq, v2, qm, c2, c3, c4, c5, decide_false, decide_true, not_false_eq_true, not_true]
            exact ⟨rfl, w⟩
          · simp only [bindv, b, if_false, z0, if_true, tq, v2, qm, c2, c3, c4, c5, decide_false, decide_true, not_false_eq_true]
            exact ⟨rfl, w⟩
      · by_cases c5 : h < ps
        · simp only [bindv, b, if_false, z0, if_true, tq, v2, qm, c2, c4, c5, decide_false, decide_true, not_false_eq_true, not_true]
          exact ⟨rfl, w⟩
        · simp only [bindv, b, if_false, z0, if_true, tq, v2, qm, c2, c4, c5, decide_false, decide_true, not_false_eq_true]
          exact ⟨rfl, w⟩

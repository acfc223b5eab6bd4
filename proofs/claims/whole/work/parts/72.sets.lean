/-! sets of facts: how many, which are kept -/
theorem cnt_eq : ∀ x, x < 256 → m_X12_countOf (nI x) = m_J6_bitCount_0f7a4 (nI x) := by decide +kernel
theorem cnt_le8 : ∀ x, x < 256 → ∃ c, c ≤ 8 ∧ m_J6_bitCount_0f7a4 (nI x) = nI c := by
  intro x hx
  obtain ⟨c, hc, e⟩ := rl_count (nI x)
  exact ⟨c, hc, by rw [← cnt_eq x hx]; exact e⟩
/-- of the facts from f on that are asked for, as many as there is room for -/
def sel (Q : Nat → Bool) : Nat → Nat → Nat → Nat → Nat
  | 0, _, _, a => a
  | n + 1, f, r, a => if r = 0 then a else if Q f then sel Q n (f + 1) (r - 1) (a + 2 ^ f) else sel Q n (f + 1) r a
theorem sel_room (Q : Nat → Bool) : ∀ (n f r a : Nat), n ≤ r → sel Q n f r a = sel Q n f n a
  | 0, _, _, _, _ => rfl
  | n + 1, f, r, a, h => by
    have h1 : ¬ r = 0 := by omega
    have h2 : ¬ n + 1 = 0 := by omega
    unfold sel
    rw [if_neg h1, if_neg h2]
    by_cases q : Q f = true
    · rw [if_pos q, if_pos q, sel_room Q n (f + 1) (r - 1) _ (by omega), Nat.add_sub_cancel]
    · rw [if_neg q, if_neg q, sel_room Q n (f + 1) r _ (by omega), sel_room Q n (f + 1) (n + 1) _ (by omega)]
theorem sel_congr {Q P : Nat → Bool} : ∀ (n f r a : Nat), (∀ i, i < f + n → Q i = P i) → sel Q n f r a = sel P n f r a
  | 0, _, _, _, _ => rfl
  | n + 1, f, r, a, h => by
    unfold sel
    rw [h f (by omega), sel_congr n (f + 1) (r - 1) _ (fun i hi => h i (by omega)), sel_congr n (f + 1) r _ (fun i hi => h i (by omega))]
theorem least_small : ∀ k, k < 9 → ∀ x, x < 256 → m_X7_least (nI x) (nI k) = nI (sel x.testBit 8 0 k 0) := by decide +kernel
theorem least_eq {x k : Nat} (hx : x < 256) (hk : k < 1000) : m_X7_least (nI x) (nI k) = nI (sel x.testBit 8 0 k 0) := by
  by_cases h : k < 9
  · exact least_small k h x hx
  · rw [sel_room _ 8 0 k 0 (by omega), ← least_small 8 (by decide) x hx]
    obtain ⟨c, hc, e⟩ := cnt_le8 x hx
    have q : ∀ j : Nat, 8 ≤ j → j < 1000 → m_X7_least (nI x) (nI j) = nI x := by
      intro j h8 hj
      unfold m_X7_least
      rw [e, q_X7_least_11, if_neg (by decide), if_pos (nI_le (by omega) (by omega))]
    rw [q k (by omega) hk, q 8 (by omega) (by decide)]

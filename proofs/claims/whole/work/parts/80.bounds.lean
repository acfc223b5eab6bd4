/-! how far sums and heeds go -/
def bnd (x : Int32) (N : Nat) : Prop := -(N : Int) ≤ x.toInt ∧ x.toInt ≤ N
theorem bnd.mono {x : Int32} {N M : Nat} (h : bnd x N) (q : N ≤ M) : bnd x M := by unfold bnd at *; omega
theorem bnd_nI {a N : Nat} (h : a ≤ N) (hN : N < 2 ^ 30) : bnd (nI a) N := by
  unfold bnd
  rw [nI_toInt (by omega)]
  omega
theorem bnd_add {x y : Int32} {N M : Nat} (h : bnd x N) (g : bnd y M) (q : N + M < 2 ^ 30) : bnd (x + y) (N + M) ∧ (x + y).toInt = x.toInt + y.toInt := by
  unfold bnd at *
  have e : (x + y).toInt = x.toInt + y.toInt := by
    rw [Int32.toInt_add, Int.bmod_def]
    omega
  rw [e]
  refine ⟨?_, rfl⟩
  omega
theorem bnd_sub {x y : Int32} {N M : Nat} (h : bnd x N) (g : bnd y M) (q : N + M < 2 ^ 30) : bnd (x - y) (N + M) ∧ (x - y).toInt = x.toInt - y.toInt := by
  unfold bnd at *
  have e : (x - y).toInt = x.toInt - y.toInt := by
    rw [Int32.toInt_sub, Int.bmod_def]
    omega
  rw [e]
  refine ⟨?_, rfl⟩
  omega
theorem bnd_half {x : Int32} {N : Nat} (h : bnd x N) : bnd (x / nI 2) N := by
  unfold bnd at *
  have e : (x / nI 2).toInt = x.toInt.tdiv 2 := by
    rw [Int32.toInt_div_of_ne_right _ _ (by decide)]
    rfl
  rw [e]
  have h1 := Int.tdiv_eq_ediv (a := x.toInt) (b := 2)
  have hs : Int.sign 2 = 1 := rfl
  rw [hs] at h1
  constructor <;> (rw [h1]; split <;> omega)
theorem bnd_tw {x : Int32} {N : Nat} (h : bnd x N) (q : N < 2 ^ 29) : (x * nI 2).toInt = 2 * x.toInt := by
  unfold bnd at *
  rw [Int32.toInt_mul, show (nI 2).toInt = 2 from rfl, Int.bmod_def]
  omega
theorem sum_bnd (p k v f c t : Int32) (st : Fn) (sz : Int32) {g : Fn} {n : Nat} {dp : Nat → Nat} (hz : sz = nI n) (hn : n ≤ 100) (h : Sts st g n dp) : ∀ (x j : Nat) (su bi : Int32), x + j = 101 → j ≤ n → bnd su (3 + 99 * j) → bnd (l_X4_sum_7 p k v f c t st sz x su bi (nI j)) 10000 := by
  intro x
  induction x with
  | zero => intro j su bi h1 h2; omega
  | succ x ih =>
    intro j su bi h1 h2 h3
    by_cases z : j = n
    · subst z
      rw [cs_end _ _ _ _ _ _ _ _ hz hn]; exact h3.mono (by omega)
    · have hj : j < n := by omega
      have pr : ∀ a, a < 100 → bnd ((bi &&& nI 1) * nI a) 99 := by
        intro a ha
        rw [and1]
        cases bi.toBitVec.getLsbD 0
        · show bnd (nI 0 * nI a) 99
          rw [pk_mul, Nat.zero_mul]; exact bnd_nI (by omega) (by decide)
        · show bnd (nI 1 * nI a) 99
          rw [pk_mul, Nat.one_mul]; exact bnd_nI (by omega) (by decide)
      rcases h.2 j hj with ⟨l, o, w, hl, ho, hw, c, e, hd, d1⟩ | ⟨c, e, hd, hd2, d1⟩ | ⟨c, e, hd, hd2, d1⟩ | ⟨c, e, hd, hd2, d1⟩ | ⟨a, ha, c, e, hd, d1⟩ | ⟨a, ha, c, e, hd, d1⟩
      · rw [cs_test _ _ _ _ _ _ _ _ hz hj hn hl ho hw c]
        exact ih (j + 1) _ _ (by omega) (by omega) (h3.mono (by omega))
      · rw [cs_neg _ _ _ _ _ _ _ _ hz hj hn c (by decide)]
        exact ih (j + 1) _ _ (by omega) (by omega) (h3.mono (by omega))
      · rw [cs_neg _ _ _ _ _ _ _ _ hz hj hn c (by decide)]
        exact ih (j + 1) _ _ (by omega) (by omega) (h3.mono (by omega))
      · rw [cs_neg _ _ _ _ _ _ _ _ hz hj hn c (by decide)]
        exact ih (j + 1) _ _ (by omega) (by omega) (h3.mono (by omega))
      · rw [cs_loud _ _ _ _ _ _ _ _ hz hj hn ha c]
        exact ih (j + 1) _ _ (by omega) (by omega) ((bnd_add h3 (pr a ha) (by omega)).1.mono (by omega))
      · rw [cs_dull _ _ _ _ _ _ _ _ hz hj hn ha c]
        exact ih (j + 1) _ _ (by omega) (by omega) ((bnd_sub h3 (pr a ha) (by omega)).1.mono (by omega))
theorem msum_bnd (p k v f c t : Int32) {m : Ms} {st : Fn} {sz : Int32} (so : SO m st sz) : bnd (m_X4_sum p k v f c t st sz) 10000 := by
  obtain ⟨F, n, dp, h1, h2, h3, h4, h5, h6, h7⟩ := so
  exact sum_bnd p k v f c t st sz h4 h5 h7 101 0 (nI 3) (nI 0) rfl (Nat.zero_le _) (bnd_nI (by omega) (by decide))
theorem hd_bnd {k su v c ro : Int32} (h1 : bnd su 10000) (h2 : bnd v 9) (h3 : bnd c 8) (h4 : bnd ro 9) : bnd (hd k su v c ro false) 11000 := by
  unfold hd
  split
  · exact (bnd_add h1 h2 (by decide)).1.mono (by decide)
  · split
    · exact (bnd_half h1).mono (by decide)
    · split
      · exact (bnd_sub h1 h3 (by decide)).1.mono (by decide)
      · split
        · exact (bnd_add h1 h2 (by decide)).1.mono (by decide)
        · split
          · exact (bnd_add (bnd_half h1) h2 (by decide)).1.mono (by decide)
          · split
            · exact (bnd_sub (bnd_add (bnd_sub h1 h3 (by decide)).1 h4 (by decide)).1 (bnd_nI (a := 4) (N := 4) (by decide) (by decide)) (by decide)).1.mono (by decide)
            · exact h1.mono (by decide)
/-- a monitor's twice: no sign is another -/
theorem hd_kw {k su v c ro : Int32} (was : Bool) : hd k su v c ro was = if k = nI 4 ∧ was = true then hd k su v c ro false * nI 2 else hd k su v c ro false := by
  cases was
  · rw [if_neg (by simp)]
  · by_cases z : k = nI 4
    · subst z
      rw [if_pos ⟨rfl, rfl⟩]
      rfl
    · rw [if_neg (by simp [z])]
      unfold hd
      simp only [if_neg z]
theorem qm_eq {k su v c ro ps : Int32} {was le pa : Bool} (h1 : bnd su 10000) (h2 : bnd v 9) (h3 : bnd c 8) (h4 : bnd ro 9) (h5 : 0 ≤ ps) : qm (hd k su v c ro was) was le pa ps = ((was && decide (¬ hd k su v c ro false < 0)) || (le && decide (¬ hd k su v c ro false ≤ 0)) || (pa && decide (¬ hd k su v c ro false < ps))) := by
  have hb := hd_bnd (k := k) h1 h2 h3 h4
  rw [hd_kw was]
  generalize hd k su v c ro false = o at hb ⊢
  unfold qm
  have a1 : decide (0 ≤ o) = decide (¬ o < 0) := by rw [decide_eq_decide]; exact Int32.not_lt.symm
  have a2 : decide (0 < o) = decide (¬ o ≤ 0) := by rw [decide_eq_decide]; exact Int32.not_le.symm
  by_cases z : k = nI 4 ∧ was = true
  · rw [if_pos z]
    obtain ⟨-, rfl⟩ := z
    have tw := bnd_tw hb (by decide)
    have p0 : (0 : Int32).toInt = 0 := rfl
    by_cases n : o < 0
    · have n1 : ¬ 0 ≤ o * nI 2 := by
        rw [Int32.le_iff_toInt_le, tw, p0]
        rw [Int32.lt_iff_toInt_lt, p0] at n
        omega
      have n2 : ¬ 0 < o * nI 2 := fun q => n1 (Int32.le_of_lt q)
      have n3 : o * nI 2 < ps := Int32.lt_of_lt_of_le (Int32.not_le.mp n1) h5
      have n4 : o < ps := Int32.lt_of_lt_of_le n h5
      have n5 : o ≤ 0 := Int32.le_of_lt n
      simp [n, n1, n2, n3, n4, n5]
    · have n1 : 0 ≤ o * nI 2 := by
        rw [Int32.le_iff_toInt_le, tw, p0]
        have n9 := Int32.not_lt.mp n
        rw [Int32.le_iff_toInt_le, p0] at n9
        omega
      simp [n, n1]
  · rw [if_neg z, a1, a2]

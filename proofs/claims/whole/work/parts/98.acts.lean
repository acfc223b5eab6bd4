/-! acts, by kinds -/
def Ac (m0 m : Ms) : Prop := Ms.s m = Ms.s m0 ∧ Ms.im m = Ms.im m0 ∧ Ms.hi m = Ms.hi m0 ∧ Ms.lf m = Ms.lf m0 ∧ Ms.lk m = Ms.lk m0
def Br (t : Ut) (m m0 : Ms) (kd : Int32) (r : Nat) : Prop := Uc.ra (Ut.u t) = nI r ∧ Ms.ra m = nI r ∧ Uc.i (Ut.u t) = Ms.nu m ∧ Uc.v (Ut.u t) = Ms.tv m ∧ Ms.ki m = kd ∧ (∀ i, i < 20 → i < r → Ut.bo t i = Ms.bo m i) ∧ Ac m0 m
def BR (A : Int32 × Ut) (B : Int32 × Ms) (m0 : Ms) (kd : Int32) (n : Nat) : Prop := A.1 = B.1 ∧ ∃ r, r ≤ n ∧ Br A.2 B.2 m0 kd r
set_option maxHeartbeats 100000 in
theorem bg_c10 {t : Ut} {m m0 : Ms} {kd : Int32} {r : Nat} (h : Br t m m0 kd r) (hr : r ≤ 900) (x : Int32) : Br (m_X10_begin_c10 t x) (m_X12_ranBody m x) m0 kd (r + 1) := by
  obtain ⟨h1, h2, h3, h4, h5, h6, h7⟩ := h
  unfold m_X10_begin_c10 m_X12_ranBody
  rw [h1, h2, if_neg (show ¬ nI r < 0 from Int32.not_lt.mpr (nI_le (Nat.zero_le _) (by omega)))]
  by_cases c : nI 20 ≤ nI r
  · rw [if_pos c, if_pos c]
    rw [nI_leI (by decide) (by omega)] at c
    exact ⟨nI_add r 1, nI_add r 1, h3, h4, h5, fun i hi _ => h6 i hi (by omega), h7⟩
  · rw [if_neg c, if_neg c, nI_clamp (by omega)]
    refine ⟨nI_add r 1, nI_add r 1, h3, h4, h5, fun i hi hr => ?_, h7⟩
    show upd (Ut.bo t) r x i = upd (Ms.bo m) r x i
    by_cases z : i = r
    · rw [z, pk_us, pk_us]
    · rw [pk_un z, pk_un z]; exact h6 i hi (by omega)
set_option maxHeartbeats 100000 in
theorem pl_c10 {t : Ut} {m m0 : Ms} {kd : Int32} {r : Nat} (h : Br t m m0 kd r) (hr : r ≤ 900) (x : Int32) : BR (m_X10_leans_c10 t x) (m_X12_plainLeans m x) m0 kd (r + 1) := by
  have b := bg_c10 h hr (nI 1)
  unfold m_X10_leans_c10 m_X12_plainLeans
  generalize m_X10_begin_c10 t (nI 1) = r1 at b ⊢
  generalize m_X12_ranBody m (nI 1) = q1 at b ⊢
  simp only [bindv]
  exact ⟨by show x + Uc.i (Ut.u r1) = x + Ms.nu q1; rw [b.2.2.1], r + 1, Nat.le_refl _, b⟩
set_option maxHeartbeats 100000 in
theorem al_c10 {t : Ut} {m m0 : Ms} {r : Nat} (h : Br t m m0 (nI 0) r) (hr : r ≤ 800) (x : Int32) : BR (m_X10_leans_c10 t x) (m_X12_leansActs m x) m0 (nI 0) (r + 2) := by
  have ki := h.2.2.2.2.1
  unfold m_X12_leansActs
  rw [ki]
  rw [if_pos (show m_X12_isUnder (nI 0) (nI 1) = 0 by decide), if_neg (show ¬ nI 0 = nI 5 by decide)]
  obtain ⟨p1, r2, p2, p3⟩ := pl_c10 h (by omega) x
  generalize m_X10_leans_c10 t x = A at p1 p3 ⊢
  generalize m_X12_plainLeans m x = B at p1 p3 ⊢
  exact ⟨p1, r2, by omega, p3⟩
set_option maxHeartbeats 100000 in
theorem ps_c10 {t : Ut} {m m0 : Ms} {r : Nat} (h : Br t m m0 (nI 0) r) (hr : r ≤ 700) (x : Int32) : BR (m_X10_says_c10 t x) (m_X12_plainSays m x) m0 (nI 0) (r + 3) := by
  unfold m_X10_says_c10 m_X12_plainSays
  have b := bg_c10 h (by omega) (nI 2)
  generalize m_X10_begin_c10 t (nI 2) = r1 at b ⊢
  generalize m_X12_ranBody m (nI 2) = q1 at b ⊢
  simp only [bindv]
  obtain ⟨p1, r2, p2, p3⟩ := al_c10 b (by omega) x
  generalize m_X10_leans_c10 r1 x = A at p1 p3 ⊢
  generalize m_X12_leansActs q1 x = B at p1 p3 ⊢
  refine ⟨?_, r2, by omega, p3⟩
  rw [p1, p3.2.2.2.1]
set_option maxHeartbeats 100000 in
theorem as_c10 {t : Ut} {m m0 : Ms} {r : Nat} (h : Br t m m0 (nI 0) r) (hr : r ≤ 600) (x : Int32) : BR (m_X10_says_c10 t x) (m_X12_saysActs m x) m0 (nI 0) (r + 4) := by
  have ki := h.2.2.2.2.1
  unfold m_X12_saysActs
  rw [ki]
  rw [if_pos (show m_X12_isUnder (nI 0) (nI 2) = 0 by decide), if_neg (show ¬ nI 0 = nI 6 by decide)]
  obtain ⟨p1, r2, p2, p3⟩ := ps_c10 h (by omega) x
  generalize m_X10_says_c10 t x = A at p1 p3 ⊢
  generalize m_X12_plainSays m x = B at p1 p3 ⊢
  exact ⟨p1, r2, by omega, p3⟩
set_option maxHeartbeats 100000 in
theorem pb_c10 {t : Ut} {m m0 : Ms} {r : Nat} (h : Br t m m0 (nI 0) r) (hr : r ≤ 500) (x : Int32) : BR (m_X10_bristles_c10 t x) (m_X12_plainTelling m x) m0 (nI 0) (r + 5) := by
  unfold m_X10_bristles_c10 m_X12_plainTelling
  have b := bg_c10 h (by omega) (nI 3)
  generalize m_X10_begin_c10 t (nI 3) = r1 at b ⊢
  generalize m_X12_ranBody m (nI 3) = q1 at b ⊢
  simp only [bindv]
  obtain ⟨p1, r2, p2, p3⟩ := as_c10 b (by omega) x
  generalize m_X10_says_c10 r1 x = A at p1 p3 ⊢
  generalize m_X12_saysActs q1 x = B at p1 p3 ⊢
  refine ⟨?_, r2, by omega, p3⟩
  rw [p1]
set_option maxHeartbeats 100000 in
theorem ab_c10 {t : Ut} {m m0 : Ms} {r : Nat} (h : Br t m m0 (nI 0) r) (hr : r ≤ 400) (x : Int32) : BR (m_X10_bristles_c10 t x) (m_X12_bristlesActs m x) m0 (nI 0) (r + 9) := by
  have ki := h.2.2.2.2.1
  unfold m_X12_bristlesActs
  rw [ki]
  rw [if_pos (show m_X12_isUnder (nI 0) (nI 3) = 0 by decide), if_neg (show ¬ nI 0 = nI 4 by decide)]
  obtain ⟨p1, r2, p2, p3⟩ := pb_c10 h (by omega) x
  generalize m_X10_bristles_c10 t x = A at p1 p3 ⊢
  generalize m_X12_plainTelling m x = B at p1 p3 ⊢
  exact ⟨p1, r2, by omega, p3⟩
set_option maxHeartbeats 100000 in
theorem bg_c3 {t : Ut} {m m0 : Ms} {kd : Int32} {r : Nat} (h : Br t m m0 kd r) (hr : r ≤ 900) (x : Int32) : Br (m_X10_begin_c3 t x) (m_X12_ranBody m x) m0 kd (r + 1) := by
  obtain ⟨h1, h2, h3, h4, h5, h6, h7⟩ := h
  unfold m_X10_begin_c3 m_X12_ranBody
  rw [h1, h2, if_neg (show ¬ nI r < 0 from Int32.not_lt.mpr (nI_le (Nat.zero_le _) (by omega)))]
  by_cases c : nI 20 ≤ nI r
  · rw [if_pos c, if_pos c]
    rw [nI_leI (by decide) (by omega)] at c
    exact ⟨nI_add r 1, nI_add r 1, h3, h4, h5, fun i hi _ => h6 i hi (by omega), h7⟩
  · rw [if_neg c, if_neg c, nI_clamp (by omega)]
    refine ⟨nI_add r 1, nI_add r 1, h3, h4, h5, fun i hi hr => ?_, h7⟩
    show upd (Ut.bo t) r x i = upd (Ms.bo m) r x i
    by_cases z : i = r
    · rw [z, pk_us, pk_us]
    · rw [pk_un z, pk_un z]; exact h6 i hi (by omega)
set_option maxHeartbeats 100000 in
theorem pl_c3 {t : Ut} {m m0 : Ms} {kd : Int32} {r : Nat} (h : Br t m m0 kd r) (hr : r ≤ 900) (x : Int32) : BR (m_X10_leans_c3 t x) (m_X12_plainLeans m x) m0 kd (r + 1) := by
  have b := bg_c3 h hr (nI 1)
  unfold m_X10_leans_c3 m_X12_plainLeans
  generalize m_X10_begin_c3 t (nI 1) = r1 at b ⊢
  generalize m_X12_ranBody m (nI 1) = q1 at b ⊢
  simp only [bindv]
  exact ⟨by show x + Uc.i (Ut.u r1) = x + Ms.nu q1; rw [b.2.2.1], r + 1, Nat.le_refl _, b⟩
set_option maxHeartbeats 100000 in
theorem al_c3 {t : Ut} {m m0 : Ms} {r : Nat} (h : Br t m m0 (nI 1) r) (hr : r ≤ 800) (x : Int32) : BR (m_X3_leans_c3 t x) (m_X12_leansActs m x) m0 (nI 1) (r + 2) := by
  have ki := h.2.2.2.2.1
  unfold m_X12_leansActs
  rw [ki]
  rw [if_neg (show ¬ m_X12_isUnder (nI 1) (nI 1) = 0 by decide)]
  unfold m_X3_leans_c3
  have b := bg_c3 h (by omega) (nI 11)
  generalize m_X10_begin_c3 t (nI 11) = r1 at b ⊢
  generalize m_X12_ranBody m (nI 11) = q1 at b ⊢
  simp only [bindv]
  obtain ⟨p1, r2, p2, p3⟩ := pl_c3 b (by omega) (x * nI 3)
  generalize m_X10_leans_c3 r1 (x * nI 3) = A at p1 p3 ⊢
  generalize m_X12_plainLeans q1 (x * nI 3) = B at p1 p3 ⊢
  exact ⟨p1, r2, by omega, p3⟩
set_option maxHeartbeats 100000 in
theorem ps_c3 {t : Ut} {m m0 : Ms} {r : Nat} (h : Br t m m0 (nI 1) r) (hr : r ≤ 700) (x : Int32) : BR (m_X10_says_c3 t x) (m_X12_plainSays m x) m0 (nI 1) (r + 3) := by
  unfold m_X10_says_c3 m_X12_plainSays
  have b := bg_c3 h (by omega) (nI 2)
  generalize m_X10_begin_c3 t (nI 2) = r1 at b ⊢
  generalize m_X12_ranBody m (nI 2) = q1 at b ⊢
  simp only [bindv]
  obtain ⟨p1, r2, p2, p3⟩ := al_c3 b (by omega) x
  generalize m_X3_leans_c3 r1 x = A at p1 p3 ⊢
  generalize m_X12_leansActs q1 x = B at p1 p3 ⊢
  refine ⟨?_, r2, by omega, p3⟩
  rw [p1, p3.2.2.2.1]
set_option maxHeartbeats 100000 in
theorem as_c3 {t : Ut} {m m0 : Ms} {r : Nat} (h : Br t m m0 (nI 1) r) (hr : r ≤ 600) (x : Int32) : BR (m_X10_says_c3 t x) (m_X12_saysActs m x) m0 (nI 1) (r + 4) := by
  have ki := h.2.2.2.2.1
  unfold m_X12_saysActs
  rw [ki]
  rw [if_pos (show m_X12_isUnder (nI 1) (nI 2) = 0 by decide), if_neg (show ¬ nI 1 = nI 6 by decide)]
  obtain ⟨p1, r2, p2, p3⟩ := ps_c3 h (by omega) x
  generalize m_X10_says_c3 t x = A at p1 p3 ⊢
  generalize m_X12_plainSays m x = B at p1 p3 ⊢
  exact ⟨p1, r2, by omega, p3⟩
set_option maxHeartbeats 100000 in
theorem pb_c3 {t : Ut} {m m0 : Ms} {r : Nat} (h : Br t m m0 (nI 1) r) (hr : r ≤ 500) (x : Int32) : BR (m_X10_bristles_c3 t x) (m_X12_plainTelling m x) m0 (nI 1) (r + 5) := by
  unfold m_X10_bristles_c3 m_X12_plainTelling
  have b := bg_c3 h (by omega) (nI 3)
  generalize m_X10_begin_c3 t (nI 3) = r1 at b ⊢
  generalize m_X12_ranBody m (nI 3) = q1 at b ⊢
  simp only [bindv]
  obtain ⟨p1, r2, p2, p3⟩ := as_c3 b (by omega) x
  generalize m_X10_says_c3 r1 x = A at p1 p3 ⊢
  generalize m_X12_saysActs q1 x = B at p1 p3 ⊢
  refine ⟨?_, r2, by omega, p3⟩
  rw [p1]
set_option maxHeartbeats 100000 in
theorem ab_c3 {t : Ut} {m m0 : Ms} {r : Nat} (h : Br t m m0 (nI 1) r) (hr : r ≤ 400) (x : Int32) : BR (m_X10_bristles_c3 t x) (m_X12_bristlesActs m x) m0 (nI 1) (r + 9) := by
  have ki := h.2.2.2.2.1
  unfold m_X12_bristlesActs
  rw [ki]
  rw [if_pos (show m_X12_isUnder (nI 1) (nI 3) = 0 by decide), if_neg (show ¬ nI 1 = nI 4 by decide)]
  obtain ⟨p1, r2, p2, p3⟩ := pb_c3 h (by omega) x
  generalize m_X10_bristles_c3 t x = A at p1 p3 ⊢
  generalize m_X12_plainTelling m x = B at p1 p3 ⊢
  exact ⟨p1, r2, by omega, p3⟩
set_option maxHeartbeats 100000 in
theorem bg_c2 {t : Ut} {m m0 : Ms} {kd : Int32} {r : Nat} (h : Br t m m0 kd r) (hr : r ≤ 900) (x : Int32) : Br (m_X10_begin_c2 t x) (m_X12_ranBody m x) m0 kd (r + 1) := by
  obtain ⟨h1, h2, h3, h4, h5, h6, h7⟩ := h
  unfold m_X10_begin_c2 m_X12_ranBody
  rw [h1, h2, if_neg (show ¬ nI r < 0 from Int32.not_lt.mpr (nI_le (Nat.zero_le _) (by omega)))]
  by_cases c : nI 20 ≤ nI r
  · rw [if_pos c, if_pos c]
    rw [nI_leI (by decide) (by omega)] at c
    exact ⟨nI_add r 1, nI_add r 1, h3, h4, h5, fun i hi _ => h6 i hi (by omega), h7⟩
  · rw [if_neg c, if_neg c, nI_clamp (by omega)]
    refine ⟨nI_add r 1, nI_add r 1, h3, h4, h5, fun i hi hr => ?_, h7⟩
    show upd (Ut.bo t) r x i = upd (Ms.bo m) r x i
    by_cases z : i = r
    · rw [z, pk_us, pk_us]
    · rw [pk_un z, pk_un z]; exact h6 i hi (by omega)
set_option maxHeartbeats 100000 in
theorem pl_c2 {t : Ut} {m m0 : Ms} {kd : Int32} {r : Nat} (h : Br t m m0 kd r) (hr : r ≤ 900) (x : Int32) : BR (m_X10_leans_c2 t x) (m_X12_plainLeans m x) m0 kd (r + 1) := by
  have b := bg_c2 h hr (nI 1)
  unfold m_X10_leans_c2 m_X12_plainLeans
  generalize m_X10_begin_c2 t (nI 1) = r1 at b ⊢
  generalize m_X12_ranBody m (nI 1) = q1 at b ⊢
  simp only [bindv]
  exact ⟨by show x + Uc.i (Ut.u r1) = x + Ms.nu q1; rw [b.2.2.1], r + 1, Nat.le_refl _, b⟩
set_option maxHeartbeats 100000 in
theorem al_c2 {t : Ut} {m m0 : Ms} {r : Nat} (h : Br t m m0 (nI 2) r) (hr : r ≤ 800) (x : Int32) : BR (m_X10_leans_c2 t x) (m_X12_leansActs m x) m0 (nI 2) (r + 2) := by
  have ki := h.2.2.2.2.1
  unfold m_X12_leansActs
  rw [ki]
  rw [if_pos (show m_X12_isUnder (nI 2) (nI 1) = 0 by decide), if_neg (show ¬ nI 2 = nI 5 by decide)]
  obtain ⟨p1, r2, p2, p3⟩ := pl_c2 h (by omega) x
  generalize m_X10_leans_c2 t x = A at p1 p3 ⊢
  generalize m_X12_plainLeans m x = B at p1 p3 ⊢
  exact ⟨p1, r2, by omega, p3⟩
set_option maxHeartbeats 100000 in
theorem ps_c2 {t : Ut} {m m0 : Ms} {r : Nat} (h : Br t m m0 (nI 2) r) (hr : r ≤ 700) (x : Int32) : BR (m_X10_says_c2 t x) (m_X12_plainSays m x) m0 (nI 2) (r + 3) := by
  unfold m_X10_says_c2 m_X12_plainSays
  have b := bg_c2 h (by omega) (nI 2)
  generalize m_X10_begin_c2 t (nI 2) = r1 at b ⊢
  generalize m_X12_ranBody m (nI 2) = q1 at b ⊢
  simp only [bindv]
  obtain ⟨p1, r2, p2, p3⟩ := al_c2 b (by omega) x
  generalize m_X10_leans_c2 r1 x = A at p1 p3 ⊢
  generalize m_X12_leansActs q1 x = B at p1 p3 ⊢
  refine ⟨?_, r2, by omega, p3⟩
  rw [p1, p3.2.2.2.1]
set_option maxHeartbeats 100000 in
theorem as_c2 {t : Ut} {m m0 : Ms} {r : Nat} (h : Br t m m0 (nI 2) r) (hr : r ≤ 600) (x : Int32) : BR (m_X2_says_c2 t x) (m_X12_saysActs m x) m0 (nI 2) (r + 4) := by
  have ki := h.2.2.2.2.1
  unfold m_X12_saysActs
  rw [ki]
  rw [if_neg (show ¬ m_X12_isUnder (nI 2) (nI 2) = 0 by decide)]
  unfold m_X2_says_c2
  have b := bg_c2 h (by omega) (nI 21)
  generalize m_X10_begin_c2 t (nI 21) = r1 at b ⊢
  generalize m_X12_ranBody m (nI 21) = q1 at b ⊢
  simp only [bindv]
  obtain ⟨p1, r2, p2, p3⟩ := ps_c2 b (by omega) x
  generalize m_X10_says_c2 r1 x = A at p1 p3 ⊢
  generalize m_X12_plainSays q1 x = B at p1 p3 ⊢
  refine ⟨?_, r2, by omega, p3⟩
  rw [p1]
set_option maxHeartbeats 100000 in
theorem pb_c2 {t : Ut} {m m0 : Ms} {r : Nat} (h : Br t m m0 (nI 2) r) (hr : r ≤ 500) (x : Int32) : BR (m_X10_bristles_c2 t x) (m_X12_plainTelling m x) m0 (nI 2) (r + 5) := by
  unfold m_X10_bristles_c2 m_X12_plainTelling
  have b := bg_c2 h (by omega) (nI 3)
  generalize m_X10_begin_c2 t (nI 3) = r1 at b ⊢
  generalize m_X12_ranBody m (nI 3) = q1 at b ⊢
  simp only [bindv]
  obtain ⟨p1, r2, p2, p3⟩ := as_c2 b (by omega) x
  generalize m_X2_says_c2 r1 x = A at p1 p3 ⊢
  generalize m_X12_saysActs q1 x = B at p1 p3 ⊢
  refine ⟨?_, r2, by omega, p3⟩
  rw [p1]
set_option maxHeartbeats 100000 in
theorem ab_c2 {t : Ut} {m m0 : Ms} {r : Nat} (h : Br t m m0 (nI 2) r) (hr : r ≤ 400) (x : Int32) : BR (m_X10_bristles_c2 t x) (m_X12_bristlesActs m x) m0 (nI 2) (r + 9) := by
  have ki := h.2.2.2.2.1
  unfold m_X12_bristlesActs
  rw [ki]
  rw [if_pos (show m_X12_isUnder (nI 2) (nI 3) = 0 by decide), if_neg (show ¬ nI 2 = nI 4 by decide)]
  obtain ⟨p1, r2, p2, p3⟩ := pb_c2 h (by omega) x
  generalize m_X10_bristles_c2 t x = A at p1 p3 ⊢
  generalize m_X12_plainTelling m x = B at p1 p3 ⊢
  exact ⟨p1, r2, by omega, p3⟩
set_option maxHeartbeats 100000 in
theorem bg_c0 {t : Ut} {m m0 : Ms} {kd : Int32} {r : Nat} (h : Br t m m0 kd r) (hr : r ≤ 900) (x : Int32) : Br (m_X10_begin_c0 t x) (m_X12_ranBody m x) m0 kd (r + 1) := by
  obtain ⟨h1, h2, h3, h4, h5, h6, h7⟩ := h
  unfold m_X10_begin_c0 m_X12_ranBody
  rw [h1, h2, if_neg (show ¬ nI r < 0 from Int32.not_lt.mpr (nI_le (Nat.zero_le _) (by omega)))]
  by_cases c : nI 20 ≤ nI r
  · rw [if_pos c, if_pos c]
    rw [nI_leI (by decide) (by omega)] at c
    exact ⟨nI_add r 1, nI_add r 1, h3, h4, h5, fun i hi _ => h6 i hi (by omega), h7⟩
  · rw [if_neg c, if_neg c, nI_clamp (by omega)]
    refine ⟨nI_add r 1, nI_add r 1, h3, h4, h5, fun i hi hr => ?_, h7⟩
    show upd (Ut.bo t) r x i = upd (Ms.bo m) r x i
    by_cases z : i = r
    · rw [z, pk_us, pk_us]
    · rw [pk_un z, pk_un z]; exact h6 i hi (by omega)
set_option maxHeartbeats 100000 in
theorem pl_c0 {t : Ut} {m m0 : Ms} {kd : Int32} {r : Nat} (h : Br t m m0 kd r) (hr : r ≤ 900) (x : Int32) : BR (m_X10_leans_c0 t x) (m_X12_plainLeans m x) m0 kd (r + 1) := by
  have b := bg_c0 h hr (nI 1)
  unfold m_X10_leans_c0 m_X12_plainLeans
  generalize m_X10_begin_c0 t (nI 1) = r1 at b ⊢
  generalize m_X12_ranBody m (nI 1) = q1 at b ⊢
  simp only [bindv]
  exact ⟨by show x + Uc.i (Ut.u r1) = x + Ms.nu q1; rw [b.2.2.1], r + 1, Nat.le_refl _, b⟩
set_option maxHeartbeats 100000 in
theorem al_c0 {t : Ut} {m m0 : Ms} {r : Nat} (h : Br t m m0 (nI 3) r) (hr : r ≤ 800) (x : Int32) : BR (m_X10_leans_c0 t x) (m_X12_leansActs m x) m0 (nI 3) (r + 2) := by
  have ki := h.2.2.2.2.1
  unfold m_X12_leansActs
  rw [ki]
  rw [if_pos (show m_X12_isUnder (nI 3) (nI 1) = 0 by decide), if_neg (show ¬ nI 3 = nI 5 by decide)]
  obtain ⟨p1, r2, p2, p3⟩ := pl_c0 h (by omega) x
  generalize m_X10_leans_c0 t x = A at p1 p3 ⊢
  generalize m_X12_plainLeans m x = B at p1 p3 ⊢
  exact ⟨p1, r2, by omega, p3⟩
set_option maxHeartbeats 100000 in
theorem ps_c0 {t : Ut} {m m0 : Ms} {r : Nat} (h : Br t m m0 (nI 3) r) (hr : r ≤ 700) (x : Int32) : BR (m_X10_says_c0 t x) (m_X12_plainSays m x) m0 (nI 3) (r + 3) := by
  unfold m_X10_says_c0 m_X12_plainSays
  have b := bg_c0 h (by omega) (nI 2)
  generalize m_X10_begin_c0 t (nI 2) = r1 at b ⊢
  generalize m_X12_ranBody m (nI 2) = q1 at b ⊢
  simp only [bindv]
  obtain ⟨p1, r2, p2, p3⟩ := al_c0 b (by omega) x
  generalize m_X10_leans_c0 r1 x = A at p1 p3 ⊢
  generalize m_X12_leansActs q1 x = B at p1 p3 ⊢
  refine ⟨?_, r2, by omega, p3⟩
  rw [p1, p3.2.2.2.1]
set_option maxHeartbeats 100000 in
theorem as_c0 {t : Ut} {m m0 : Ms} {r : Nat} (h : Br t m m0 (nI 3) r) (hr : r ≤ 600) (x : Int32) : BR (m_X10_says_c0 t x) (m_X12_saysActs m x) m0 (nI 3) (r + 4) := by
  have ki := h.2.2.2.2.1
  unfold m_X12_saysActs
  rw [ki]
  rw [if_pos (show m_X12_isUnder (nI 3) (nI 2) = 0 by decide), if_neg (show ¬ nI 3 = nI 6 by decide)]
  obtain ⟨p1, r2, p2, p3⟩ := ps_c0 h (by omega) x
  generalize m_X10_says_c0 t x = A at p1 p3 ⊢
  generalize m_X12_plainSays m x = B at p1 p3 ⊢
  exact ⟨p1, r2, by omega, p3⟩
set_option maxHeartbeats 100000 in
theorem pb_c0 {t : Ut} {m m0 : Ms} {r : Nat} (h : Br t m m0 (nI 3) r) (hr : r ≤ 500) (x : Int32) : BR (m_X10_bristles_c0 t x) (m_X12_plainTelling m x) m0 (nI 3) (r + 5) := by
  unfold m_X10_bristles_c0 m_X12_plainTelling
  have b := bg_c0 h (by omega) (nI 3)
  generalize m_X10_begin_c0 t (nI 3) = r1 at b ⊢
  generalize m_X12_ranBody m (nI 3) = q1 at b ⊢
  simp only [bindv]
  obtain ⟨p1, r2, p2, p3⟩ := as_c0 b (by omega) x
  generalize m_X10_says_c0 r1 x = A at p1 p3 ⊢
  generalize m_X12_saysActs q1 x = B at p1 p3 ⊢
  refine ⟨?_, r2, by omega, p3⟩
  rw [p1]
set_option maxHeartbeats 100000 in
theorem ab_c0 {t : Ut} {m m0 : Ms} {r : Nat} (h : Br t m m0 (nI 3) r) (hr : r ≤ 400) (x : Int32) : BR (m_X0_bristles_c0 t x) (m_X12_bristlesActs m x) m0 (nI 3) (r + 9) := by
  have ki := h.2.2.2.2.1
  unfold m_X12_bristlesActs
  rw [ki]
  rw [if_neg (show ¬ m_X12_isUnder (nI 3) (nI 3) = 0 by decide)]
  unfold m_X0_bristles_c0
  have b := bg_c0 h (by omega) (nI 31)
  generalize m_X10_begin_c0 t (nI 31) = r1 at b ⊢
  generalize m_X12_ranBody m (nI 31) = q1 at b ⊢
  simp only [bindv]
  obtain ⟨p1, r2, p2, p3⟩ := pb_c0 b (by omega) x
  generalize m_X10_bristles_c0 r1 x = A at p1 p3 ⊢
  generalize m_X12_plainTelling q1 x = B at p1 p3 ⊢
  refine ⟨?_, r2, by omega, p3⟩
  rw [p1]
set_option maxHeartbeats 100000 in
theorem bg_c5 {t : Ut} {m m0 : Ms} {kd : Int32} {r : Nat} (h : Br t m m0 kd r) (hr : r ≤ 900) (x : Int32) : Br (m_X10_begin_c5 t x) (m_X12_ranBody m x) m0 kd (r + 1) := by
  obtain ⟨h1, h2, h3, h4, h5, h6, h7⟩ := h
  unfold m_X10_begin_c5 m_X12_ranBody
  rw [h1, h2, if_neg (show ¬ nI r < 0 from Int32.not_lt.mpr (nI_le (Nat.zero_le _) (by omega)))]
  by_cases c : nI 20 ≤ nI r
  · rw [if_pos c, if_pos c]
    rw [nI_leI (by decide) (by omega)] at c
    exact ⟨nI_add r 1, nI_add r 1, h3, h4, h5, fun i hi _ => h6 i hi (by omega), h7⟩
  · rw [if_neg c, if_neg c, nI_clamp (by omega)]
    refine ⟨nI_add r 1, nI_add r 1, h3, h4, h5, fun i hi hr => ?_, h7⟩
    show upd (Ut.bo t) r x i = upd (Ms.bo m) r x i
    by_cases z : i = r
    · rw [z, pk_us, pk_us]
    · rw [pk_un z, pk_un z]; exact h6 i hi (by omega)
set_option maxHeartbeats 100000 in
theorem pl_c5 {t : Ut} {m m0 : Ms} {kd : Int32} {r : Nat} (h : Br t m m0 kd r) (hr : r ≤ 900) (x : Int32) : BR (m_X10_leans_c5 t x) (m_X12_plainLeans m x) m0 kd (r + 1) := by
  have b := bg_c5 h hr (nI 1)
  unfold m_X10_leans_c5 m_X12_plainLeans
  generalize m_X10_begin_c5 t (nI 1) = r1 at b ⊢
  generalize m_X12_ranBody m (nI 1) = q1 at b ⊢
  simp only [bindv]
  exact ⟨by show x + Uc.i (Ut.u r1) = x + Ms.nu q1; rw [b.2.2.1], r + 1, Nat.le_refl _, b⟩
set_option maxHeartbeats 100000 in
theorem al_c5 {t : Ut} {m m0 : Ms} {r : Nat} (h : Br t m m0 (nI 4) r) (hr : r ≤ 800) (x : Int32) : BR (m_X3_leans_c5 t x) (m_X12_leansActs m x) m0 (nI 4) (r + 2) := by
  have ki := h.2.2.2.2.1
  unfold m_X12_leansActs
  rw [ki]
  rw [if_neg (show ¬ m_X12_isUnder (nI 4) (nI 1) = 0 by decide)]
  unfold m_X3_leans_c5
  have b := bg_c5 h (by omega) (nI 11)
  generalize m_X10_begin_c5 t (nI 11) = r1 at b ⊢
  generalize m_X12_ranBody m (nI 11) = q1 at b ⊢
  simp only [bindv]
  obtain ⟨p1, r2, p2, p3⟩ := pl_c5 b (by omega) (x * nI 3)
  generalize m_X10_leans_c5 r1 (x * nI 3) = A at p1 p3 ⊢
  generalize m_X12_plainLeans q1 (x * nI 3) = B at p1 p3 ⊢
  exact ⟨p1, r2, by omega, p3⟩
set_option maxHeartbeats 100000 in
theorem ps_c5 {t : Ut} {m m0 : Ms} {r : Nat} (h : Br t m m0 (nI 4) r) (hr : r ≤ 700) (x : Int32) : BR (m_X10_says_c5 t x) (m_X12_plainSays m x) m0 (nI 4) (r + 3) := by
  unfold m_X10_says_c5 m_X12_plainSays
  have b := bg_c5 h (by omega) (nI 2)
  generalize m_X10_begin_c5 t (nI 2) = r1 at b ⊢
  generalize m_X12_ranBody m (nI 2) = q1 at b ⊢
  simp only [bindv]
  obtain ⟨p1, r2, p2, p3⟩ := al_c5 b (by omega) x
  generalize m_X3_leans_c5 r1 x = A at p1 p3 ⊢
  generalize m_X12_leansActs q1 x = B at p1 p3 ⊢
  refine ⟨?_, r2, by omega, p3⟩
  rw [p1, p3.2.2.2.1]
set_option maxHeartbeats 100000 in
theorem as_c5 {t : Ut} {m m0 : Ms} {r : Nat} (h : Br t m m0 (nI 4) r) (hr : r ≤ 600) (x : Int32) : BR (m_X10_says_c5 t x) (m_X12_saysActs m x) m0 (nI 4) (r + 4) := by
  have ki := h.2.2.2.2.1
  unfold m_X12_saysActs
  rw [ki]
  rw [if_pos (show m_X12_isUnder (nI 4) (nI 2) = 0 by decide), if_neg (show ¬ nI 4 = nI 6 by decide)]
  obtain ⟨p1, r2, p2, p3⟩ := ps_c5 h (by omega) x
  generalize m_X10_says_c5 t x = A at p1 p3 ⊢
  generalize m_X12_plainSays m x = B at p1 p3 ⊢
  exact ⟨p1, r2, by omega, p3⟩
set_option maxHeartbeats 100000 in
theorem pb_c5 {t : Ut} {m m0 : Ms} {r : Nat} (h : Br t m m0 (nI 4) r) (hr : r ≤ 500) (x : Int32) : BR (m_X10_bristles_c5 t x) (m_X12_plainTelling m x) m0 (nI 4) (r + 5) := by
  unfold m_X10_bristles_c5 m_X12_plainTelling
  have b := bg_c5 h (by omega) (nI 3)
  generalize m_X10_begin_c5 t (nI 3) = r1 at b ⊢
  generalize m_X12_ranBody m (nI 3) = q1 at b ⊢
  simp only [bindv]
  obtain ⟨p1, r2, p2, p3⟩ := as_c5 b (by omega) x
  generalize m_X10_says_c5 r1 x = A at p1 p3 ⊢
  generalize m_X12_saysActs q1 x = B at p1 p3 ⊢
  refine ⟨?_, r2, by omega, p3⟩
  rw [p1]
set_option maxHeartbeats 100000 in
theorem ab_c5 {t : Ut} {m m0 : Ms} {r : Nat} (h : Br t m m0 (nI 4) r) (hr : r ≤ 400) (x : Int32) : BR (m_X5_bristles_c5 t x) (m_X12_bristlesActs m x) m0 (nI 4) (r + 9) := by
  have ki := h.2.2.2.2.1
  unfold m_X12_bristlesActs
  rw [ki]
  rw [if_pos (show m_X12_isUnder (nI 4) (nI 3) = 0 by decide), if_pos rfl]
  unfold m_X5_bristles_c5
  have b := bg_c5 h (by omega) (nI 41)
  generalize m_X10_begin_c5 t (nI 41) = r1 at b ⊢
  generalize m_X12_ranBody m (nI 41) = q1 at b ⊢
  simp only [bindv]
  obtain ⟨p1, r2, p2, p3⟩ := pb_c5 b (by omega) (x - nI 1)
  generalize m_X10_bristles_c5 r1 (x - nI 1) = r4 at p1 p3 ⊢
  generalize m_X12_plainTelling q1 (x - nI 1) = q4 at p1 p3 ⊢
  obtain ⟨w1, r5, w2, w3⟩ := al_c5 p3 (by omega) (nI 2)
  generalize m_X3_leans_c5 r4.2 (nI 2) = A at w1 w3 ⊢
  generalize m_X12_leansActs q4.2 (nI 2) = B at w1 w3 ⊢
  refine ⟨?_, r5, by omega, w3⟩
  rw [p1, w1]
set_option maxHeartbeats 100000 in
theorem bg_c6 {t : Ut} {m m0 : Ms} {kd : Int32} {r : Nat} (h : Br t m m0 kd r) (hr : r ≤ 900) (x : Int32) : Br (m_X10_begin_c6 t x) (m_X12_ranBody m x) m0 kd (r + 1) := by
  obtain ⟨h1, h2, h3, h4, h5, h6, h7⟩ := h
  unfold m_X10_begin_c6 m_X12_ranBody
  rw [h1, h2, if_neg (show ¬ nI r < 0 from Int32.not_lt.mpr (nI_le (Nat.zero_le _) (by omega)))]
  by_cases c : nI 20 ≤ nI r
  · rw [if_pos c, if_pos c]
    rw [nI_leI (by decide) (by omega)] at c
    exact ⟨nI_add r 1, nI_add r 1, h3, h4, h5, fun i hi _ => h6 i hi (by omega), h7⟩
  · rw [if_neg c, if_neg c, nI_clamp (by omega)]
    refine ⟨nI_add r 1, nI_add r 1, h3, h4, h5, fun i hi hr => ?_, h7⟩
    show upd (Ut.bo t) r x i = upd (Ms.bo m) r x i
    by_cases z : i = r
    · rw [z, pk_us, pk_us]
    · rw [pk_un z, pk_un z]; exact h6 i hi (by omega)
set_option maxHeartbeats 100000 in
theorem pl_c6 {t : Ut} {m m0 : Ms} {kd : Int32} {r : Nat} (h : Br t m m0 kd r) (hr : r ≤ 900) (x : Int32) : BR (m_X10_leans_c6 t x) (m_X12_plainLeans m x) m0 kd (r + 1) := by
  have b := bg_c6 h hr (nI 1)
  unfold m_X10_leans_c6 m_X12_plainLeans
  generalize m_X10_begin_c6 t (nI 1) = r1 at b ⊢
  generalize m_X12_ranBody m (nI 1) = q1 at b ⊢
  simp only [bindv]
  exact ⟨by show x + Uc.i (Ut.u r1) = x + Ms.nu q1; rw [b.2.2.1], r + 1, Nat.le_refl _, b⟩
set_option maxHeartbeats 100000 in
theorem al_c6 {t : Ut} {m m0 : Ms} {r : Nat} (h : Br t m m0 (nI 5) r) (hr : r ≤ 800) (x : Int32) : BR (m_X6_leans_c6 t x) (m_X12_leansActs m x) m0 (nI 5) (r + 2) := by
  have ki := h.2.2.2.2.1
  unfold m_X12_leansActs
  rw [ki]
  rw [if_pos (show m_X12_isUnder (nI 5) (nI 1) = 0 by decide), if_pos rfl]
  unfold m_X6_leans_c6
  have b := bg_c6 h (by omega) (nI 51)
  generalize m_X10_begin_c6 t (nI 51) = r1 at b ⊢
  generalize m_X12_ranBody m (nI 51) = q1 at b ⊢
  simp only [bindv]
  obtain ⟨p1, r2, p2, p3⟩ := pl_c6 b (by omega) x
  generalize m_X10_leans_c6 r1 x = A at p1 p3 ⊢
  generalize m_X12_plainLeans q1 x = B at p1 p3 ⊢
  refine ⟨?_, r2, by omega, p3⟩
  rw [p1, p3.2.2.1]
set_option maxHeartbeats 100000 in
theorem ps_c6 {t : Ut} {m m0 : Ms} {r : Nat} (h : Br t m m0 (nI 5) r) (hr : r ≤ 700) (x : Int32) : BR (m_X10_says_c6 t x) (m_X12_plainSays m x) m0 (nI 5) (r + 3) := by
  unfold m_X10_says_c6 m_X12_plainSays
  have b := bg_c6 h (by omega) (nI 2)
  generalize m_X10_begin_c6 t (nI 2) = r1 at b ⊢
  generalize m_X12_ranBody m (nI 2) = q1 at b ⊢
  simp only [bindv]
  obtain ⟨p1, r2, p2, p3⟩ := al_c6 b (by omega) x
  generalize m_X6_leans_c6 r1 x = A at p1 p3 ⊢
  generalize m_X12_leansActs q1 x = B at p1 p3 ⊢
  refine ⟨?_, r2, by omega, p3⟩
  rw [p1, p3.2.2.2.1]
set_option maxHeartbeats 100000 in
theorem as_c6 {t : Ut} {m m0 : Ms} {r : Nat} (h : Br t m m0 (nI 5) r) (hr : r ≤ 600) (x : Int32) : BR (m_X2_says_c6 t x) (m_X12_saysActs m x) m0 (nI 5) (r + 4) := by
  have ki := h.2.2.2.2.1
  unfold m_X12_saysActs
  rw [ki]
  rw [if_neg (show ¬ m_X12_isUnder (nI 5) (nI 2) = 0 by decide)]
  unfold m_X2_says_c6
  have b := bg_c6 h (by omega) (nI 21)
  generalize m_X10_begin_c6 t (nI 21) = r1 at b ⊢
  generalize m_X12_ranBody m (nI 21) = q1 at b ⊢
  simp only [bindv]
  obtain ⟨p1, r2, p2, p3⟩ := ps_c6 b (by omega) x
  generalize m_X10_says_c6 r1 x = A at p1 p3 ⊢
  generalize m_X12_plainSays q1 x = B at p1 p3 ⊢
  refine ⟨?_, r2, by omega, p3⟩
  rw [p1]
set_option maxHeartbeats 100000 in
theorem pb_c6 {t : Ut} {m m0 : Ms} {r : Nat} (h : Br t m m0 (nI 5) r) (hr : r ≤ 500) (x : Int32) : BR (m_X10_bristles_c6 t x) (m_X12_plainTelling m x) m0 (nI 5) (r + 5) := by
  unfold m_X10_bristles_c6 m_X12_plainTelling
  have b := bg_c6 h (by omega) (nI 3)
  generalize m_X10_begin_c6 t (nI 3) = r1 at b ⊢
  generalize m_X12_ranBody m (nI 3) = q1 at b ⊢
  simp only [bindv]
  obtain ⟨p1, r2, p2, p3⟩ := as_c6 b (by omega) x
  generalize m_X2_says_c6 r1 x = A at p1 p3 ⊢
  generalize m_X12_saysActs q1 x = B at p1 p3 ⊢
  refine ⟨?_, r2, by omega, p3⟩
  rw [p1]
set_option maxHeartbeats 100000 in
theorem ab_c6 {t : Ut} {m m0 : Ms} {r : Nat} (h : Br t m m0 (nI 5) r) (hr : r ≤ 400) (x : Int32) : BR (m_X10_bristles_c6 t x) (m_X12_bristlesActs m x) m0 (nI 5) (r + 9) := by
  have ki := h.2.2.2.2.1
  unfold m_X12_bristlesActs
  rw [ki]
  rw [if_pos (show m_X12_isUnder (nI 5) (nI 3) = 0 by decide), if_neg (show ¬ nI 5 = nI 4 by decide)]
  obtain ⟨p1, r2, p2, p3⟩ := pb_c6 h (by omega) x
  generalize m_X10_bristles_c6 t x = A at p1 p3 ⊢
  generalize m_X12_plainTelling m x = B at p1 p3 ⊢
  exact ⟨p1, r2, by omega, p3⟩
set_option maxHeartbeats 100000 in
theorem bg_c9 {t : Ut} {m m0 : Ms} {kd : Int32} {r : Nat} (h : Br t m m0 kd r) (hr : r ≤ 900) (x : Int32) : Br (m_X10_begin_c9 t x) (m_X12_ranBody m x) m0 kd (r + 1) := by
  obtain ⟨h1, h2, h3, h4, h5, h6, h7⟩ := h
  unfold m_X10_begin_c9 m_X12_ranBody
  rw [h1, h2, if_neg (show ¬ nI r < 0 from Int32.not_lt.mpr (nI_le (Nat.zero_le _) (by omega)))]
  by_cases c : nI 20 ≤ nI r
  · rw [if_pos c, if_pos c]
    rw [nI_leI (by decide) (by omega)] at c
    exact ⟨nI_add r 1, nI_add r 1, h3, h4, h5, fun i hi _ => h6 i hi (by omega), h7⟩
  · rw [if_neg c, if_neg c, nI_clamp (by omega)]
    refine ⟨nI_add r 1, nI_add r 1, h3, h4, h5, fun i hi hr => ?_, h7⟩
    show upd (Ut.bo t) r x i = upd (Ms.bo m) r x i
    by_cases z : i = r
    · rw [z, pk_us, pk_us]
    · rw [pk_un z, pk_un z]; exact h6 i hi (by omega)
set_option maxHeartbeats 100000 in
theorem pl_c9 {t : Ut} {m m0 : Ms} {kd : Int32} {r : Nat} (h : Br t m m0 kd r) (hr : r ≤ 900) (x : Int32) : BR (m_X10_leans_c9 t x) (m_X12_plainLeans m x) m0 kd (r + 1) := by
  have b := bg_c9 h hr (nI 1)
  unfold m_X10_leans_c9 m_X12_plainLeans
  generalize m_X10_begin_c9 t (nI 1) = r1 at b ⊢
  generalize m_X12_ranBody m (nI 1) = q1 at b ⊢
  simp only [bindv]
  exact ⟨by show x + Uc.i (Ut.u r1) = x + Ms.nu q1; rw [b.2.2.1], r + 1, Nat.le_refl _, b⟩
set_option maxHeartbeats 100000 in
theorem al_c9 {t : Ut} {m m0 : Ms} {r : Nat} (h : Br t m m0 (nI 6) r) (hr : r ≤ 800) (x : Int32) : BR (m_X10_leans_c9 t x) (m_X12_leansActs m x) m0 (nI 6) (r + 2) := by
  have ki := h.2.2.2.2.1
  unfold m_X12_leansActs
  rw [ki]
  rw [if_pos (show m_X12_isUnder (nI 6) (nI 1) = 0 by decide), if_neg (show ¬ nI 6 = nI 5 by decide)]
  obtain ⟨p1, r2, p2, p3⟩ := pl_c9 h (by omega) x
  generalize m_X10_leans_c9 t x = A at p1 p3 ⊢
  generalize m_X12_plainLeans m x = B at p1 p3 ⊢
  exact ⟨p1, r2, by omega, p3⟩
set_option maxHeartbeats 100000 in
theorem ps_c9 {t : Ut} {m m0 : Ms} {r : Nat} (h : Br t m m0 (nI 6) r) (hr : r ≤ 700) (x : Int32) : BR (m_X10_says_c9 t x) (m_X12_plainSays m x) m0 (nI 6) (r + 3) := by
  unfold m_X10_says_c9 m_X12_plainSays
  have b := bg_c9 h (by omega) (nI 2)
  generalize m_X10_begin_c9 t (nI 2) = r1 at b ⊢
  generalize m_X12_ranBody m (nI 2) = q1 at b ⊢
  simp only [bindv]
  obtain ⟨p1, r2, p2, p3⟩ := al_c9 b (by omega) x
  generalize m_X10_leans_c9 r1 x = A at p1 p3 ⊢
  generalize m_X12_leansActs q1 x = B at p1 p3 ⊢
  refine ⟨?_, r2, by omega, p3⟩
  rw [p1, p3.2.2.2.1]
set_option maxHeartbeats 100000 in
theorem as_c9 {t : Ut} {m m0 : Ms} {r : Nat} (h : Br t m m0 (nI 6) r) (hr : r ≤ 600) (x : Int32) : BR (m_X9_says_c9 t x) (m_X12_saysActs m x) m0 (nI 6) (r + 4) := by
  have ki := h.2.2.2.2.1
  unfold m_X12_saysActs
  rw [ki]
  rw [if_pos (show m_X12_isUnder (nI 6) (nI 2) = 0 by decide), if_pos rfl]
  unfold m_X9_says_c9
  have b := bg_c9 h (by omega) (nI 61)
  generalize m_X10_begin_c9 t (nI 61) = r1 at b ⊢
  generalize m_X12_ranBody m (nI 61) = q1 at b ⊢
  simp only [bindv]
  obtain ⟨p1, r2, p2, p3⟩ := ps_c9 b (by omega) x
  generalize m_X10_says_c9 r1 x = A at p1 p3 ⊢
  generalize m_X12_plainSays q1 x = B at p1 p3 ⊢
  refine ⟨?_, r2, by omega, p3⟩
  rw [p1, p3.2.2.2.1]
set_option maxHeartbeats 100000 in
theorem pb_c9 {t : Ut} {m m0 : Ms} {r : Nat} (h : Br t m m0 (nI 6) r) (hr : r ≤ 500) (x : Int32) : BR (m_X10_bristles_c9 t x) (m_X12_plainTelling m x) m0 (nI 6) (r + 5) := by
  unfold m_X10_bristles_c9 m_X12_plainTelling
  have b := bg_c9 h (by omega) (nI 3)
  generalize m_X10_begin_c9 t (nI 3) = r1 at b ⊢
  generalize m_X12_ranBody m (nI 3) = q1 at b ⊢
  simp only [bindv]
  obtain ⟨p1, r2, p2, p3⟩ := as_c9 b (by omega) x
  generalize m_X9_says_c9 r1 x = A at p1 p3 ⊢
  generalize m_X12_saysActs q1 x = B at p1 p3 ⊢
  refine ⟨?_, r2, by omega, p3⟩
  rw [p1]
set_option maxHeartbeats 100000 in
theorem ab_c9 {t : Ut} {m m0 : Ms} {r : Nat} (h : Br t m m0 (nI 6) r) (hr : r ≤ 400) (x : Int32) : BR (m_X0_bristles_c9 t x) (m_X12_bristlesActs m x) m0 (nI 6) (r + 9) := by
  have ki := h.2.2.2.2.1
  unfold m_X12_bristlesActs
  rw [ki]
  rw [if_neg (show ¬ m_X12_isUnder (nI 6) (nI 3) = 0 by decide)]
  unfold m_X0_bristles_c9
  have b := bg_c9 h (by omega) (nI 31)
  generalize m_X10_begin_c9 t (nI 31) = r1 at b ⊢
  generalize m_X12_ranBody m (nI 31) = q1 at b ⊢
  simp only [bindv]
  obtain ⟨p1, r2, p2, p3⟩ := pb_c9 b (by omega) x
  generalize m_X10_bristles_c9 r1 x = A at p1 p3 ⊢
  generalize m_X12_plainTelling q1 x = B at p1 p3 ⊢
  refine ⟨?_, r2, by omega, p3⟩
  rw [p1]
set_option maxHeartbeats 100000 in
theorem act_no {s : Us} {m : Ms} {K : Nat} (h : Rel s m K) : Rel (Us.nw s, Us.kp s, Us.ah s, Us.h s, Us.k0 s, Us.k1 s, Us.k2 s, Us.k3 s, Us.k4 s, Us.k5 s, Us.k6 s, Us.st s, Us.l0 s, Us.l1 s, Us.l2 s, Us.l3 s, Us.l4 s, Us.l5 s, Us.b0 s, Us.b1 s, Us.b2 s, Us.b3 s, Us.b4 s, Us.b5 s, Us.b6 s, Us.it s, Value.null) (Ms.th m, Ms.s m, Ms.im m, Ms.fr m, Ms.hi m, Ms.ac m, Ms.sp m, Ms.en m, Ms.wr m, Ms.op m, Ms.bb m, Ms.tr m, Ms.su m, Ms.lf m, Ms.lk m, Ms.nx m, Ms.bo m, nI 0, Ms.ki m, Ms.nu m, Ms.tv m) K := by
  obtain ⟨lk, U, T, G, hs, h0, ht, hi, ha⟩ := h
  exact ⟨lk, U, T, G, hs, h0, ht, hi, Or.inl ⟨rfl, rfl⟩⟩
set_option maxHeartbeats 100000 in
theorem act_at0 {s : Us} {m q : Ms} {K r : Nat} {t : Ut} (h : Rel s m K) (hr : r ≤ 1000) (b : Br t q m (nI 0) r) : Rel (Us.nw s, Us.kp s, Us.ah s, Us.h s, Ut.u t, Us.k1 s, Us.k2 s, Us.k3 s, Us.k4 s, Us.k5 s, Us.k6 s, Us.st s, Us.l0 s, Us.l1 s, Us.l2 s, Us.l3 s, Us.l4 s, Us.l5 s, Ut.bo t, Us.b1 s, Us.b2 s, Us.b3 s, Us.b4 s, Us.b5 s, Us.b6 s, Us.it s, (Value.ref 21)) q K := by
  obtain ⟨lk, U, T, G, hs, h0, ht, hi, ha⟩ := h
  obtain ⟨b1, b2, b3, b4, b5, b6, a1, a2, a3, a4, a5⟩ := b
  refine ⟨⟨by rw [a5]; exact lk.1, fun i hi => by rw [a4]; exact lk.2 i hi⟩, U, T, G, by rw [a1]; exact hs, h0, ht, ?_, Or.inr ⟨0, r, by decide, hr, rfl, b1, b2, b6⟩⟩
  unfold Rim at *
  rw [a2, a3]
  exact hi
set_option maxHeartbeats 100000 in
theorem act_at1 {s : Us} {m q : Ms} {K r : Nat} {t : Ut} (h : Rel s m K) (hr : r ≤ 1000) (b : Br t q m (nI 1) r) : Rel (Us.nw s, Us.kp s, Us.ah s, Us.h s, Us.k0 s, Ut.u t, Us.k2 s, Us.k3 s, Us.k4 s, Us.k5 s, Us.k6 s, Us.st s, Us.l0 s, Us.l1 s, Us.l2 s, Us.l3 s, Us.l4 s, Us.l5 s, Us.b0 s, Ut.bo t, Us.b2 s, Us.b3 s, Us.b4 s, Us.b5 s, Us.b6 s, Us.it s, (Value.ref 22)) q K := by
  obtain ⟨lk, U, T, G, hs, h0, ht, hi, ha⟩ := h
  obtain ⟨b1, b2, b3, b4, b5, b6, a1, a2, a3, a4, a5⟩ := b
  refine ⟨⟨by rw [a5]; exact lk.1, fun i hi => by rw [a4]; exact lk.2 i hi⟩, U, T, G, by rw [a1]; exact hs, h0, ht, ?_, Or.inr ⟨1, r, by decide, hr, rfl, b1, b2, b6⟩⟩
  unfold Rim at *
  rw [a2, a3]
  exact hi
set_option maxHeartbeats 100000 in
theorem act_at2 {s : Us} {m q : Ms} {K r : Nat} {t : Ut} (h : Rel s m K) (hr : r ≤ 1000) (b : Br t q m (nI 2) r) : Rel (Us.nw s, Us.kp s, Us.ah s, Us.h s, Us.k0 s, Us.k1 s, Ut.u t, Us.k3 s, Us.k4 s, Us.k5 s, Us.k6 s, Us.st s, Us.l0 s, Us.l1 s, Us.l2 s, Us.l3 s, Us.l4 s, Us.l5 s, Us.b0 s, Us.b1 s, Ut.bo t, Us.b3 s, Us.b4 s, Us.b5 s, Us.b6 s, Us.it s, (Value.ref 23)) q K := by
  obtain ⟨lk, U, T, G, hs, h0, ht, hi, ha⟩ := h
  obtain ⟨b1, b2, b3, b4, b5, b6, a1, a2, a3, a4, a5⟩ := b
  refine ⟨⟨by rw [a5]; exact lk.1, fun i hi => by rw [a4]; exact lk.2 i hi⟩, U, T, G, by rw [a1]; exact hs, h0, ht, ?_, Or.inr ⟨2, r, by decide, hr, rfl, b1, b2, b6⟩⟩
  unfold Rim at *
  rw [a2, a3]
  exact hi
set_option maxHeartbeats 100000 in
theorem act_at3 {s : Us} {m q : Ms} {K r : Nat} {t : Ut} (h : Rel s m K) (hr : r ≤ 1000) (b : Br t q m (nI 3) r) : Rel (Us.nw s, Us.kp s, Us.ah s, Us.h s, Us.k0 s, Us.k1 s, Us.k2 s, Ut.u t, Us.k4 s, Us.k5 s, Us.k6 s, Us.st s, Us.l0 s, Us.l1 s, Us.l2 s, Us.l3 s, Us.l4 s, Us.l5 s, Us.b0 s, Us.b1 s, Us.b2 s, Ut.bo t, Us.b4 s, Us.b5 s, Us.b6 s, Us.it s, (Value.ref 24)) q K := by
  obtain ⟨lk, U, T, G, hs, h0, ht, hi, ha⟩ := h
  obtain ⟨b1, b2, b3, b4, b5, b6, a1, a2, a3, a4, a5⟩ := b
  refine ⟨⟨by rw [a5]; exact lk.1, fun i hi => by rw [a4]; exact lk.2 i hi⟩, U, T, G, by rw [a1]; exact hs, h0, ht, ?_, Or.inr ⟨3, r, by decide, hr, rfl, b1, b2, b6⟩⟩
  unfold Rim at *
  rw [a2, a3]
  exact hi
set_option maxHeartbeats 100000 in
theorem act_at4 {s : Us} {m q : Ms} {K r : Nat} {t : Ut} (h : Rel s m K) (hr : r ≤ 1000) (b : Br t q m (nI 4) r) : Rel (Us.nw s, Us.kp s, Us.ah s, Us.h s, Us.k0 s, Us.k1 s, Us.k2 s, Us.k3 s, Ut.u t, Us.k5 s, Us.k6 s, Us.st s, Us.l0 s, Us.l1 s, Us.l2 s, Us.l3 s, Us.l4 s, Us.l5 s, Us.b0 s, Us.b1 s, Us.b2 s, Us.b3 s, Ut.bo t, Us.b5 s, Us.b6 s, Us.it s, (Value.ref 25)) q K := by
  obtain ⟨lk, U, T, G, hs, h0, ht, hi, ha⟩ := h
  obtain ⟨b1, b2, b3, b4, b5, b6, a1, a2, a3, a4, a5⟩ := b
  refine ⟨⟨by rw [a5]; exact lk.1, fun i hi => by rw [a4]; exact lk.2 i hi⟩, U, T, G, by rw [a1]; exact hs, h0, ht, ?_, Or.inr ⟨4, r, by decide, hr, rfl, b1, b2, b6⟩⟩
  unfold Rim at *
  rw [a2, a3]
  exact hi
set_option maxHeartbeats 100000 in
theorem act_at5 {s : Us} {m q : Ms} {K r : Nat} {t : Ut} (h : Rel s m K) (hr : r ≤ 1000) (b : Br t q m (nI 5) r) : Rel (Us.nw s, Us.kp s, Us.ah s, Us.h s, Us.k0 s, Us.k1 s, Us.k2 s, Us.k3 s, Us.k4 s, Ut.u t, Us.k6 s, Us.st s, Us.l0 s, Us.l1 s, Us.l2 s, Us.l3 s, Us.l4 s, Us.l5 s, Us.b0 s, Us.b1 s, Us.b2 s, Us.b3 s, Us.b4 s, Ut.bo t, Us.b6 s, Us.it s, (Value.ref 26)) q K := by
  obtain ⟨lk, U, T, G, hs, h0, ht, hi, ha⟩ := h
  obtain ⟨b1, b2, b3, b4, b5, b6, a1, a2, a3, a4, a5⟩ := b
  refine ⟨⟨by rw [a5]; exact lk.1, fun i hi => by rw [a4]; exact lk.2 i hi⟩, U, T, G, by rw [a1]; exact hs, h0, ht, ?_, Or.inr ⟨5, r, by decide, hr, rfl, b1, b2, b6⟩⟩
  unfold Rim at *
  rw [a2, a3]
  exact hi
set_option maxHeartbeats 100000 in
theorem act_at6 {s : Us} {m q : Ms} {K r : Nat} {t : Ut} (h : Rel s m K) (hr : r ≤ 1000) (b : Br t q m (nI 6) r) : Rel (Us.nw s, Us.kp s, Us.ah s, Us.h s, Us.k0 s, Us.k1 s, Us.k2 s, Us.k3 s, Us.k4 s, Us.k5 s, Ut.u t, Us.st s, Us.l0 s, Us.l1 s, Us.l2 s, Us.l3 s, Us.l4 s, Us.l5 s, Us.b0 s, Us.b1 s, Us.b2 s, Us.b3 s, Us.b4 s, Us.b5 s, Ut.bo t, Us.it s, (Value.ref 27)) q K := by
  obtain ⟨lk, U, T, G, hs, h0, ht, hi, ha⟩ := h
  obtain ⟨b1, b2, b3, b4, b5, b6, a1, a2, a3, a4, a5⟩ := b
  refine ⟨⟨by rw [a5]; exact lk.1, fun i hi => by rw [a4]; exact lk.2 i hi⟩, U, T, G, by rw [a1]; exact hs, h0, ht, ?_, Or.inr ⟨6, r, by decide, hr, rfl, b1, b2, b6⟩⟩
  unfold Rim at *
  rw [a2, a3]
  exact hi
set_option maxHeartbeats 100000 in
theorem a_act {s : Us} {m : Ms} {K : Nat} (h : Rel s m K) (p a x : Int32) : (m_X11_act s p a x).1 = (m_X12_act m p a x).1 ∧ Rel (m_X11_act s p a x).2 (m_X12_act m p a x).2 K := by
  have hh := h
  obtain ⟨lk, U, T, G, hs, h0, ht, hi, ha⟩ := h
  obtain ⟨u, t, g, kn, ro, -⟩ := hs
  have u6 := u.1
  have no := act_no hh
  unfold m_X11_act m_X12_act
  rw [isU u.1 u.2.2, show m_X7_has (Sc.sz (Sf.c (Us.nw s))) p = m_X7_has (nI U) p by rw [u.2.1]]
  by_cases c1 : m_X7_has (nI U) p = 0
  · rw [if_pos c1, if_pos c1]; exact ⟨rfl, no⟩
  rw [if_neg c1, if_neg c1]
  obtain ⟨i, hi2, rfl⟩ := has_ex c1 u.1
  by_cases c2 : m_X12_in a (nI 0) (nI 2) = 0
  · rw [if_pos c2]
    by_cases c3 : a < 0
    · rw [if_pos c3]; exact ⟨rfl, no⟩
    · rw [if_neg c3, if_neg]
      · exact ⟨rfl, no⟩
      · intro c4
        unfold m_X12_in at c2
        rw [if_neg (show ¬ a < nI 0 from c3), if_neg (Int32.not_lt.mpr c4)] at c2
        exact absurd c2 (by decide)
  rw [if_neg c2]
  have c3 : ¬ a < 0 := fun q => c2 (by unfold m_X12_in; rw [if_pos (show a < nI 0 from q)]; rfl)
  have c4 : a ≤ nI 2 := by
    by_cases q : a ≤ nI 2
    · exact q
    · exact absurd (by unfold m_X12_in; rw [if_neg (show ¬ a < nI 0 from c3), if_pos (Int32.not_le.mp q)]; rfl) c2
  rw [if_neg c3, if_pos c4]
  obtain ⟨r1, r2, r3, r4, r5, r6, r7⟩ := ro i hi2
  rw [ck2 (by omega), ck2 (by omega), nI_clamp (by omega), r1, r2]
  rcases or7 r5 with q | q | q | q | q | q | q
  · rw [q]
    rw [if_pos rfl]
    have b0 : Br (m_X10_wake_c10 (Us.k0 s, Us.b0 s) (nI i) (Sc.vv (Sf.c (Us.nw s)) i)) (Ms.th m, Ms.s m, Ms.im m, Ms.fr m, Ms.hi m, Ms.ac m, Ms.sp m, Ms.en m, Ms.wr m, Ms.op m, Ms.bb m, Ms.tr m, Ms.su m, Ms.lf m, Ms.lk m, Ms.nx m, Ms.bo m, nI 0, (nI 0), (nI i), (Sc.vv (Sf.c (Us.nw s)) i)) m (nI 0) 0 := ⟨rfl, rfl, rfl, rfl, rfl, fun i _ hi => by omega, rfl, rfl, rfl, rfl, rfl⟩
    generalize m_X10_wake_c10 (Us.k0 s, Us.b0 s) (nI i) (Sc.vv (Sf.c (Us.nw s)) i) = t at b0 ⊢
    generalize (Ms.th m, Ms.s m, Ms.im m, Ms.fr m, Ms.hi m, Ms.ac m, Ms.sp m, Ms.en m, Ms.wr m, Ms.op m, Ms.bb m, Ms.tr m, Ms.su m, Ms.lf m, Ms.lk m, Ms.nx m, Ms.bo m, nI 0, (nI 0), (nI i), (Sc.vv (Sf.c (Us.nw s)) i)) = q at b0 ⊢
    simp only [bindv]
    by_cases a0 : a = 0
    · rw [if_pos a0, if_pos a0]
      obtain ⟨p1, r, p2, p3⟩ := al_c10 b0 (by decide) x
      generalize m_X10_leans_c10 t x = A at p1 p3 ⊢
      generalize m_X12_leansActs q x = B at p1 p3 ⊢
      exact ⟨p1, act_at0 hh (by omega) p3⟩
    rw [if_neg a0, if_neg a0]
    by_cases a1 : a = nI 1
    · rw [if_pos a1, if_pos a1]
      obtain ⟨p1, r, p2, p3⟩ := as_c10 b0 (by decide) x
      generalize m_X10_says_c10 t x = A at p1 p3 ⊢
      generalize m_X12_saysActs q x = B at p1 p3 ⊢
      exact ⟨p1, act_at0 hh (by omega) p3⟩
    rw [if_neg a1, if_neg a1]
    obtain ⟨p1, r, p2, p3⟩ := ab_c10 b0 (by decide) x
    generalize m_X10_bristles_c10 t x = A at p1 p3 ⊢
    generalize m_X12_bristlesActs q x = B at p1 p3 ⊢
    exact ⟨p1, act_at0 hh (by omega) p3⟩
  · rw [q]
    rw [if_neg (show ¬ nI 1 = nI 0 by decide), if_pos rfl]
    have b0 : Br (m_X10_wake_c3 (Us.k1 s, Us.b1 s) (nI i) (Sc.vv (Sf.c (Us.nw s)) i)) (Ms.th m, Ms.s m, Ms.im m, Ms.fr m, Ms.hi m, Ms.ac m, Ms.sp m, Ms.en m, Ms.wr m, Ms.op m, Ms.bb m, Ms.tr m, Ms.su m, Ms.lf m, Ms.lk m, Ms.nx m, Ms.bo m, nI 0, (nI 1), (nI i), (Sc.vv (Sf.c (Us.nw s)) i)) m (nI 1) 0 := ⟨rfl, rfl, rfl, rfl, rfl, fun i _ hi => by omega, rfl, rfl, rfl, rfl, rfl⟩
    generalize m_X10_wake_c3 (Us.k1 s, Us.b1 s) (nI i) (Sc.vv (Sf.c (Us.nw s)) i) = t at b0 ⊢
    generalize (Ms.th m, Ms.s m, Ms.im m, Ms.fr m, Ms.hi m, Ms.ac m, Ms.sp m, Ms.en m, Ms.wr m, Ms.op m, Ms.bb m, Ms.tr m, Ms.su m, Ms.lf m, Ms.lk m, Ms.nx m, Ms.bo m, nI 0, (nI 1), (nI i), (Sc.vv (Sf.c (Us.nw s)) i)) = q at b0 ⊢
    simp only [bindv]
    by_cases a0 : a = 0
    · rw [if_pos a0, if_pos a0]
      obtain ⟨p1, r, p2, p3⟩ := al_c3 b0 (by decide) x
      generalize m_X3_leans_c3 t x = A at p1 p3 ⊢
      generalize m_X12_leansActs q x = B at p1 p3 ⊢
      exact ⟨p1, act_at1 hh (by omega) p3⟩
    rw [if_neg a0, if_neg a0]
    by_cases a1 : a = nI 1
    · rw [if_pos a1, if_pos a1]
      obtain ⟨p1, r, p2, p3⟩ := as_c3 b0 (by decide) x
      generalize m_X10_says_c3 t x = A at p1 p3 ⊢
      generalize m_X12_saysActs q x = B at p1 p3 ⊢
      exact ⟨p1, act_at1 hh (by omega) p3⟩
    rw [if_neg a1, if_neg a1]
    obtain ⟨p1, r, p2, p3⟩ := ab_c3 b0 (by decide) x
    generalize m_X10_bristles_c3 t x = A at p1 p3 ⊢
    generalize m_X12_bristlesActs q x = B at p1 p3 ⊢
    exact ⟨p1, act_at1 hh (by omega) p3⟩
  · rw [q]
    rw [if_neg (show ¬ nI 2 = nI 0 by decide), if_neg (show ¬ nI 2 = nI 1 by decide), if_pos rfl]
    have b0 : Br (m_X10_wake_c2 (Us.k2 s, Us.b2 s) (nI i) (Sc.vv (Sf.c (Us.nw s)) i)) (Ms.th m, Ms.s m, Ms.im m, Ms.fr m, Ms.hi m, Ms.ac m, Ms.sp m, Ms.en m, Ms.wr m, Ms.op m, Ms.bb m, Ms.tr m, Ms.su m, Ms.lf m, Ms.lk m, Ms.nx m, Ms.bo m, nI 0, (nI 2), (nI i), (Sc.vv (Sf.c (Us.nw s)) i)) m (nI 2) 0 := ⟨rfl, rfl, rfl, rfl, rfl, fun i _ hi => by omega, rfl, rfl, rfl, rfl, rfl⟩
    generalize m_X10_wake_c2 (Us.k2 s, Us.b2 s) (nI i) (Sc.vv (Sf.c (Us.nw s)) i) = t at b0 ⊢
    generalize (Ms.th m, Ms.s m, Ms.im m, Ms.fr m, Ms.hi m, Ms.ac m, Ms.sp m, Ms.en m, Ms.wr m, Ms.op m, Ms.bb m, Ms.tr m, Ms.su m, Ms.lf m, Ms.lk m, Ms.nx m, Ms.bo m, nI 0, (nI 2), (nI i), (Sc.vv (Sf.c (Us.nw s)) i)) = q at b0 ⊢
    simp only [bindv]
    by_cases a0 : a = 0
    · rw [if_pos a0, if_pos a0]
      obtain ⟨p1, r, p2, p3⟩ := al_c2 b0 (by decide) x
      generalize m_X10_leans_c2 t x = A at p1 p3 ⊢
      generalize m_X12_leansActs q x = B at p1 p3 ⊢
      exact ⟨p1, act_at2 hh (by omega) p3⟩
    rw [if_neg a0, if_neg a0]
    by_cases a1 : a = nI 1
    · rw [if_pos a1, if_pos a1]
      obtain ⟨p1, r, p2, p3⟩ := as_c2 b0 (by decide) x
      generalize m_X2_says_c2 t x = A at p1 p3 ⊢
      generalize m_X12_saysActs q x = B at p1 p3 ⊢
      exact ⟨p1, act_at2 hh (by omega) p3⟩
    rw [if_neg a1, if_neg a1]
    obtain ⟨p1, r, p2, p3⟩ := ab_c2 b0 (by decide) x
    generalize m_X10_bristles_c2 t x = A at p1 p3 ⊢
    generalize m_X12_bristlesActs q x = B at p1 p3 ⊢
    exact ⟨p1, act_at2 hh (by omega) p3⟩
  · rw [q]
    rw [if_neg (show ¬ nI 3 = nI 0 by decide), if_neg (show ¬ nI 3 = nI 1 by decide), if_neg (show ¬ nI 3 = nI 2 by decide), if_pos rfl]
    have b0 : Br (m_X10_wake_c0 (Us.k3 s, Us.b3 s) (nI i) (Sc.vv (Sf.c (Us.nw s)) i)) (Ms.th m, Ms.s m, Ms.im m, Ms.fr m, Ms.hi m, Ms.ac m, Ms.sp m, Ms.en m, Ms.wr m, Ms.op m, Ms.bb m, Ms.tr m, Ms.su m, Ms.lf m, Ms.lk m, Ms.nx m, Ms.bo m, nI 0, (nI 3), (nI i), (Sc.vv (Sf.c (Us.nw s)) i)) m (nI 3) 0 := ⟨rfl, rfl, rfl, rfl, rfl, fun i _ hi => by omega, rfl, rfl, rfl, rfl, rfl⟩
    generalize m_X10_wake_c0 (Us.k3 s, Us.b3 s) (nI i) (Sc.vv (Sf.c (Us.nw s)) i) = t at b0 ⊢
    generalize (Ms.th m, Ms.s m, Ms.im m, Ms.fr m, Ms.hi m, Ms.ac m, Ms.sp m, Ms.en m, Ms.wr m, Ms.op m, Ms.bb m, Ms.tr m, Ms.su m, Ms.lf m, Ms.lk m, Ms.nx m, Ms.bo m, nI 0, (nI 3), (nI i), (Sc.vv (Sf.c (Us.nw s)) i)) = q at b0 ⊢
    simp only [bindv]
    by_cases a0 : a = 0
    · rw [if_pos a0, if_pos a0]
      obtain ⟨p1, r, p2, p3⟩ := al_c0 b0 (by decide) x
      generalize m_X10_leans_c0 t x = A at p1 p3 ⊢
      generalize m_X12_leansActs q x = B at p1 p3 ⊢
      exact ⟨p1, act_at3 hh (by omega) p3⟩
    rw [if_neg a0, if_neg a0]
    by_cases a1 : a = nI 1
    · rw [if_pos a1, if_pos a1]
      obtain ⟨p1, r, p2, p3⟩ := as_c0 b0 (by decide) x
      generalize m_X10_says_c0 t x = A at p1 p3 ⊢
      generalize m_X12_saysActs q x = B at p1 p3 ⊢
      exact ⟨p1, act_at3 hh (by omega) p3⟩
    rw [if_neg a1, if_neg a1]
    obtain ⟨p1, r, p2, p3⟩ := ab_c0 b0 (by decide) x
    generalize m_X0_bristles_c0 t x = A at p1 p3 ⊢
    generalize m_X12_bristlesActs q x = B at p1 p3 ⊢
    exact ⟨p1, act_at3 hh (by omega) p3⟩
  · rw [q]
    rw [if_neg (show ¬ nI 4 = nI 0 by decide), if_neg (show ¬ nI 4 = nI 1 by decide), if_neg (show ¬ nI 4 = nI 2 by decide), if_neg (show ¬ nI 4 = nI 3 by decide), if_pos rfl]
    have b0 : Br (m_X10_wake_c5 (Us.k4 s, Us.b4 s) (nI i) (Sc.vv (Sf.c (Us.nw s)) i)) (Ms.th m, Ms.s m, Ms.im m, Ms.fr m, Ms.hi m, Ms.ac m, Ms.sp m, Ms.en m, Ms.wr m, Ms.op m, Ms.bb m, Ms.tr m, Ms.su m, Ms.lf m, Ms.lk m, Ms.nx m, Ms.bo m, nI 0, (nI 4), (nI i), (Sc.vv (Sf.c (Us.nw s)) i)) m (nI 4) 0 := ⟨rfl, rfl, rfl, rfl, rfl, fun i _ hi => by omega, rfl, rfl, rfl, rfl, rfl⟩
    generalize m_X10_wake_c5 (Us.k4 s, Us.b4 s) (nI i) (Sc.vv (Sf.c (Us.nw s)) i) = t at b0 ⊢
    generalize (Ms.th m, Ms.s m, Ms.im m, Ms.fr m, Ms.hi m, Ms.ac m, Ms.sp m, Ms.en m, Ms.wr m, Ms.op m, Ms.bb m, Ms.tr m, Ms.su m, Ms.lf m, Ms.lk m, Ms.nx m, Ms.bo m, nI 0, (nI 4), (nI i), (Sc.vv (Sf.c (Us.nw s)) i)) = q at b0 ⊢
    simp only [bindv]
    by_cases a0 : a = 0
    · rw [if_pos a0, if_pos a0]
      obtain ⟨p1, r, p2, p3⟩ := al_c5 b0 (by decide) x
      generalize m_X3_leans_c5 t x = A at p1 p3 ⊢
      generalize m_X12_leansActs q x = B at p1 p3 ⊢
      exact ⟨p1, act_at4 hh (by omega) p3⟩
    rw [if_neg a0, if_neg a0]
    by_cases a1 : a = nI 1
    · rw [if_pos a1, if_pos a1]
      obtain ⟨p1, r, p2, p3⟩ := as_c5 b0 (by decide) x
      generalize m_X10_says_c5 t x = A at p1 p3 ⊢
      generalize m_X12_saysActs q x = B at p1 p3 ⊢
      exact ⟨p1, act_at4 hh (by omega) p3⟩
    rw [if_neg a1, if_neg a1]
    obtain ⟨p1, r, p2, p3⟩ := ab_c5 b0 (by decide) x
    generalize m_X5_bristles_c5 t x = A at p1 p3 ⊢
    generalize m_X12_bristlesActs q x = B at p1 p3 ⊢
    exact ⟨p1, act_at4 hh (by omega) p3⟩
  · rw [q]
    rw [if_neg (show ¬ nI 5 = nI 0 by decide), if_neg (show ¬ nI 5 = nI 1 by decide), if_neg (show ¬ nI 5 = nI 2 by decide), if_neg (show ¬ nI 5 = nI 3 by decide), if_neg (show ¬ nI 5 = nI 4 by decide), if_pos rfl]
    have b0 : Br (m_X10_wake_c6 (Us.k5 s, Us.b5 s) (nI i) (Sc.vv (Sf.c (Us.nw s)) i)) (Ms.th m, Ms.s m, Ms.im m, Ms.fr m, Ms.hi m, Ms.ac m, Ms.sp m, Ms.en m, Ms.wr m, Ms.op m, Ms.bb m, Ms.tr m, Ms.su m, Ms.lf m, Ms.lk m, Ms.nx m, Ms.bo m, nI 0, (nI 5), (nI i), (Sc.vv (Sf.c (Us.nw s)) i)) m (nI 5) 0 := ⟨rfl, rfl, rfl, rfl, rfl, fun i _ hi => by omega, rfl, rfl, rfl, rfl, rfl⟩
    generalize m_X10_wake_c6 (Us.k5 s, Us.b5 s) (nI i) (Sc.vv (Sf.c (Us.nw s)) i) = t at b0 ⊢
    generalize (Ms.th m, Ms.s m, Ms.im m, Ms.fr m, Ms.hi m, Ms.ac m, Ms.sp m, Ms.en m, Ms.wr m, Ms.op m, Ms.bb m, Ms.tr m, Ms.su m, Ms.lf m, Ms.lk m, Ms.nx m, Ms.bo m, nI 0, (nI 5), (nI i), (Sc.vv (Sf.c (Us.nw s)) i)) = q at b0 ⊢
    simp only [bindv]
    by_cases a0 : a = 0
    · rw [if_pos a0, if_pos a0]
      obtain ⟨p1, r, p2, p3⟩ := al_c6 b0 (by decide) x
      generalize m_X6_leans_c6 t x = A at p1 p3 ⊢
      generalize m_X12_leansActs q x = B at p1 p3 ⊢
      exact ⟨p1, act_at5 hh (by omega) p3⟩
    rw [if_neg a0, if_neg a0]
    by_cases a1 : a = nI 1
    · rw [if_pos a1, if_pos a1]
      obtain ⟨p1, r, p2, p3⟩ := as_c6 b0 (by decide) x
      generalize m_X2_says_c6 t x = A at p1 p3 ⊢
      generalize m_X12_saysActs q x = B at p1 p3 ⊢
      exact ⟨p1, act_at5 hh (by omega) p3⟩
    rw [if_neg a1, if_neg a1]
    obtain ⟨p1, r, p2, p3⟩ := ab_c6 b0 (by decide) x
    generalize m_X10_bristles_c6 t x = A at p1 p3 ⊢
    generalize m_X12_bristlesActs q x = B at p1 p3 ⊢
    exact ⟨p1, act_at5 hh (by omega) p3⟩
  · rw [q]
    rw [if_neg (show ¬ nI 6 = nI 0 by decide), if_neg (show ¬ nI 6 = nI 1 by decide), if_neg (show ¬ nI 6 = nI 2 by decide), if_neg (show ¬ nI 6 = nI 3 by decide), if_neg (show ¬ nI 6 = nI 4 by decide), if_neg (show ¬ nI 6 = nI 5 by decide)]
    have b0 : Br (m_X10_wake_c9 (Us.k6 s, Us.b6 s) (nI i) (Sc.vv (Sf.c (Us.nw s)) i)) (Ms.th m, Ms.s m, Ms.im m, Ms.fr m, Ms.hi m, Ms.ac m, Ms.sp m, Ms.en m, Ms.wr m, Ms.op m, Ms.bb m, Ms.tr m, Ms.su m, Ms.lf m, Ms.lk m, Ms.nx m, Ms.bo m, nI 0, (nI 6), (nI i), (Sc.vv (Sf.c (Us.nw s)) i)) m (nI 6) 0 := ⟨rfl, rfl, rfl, rfl, rfl, fun i _ hi => by omega, rfl, rfl, rfl, rfl, rfl⟩
    generalize m_X10_wake_c9 (Us.k6 s, Us.b6 s) (nI i) (Sc.vv (Sf.c (Us.nw s)) i) = t at b0 ⊢
    generalize (Ms.th m, Ms.s m, Ms.im m, Ms.fr m, Ms.hi m, Ms.ac m, Ms.sp m, Ms.en m, Ms.wr m, Ms.op m, Ms.bb m, Ms.tr m, Ms.su m, Ms.lf m, Ms.lk m, Ms.nx m, Ms.bo m, nI 0, (nI 6), (nI i), (Sc.vv (Sf.c (Us.nw s)) i)) = q at b0 ⊢
    simp only [bindv]
    by_cases a0 : a = 0
    · rw [if_pos a0, if_pos a0]
      obtain ⟨p1, r, p2, p3⟩ := al_c9 b0 (by decide) x
      generalize m_X10_leans_c9 t x = A at p1 p3 ⊢
      generalize m_X12_leansActs q x = B at p1 p3 ⊢
      exact ⟨p1, act_at6 hh (by omega) p3⟩
    rw [if_neg a0, if_neg a0]
    by_cases a1 : a = nI 1
    · rw [if_pos a1, if_pos a1]
      obtain ⟨p1, r, p2, p3⟩ := as_c9 b0 (by decide) x
      generalize m_X9_says_c9 t x = A at p1 p3 ⊢
      generalize m_X12_saysActs q x = B at p1 p3 ⊢
      exact ⟨p1, act_at6 hh (by omega) p3⟩
    rw [if_neg a1, if_neg a1]
    obtain ⟨p1, r, p2, p3⟩ := ab_c9 b0 (by decide) x
    generalize m_X0_bristles_c9 t x = A at p1 p3 ⊢
    generalize m_X12_bristlesActs q x = B at p1 p3 ⊢
    exact ⟨p1, act_at6 hh (by omega) p3⟩

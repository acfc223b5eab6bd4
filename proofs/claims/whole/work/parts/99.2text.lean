/-! a ledge is read, by both: words, clauses, the whole text -/
theorem ch_1000 : ∀ k, k < 5 → (m_J0_charAt_5068e_1000 (nI k)).toNatClampNeg < 1000 ∧ m_J0_charAt_5068e_1000 (nI k) = nI (m_J0_charAt_5068e_1000 (nI k)).toNatClampNeg := by decide +kernel
set_option maxHeartbeats 200000 in
theorem sk_sp_1000 (mm : Ms) : ∀ (x k : Nat) (i : Int32) (m1 : Ms), k ≤ 5 → x + k = 6 → i = nI k → ¬ Ms.wr m1 = 0 → Sk m1 (l_X12_spells_1000_2 mm x i m1) := by
  intro x
  induction x with
  | zero => intro k i m1 h1 h2; omega
  | succ x ih =>
    intro k i m1 h1 h2 h3 h4
    rw [q_X12_spells_1000_2]
    by_cases c : nI 5 ≤ i
    · rw [if_pos c]; exact Sk.rf h4
    · rw [if_neg c, bindv]
      have hk := cnt_lt h3 h1 (by decide) c
      have s := sk_must h4 (m_J0_charAt_5068e_1000 i)
      exact s.tr (ih (k + 1) _ _ (by omega) (by omega) (by rw [h3]; exact nI_add k 1) s.1)
set_option maxHeartbeats 200000 in
theorem wd_l_1000 {m0 : Ms} {a e : Nat} {T0 : Fn} (ts : Lr) (mm : Ms) : ∀ (x k : Nat) (i : Int32) (t : Lr) (m : Ms) (n p : Nat) (dp : Nat → Nat), k ≤ 5 → x + k = 6 → i = nI k → PS m0 a e T0 t m n p dp → ((l_X4_takeWord_1000_2 ts x i t).1 = nI 1 ∧ PS m0 a e T0 (l_X4_takeWord_1000_2 ts x i t).2 (l_X12_spells_1000_2 mm x i m) n (p + (5 - k)) dp ∧ Ms.op (l_X12_spells_1000_2 mm x i m) = Ms.op m) ∨ ((l_X4_takeWord_1000_2 ts x i t).1 = nI 0 ∧ FS m0 a T0 (l_X4_takeWord_1000_2 ts x i t).2 (l_X12_spells_1000_2 mm x i m)) := by
  intro x
  induction x with
  | zero => intro k i t m n p dp h1 h2; omega
  | succ x ih =>
    intro k i t m n p dp h1 h2 h3 h
    rw [q_X4_takeWord_1000_2, q_X12_spells_1000_2]
    by_cases c : nI 5 ≤ i
    · rw [if_pos c, if_pos c]
      rw [h3, nI_leI (by decide) (by omega)] at c
      rw [show p + (5 - k) = p by omega]
      exact Or.inl ⟨rfl, h, rfl⟩
    · rw [if_neg c, if_neg c]
      have hk := cnt_lt h3 h1 (by decide) c
      obtain ⟨c1, c2⟩ := ch_1000 k hk
      rw [h3, c2]
      have r := must_x h c1
      generalize m_X4_take t (nI (m_J0_charAt_5068e_1000 (nI k)).toNatClampNeg) = A at r ⊢
      generalize m_X12_must m (nI (m_J0_charAt_5068e_1000 (nI k)).toNatClampNeg) = M at r ⊢
      simp only [bindv]
      rcases r with ⟨r1, r2, r3, r4⟩ | ⟨r1, r2⟩
      · rw [if_neg (by rw [r1]; decide)]
        have g := ih (k + 1) (nI k + nI 1) A.2 M n (p + 1) dp (by omega) (by omega) (nI_add k 1) r2
        rw [show p + 1 + (5 - (k + 1)) = p + (5 - k) by omega, r3] at g
        exact g
      · rw [if_pos (by rw [r1]; rfl)]
        exact Or.inr ⟨rfl, r2.sk (sk_sp_1000 mm x (k + 1) _ M (by omega) (by omega) (nI_add k 1) r2.wr)⟩
set_option maxHeartbeats 200000 in
theorem wd_1000 {m0 : Ms} {a e : Nat} {T0 : Fn} {t : Lr} {m : Ms} {n p : Nat} {dp : Nat → Nat} (h : PS m0 a e T0 t m n p dp) : ((m_X4_takeWord_1000 t).1 = nI 1 ∧ PS m0 a e T0 (m_X4_takeWord_1000 t).2 (m_X12_spells_1000 m) n (p + 5) dp ∧ Ms.op (m_X12_spells_1000 m) = Ms.op m) ∨ ((m_X4_takeWord_1000 t).1 = nI 0 ∧ FS m0 a T0 (m_X4_takeWord_1000 t).2 (m_X12_spells_1000 m)) := wd_l_1000 t m 6 0 (nI 0) t m n p dp (by decide) rfl rfl h
set_option maxHeartbeats 200000 in
theorem ch_1001 : ∀ k, k < 5 → (m_J0_charAt_5068e_1001 (nI k)).toNatClampNeg < 1000 ∧ m_J0_charAt_5068e_1001 (nI k) = nI (m_J0_charAt_5068e_1001 (nI k)).toNatClampNeg := by decide +kernel
set_option maxHeartbeats 200000 in
theorem sk_sp_1001 (mm : Ms) : ∀ (x k : Nat) (i : Int32) (m1 : Ms), k ≤ 5 → x + k = 6 → i = nI k → ¬ Ms.wr m1 = 0 → Sk m1 (l_X12_spells_1001_2 mm x i m1) := by
  intro x
  induction x with
  | zero => intro k i m1 h1 h2; omega
  | succ x ih =>
    intro k i m1 h1 h2 h3 h4
    rw [q_X12_spells_1001_2]
    by_cases c : nI 5 ≤ i
    · rw [if_pos c]; exact Sk.rf h4
    · rw [if_neg c, bindv]
      have hk := cnt_lt h3 h1 (by decide) c
      have s := sk_must h4 (m_J0_charAt_5068e_1001 i)
      exact s.tr (ih (k + 1) _ _ (by omega) (by omega) (by rw [h3]; exact nI_add k 1) s.1)
set_option maxHeartbeats 200000 in
theorem wd_l_1001 {m0 : Ms} {a e : Nat} {T0 : Fn} (ts : Lr) (mm : Ms) : ∀ (x k : Nat) (i : Int32) (t : Lr) (m : Ms) (n p : Nat) (dp : Nat → Nat), k ≤ 5 → x + k = 6 → i = nI k → PS m0 a e T0 t m n p dp → ((l_X4_takeWord_1001_2 ts x i t).1 = nI 1 ∧ PS m0 a e T0 (l_X4_takeWord_1001_2 ts x i t).2 (l_X12_spells_1001_2 mm x i m) n (p + (5 - k)) dp ∧ Ms.op (l_X12_spells_1001_2 mm x i m) = Ms.op m) ∨ ((l_X4_takeWord_1001_2 ts x i t).1 = nI 0 ∧ FS m0 a T0 (l_X4_takeWord_1001_2 ts x i t).2 (l_X12_spells_1001_2 mm x i m)) := by
  intro x
  induction x with
  | zero => intro k i t m n p dp h1 h2; omega
  | succ x ih =>
    intro k i t m n p dp h1 h2 h3 h
    rw [q_X4_takeWord_1001_2, q_X12_spells_1001_2]
    by_cases c : nI 5 ≤ i
    · rw [if_pos c, if_pos c]
      rw [h3, nI_leI (by decide) (by omega)] at c
      rw [show p + (5 - k) = p by omega]
      exact Or.inl ⟨rfl, h, rfl⟩
    · rw [if_neg c, if_neg c]
      have hk := cnt_lt h3 h1 (by decide) c
      obtain ⟨c1, c2⟩ := ch_1001 k hk
      rw [h3, c2]
      have r := must_x h c1
      generalize m_X4_take t (nI (m_J0_charAt_5068e_1001 (nI k)).toNatClampNeg) = A at r ⊢
      generalize m_X12_must m (nI (m_J0_charAt_5068e_1001 (nI k)).toNatClampNeg) = M at r ⊢
      simp only [bindv]
      rcases r with ⟨r1, r2, r3, r4⟩ | ⟨r1, r2⟩
      · rw [if_neg (by rw [r1]; decide)]
        have g := ih (k + 1) (nI k + nI 1) A.2 M n (p + 1) dp (by omega) (by omega) (nI_add k 1) r2
        rw [show p + 1 + (5 - (k + 1)) = p + (5 - k) by omega, r3] at g
        exact g
      · rw [if_pos (by rw [r1]; rfl)]
        exact Or.inr ⟨rfl, r2.sk (sk_sp_1001 mm x (k + 1) _ M (by omega) (by omega) (nI_add k 1) r2.wr)⟩
set_option maxHeartbeats 200000 in
theorem wd_1001 {m0 : Ms} {a e : Nat} {T0 : Fn} {t : Lr} {m : Ms} {n p : Nat} {dp : Nat → Nat} (h : PS m0 a e T0 t m n p dp) : ((m_X4_takeWord_1001 t).1 = nI 1 ∧ PS m0 a e T0 (m_X4_takeWord_1001 t).2 (m_X12_spells_1001 m) n (p + 5) dp ∧ Ms.op (m_X12_spells_1001 m) = Ms.op m) ∨ ((m_X4_takeWord_1001 t).1 = nI 0 ∧ FS m0 a T0 (m_X4_takeWord_1001 t).2 (m_X12_spells_1001 m)) := wd_l_1001 t m 6 0 (nI 0) t m n p dp (by decide) rfl rfl h
set_option maxHeartbeats 200000 in
theorem ch_1002 : ∀ k, k < 5 → (m_J0_charAt_5068e_1002 (nI k)).toNatClampNeg < 1000 ∧ m_J0_charAt_5068e_1002 (nI k) = nI (m_J0_charAt_5068e_1002 (nI k)).toNatClampNeg := by decide +kernel
set_option maxHeartbeats 200000 in
theorem sk_sp_1002 (mm : Ms) : ∀ (x k : Nat) (i : Int32) (m1 : Ms), k ≤ 5 → x + k = 6 → i = nI k → ¬ Ms.wr m1 = 0 → Sk m1 (l_X12_spells_1002_2 mm x i m1) := by
  intro x
  induction x with
  | zero => intro k i m1 h1 h2; omega
  | succ x ih =>
    intro k i m1 h1 h2 h3 h4
    rw [q_X12_spells_1002_2]
    by_cases c : nI 5 ≤ i
    · rw [if_pos c]; exact Sk.rf h4
    · rw [if_neg c, bindv]
      have hk := cnt_lt h3 h1 (by decide) c
      have s := sk_must h4 (m_J0_charAt_5068e_1002 i)
      exact s.tr (ih (k + 1) _ _ (by omega) (by omega) (by rw [h3]; exact nI_add k 1) s.1)
set_option maxHeartbeats 200000 in
theorem wd_l_1002 {m0 : Ms} {a e : Nat} {T0 : Fn} (ts : Lr) (mm : Ms) : ∀ (x k : Nat) (i : Int32) (t : Lr) (m : Ms) (n p : Nat) (dp : Nat → Nat), k ≤ 5 → x + k = 6 → i = nI k → PS m0 a e T0 t m n p dp → ((l_X4_takeWord_1002_2 ts x i t).1 = nI 1 ∧ PS m0 a e T0 (l_X4_takeWord_1002_2 ts x i t).2 (l_X12_spells_1002_2 mm x i m) n (p + (5 - k)) dp ∧ Ms.op (l_X12_spells_1002_2 mm x i m) = Ms.op m) ∨ ((l_X4_takeWord_1002_2 ts x i t).1 = nI 0 ∧ FS m0 a T0 (l_X4_takeWord_1002_2 ts x i t).2 (l_X12_spells_1002_2 mm x i m)) := by
  intro x
  induction x with
  | zero => intro k i t m n p dp h1 h2; omega
  | succ x ih =>
    intro k i t m n p dp h1 h2 h3 h
    rw [q_X4_takeWord_1002_2, q_X12_spells_1002_2]
    by_cases c : nI 5 ≤ i
    · rw [if_pos c, if_pos c]
      rw [h3, nI_leI (by decide) (by omega)] at c
      rw [show p + (5 - k) = p by omega]
      exact Or.inl ⟨rfl, h, rfl⟩
    · rw [if_neg c, if_neg c]
      have hk := cnt_lt h3 h1 (by decide) c
      obtain ⟨c1, c2⟩ := ch_1002 k hk
      rw [h3, c2]
      have r := must_x h c1
      generalize m_X4_take t (nI (m_J0_charAt_5068e_1002 (nI k)).toNatClampNeg) = A at r ⊢
      generalize m_X12_must m (nI (m_J0_charAt_5068e_1002 (nI k)).toNatClampNeg) = M at r ⊢
      simp only [bindv]
      rcases r with ⟨r1, r2, r3, r4⟩ | ⟨r1, r2⟩
      · rw [if_neg (by rw [r1]; decide)]
        have g := ih (k + 1) (nI k + nI 1) A.2 M n (p + 1) dp (by omega) (by omega) (nI_add k 1) r2
        rw [show p + 1 + (5 - (k + 1)) = p + (5 - k) by omega, r3] at g
        exact g
      · rw [if_pos (by rw [r1]; rfl)]
        exact Or.inr ⟨rfl, r2.sk (sk_sp_1002 mm x (k + 1) _ M (by omega) (by omega) (nI_add k 1) r2.wr)⟩
set_option maxHeartbeats 200000 in
theorem wd_1002 {m0 : Ms} {a e : Nat} {T0 : Fn} {t : Lr} {m : Ms} {n p : Nat} {dp : Nat → Nat} (h : PS m0 a e T0 t m n p dp) : ((m_X4_takeWord_1002 t).1 = nI 1 ∧ PS m0 a e T0 (m_X4_takeWord_1002 t).2 (m_X12_spells_1002 m) n (p + 5) dp ∧ Ms.op (m_X12_spells_1002 m) = Ms.op m) ∨ ((m_X4_takeWord_1002 t).1 = nI 0 ∧ FS m0 a T0 (m_X4_takeWord_1002 t).2 (m_X12_spells_1002 m)) := wd_l_1002 t m 6 0 (nI 0) t m n p dp (by decide) rfl rfl h
set_option maxHeartbeats 200000 in
theorem ch_1003 : ∀ k, k < 5 → (m_J0_charAt_5068e_1003 (nI k)).toNatClampNeg < 1000 ∧ m_J0_charAt_5068e_1003 (nI k) = nI (m_J0_charAt_5068e_1003 (nI k)).toNatClampNeg := by decide +kernel
set_option maxHeartbeats 200000 in
theorem sk_sp_1003 (mm : Ms) : ∀ (x k : Nat) (i : Int32) (m1 : Ms), k ≤ 5 → x + k = 6 → i = nI k → ¬ Ms.wr m1 = 0 → Sk m1 (l_X12_spells_1003_2 mm x i m1) := by
  intro x
  induction x with
  | zero => intro k i m1 h1 h2; omega
  | succ x ih =>
    intro k i m1 h1 h2 h3 h4
    rw [q_X12_spells_1003_2]
    by_cases c : nI 5 ≤ i
    · rw [if_pos c]; exact Sk.rf h4
    · rw [if_neg c, bindv]
      have hk := cnt_lt h3 h1 (by decide) c
      have s := sk_must h4 (m_J0_charAt_5068e_1003 i)
      exact s.tr (ih (k + 1) _ _ (by omega) (by omega) (by rw [h3]; exact nI_add k 1) s.1)
set_option maxHeartbeats 200000 in
theorem wd_l_1003 {m0 : Ms} {a e : Nat} {T0 : Fn} (ts : Lr) (mm : Ms) : ∀ (x k : Nat) (i : Int32) (t : Lr) (m : Ms) (n p : Nat) (dp : Nat → Nat), k ≤ 5 → x + k = 6 → i = nI k → PS m0 a e T0 t m n p dp → ((l_X4_takeWord_1003_2 ts x i t).1 = nI 1 ∧ PS m0 a e T0 (l_X4_takeWord_1003_2 ts x i t).2 (l_X12_spells_1003_2 mm x i m) n (p + (5 - k)) dp ∧ Ms.op (l_X12_spells_1003_2 mm x i m) = Ms.op m) ∨ ((l_X4_takeWord_1003_2 ts x i t).1 = nI 0 ∧ FS m0 a T0 (l_X4_takeWord_1003_2 ts x i t).2 (l_X12_spells_1003_2 mm x i m)) := by
  intro x
  induction x with
  | zero => intro k i t m n p dp h1 h2; omega
  | succ x ih =>
    intro k i t m n p dp h1 h2 h3 h
    rw [q_X4_takeWord_1003_2, q_X12_spells_1003_2]
    by_cases c : nI 5 ≤ i
    · rw [if_pos c, if_pos c]
      rw [h3, nI_leI (by decide) (by omega)] at c
      rw [show p + (5 - k) = p by omega]
      exact Or.inl ⟨rfl, h, rfl⟩
    · rw [if_neg c, if_neg c]
      have hk := cnt_lt h3 h1 (by decide) c
      obtain ⟨c1, c2⟩ := ch_1003 k hk
      rw [h3, c2]
      have r := must_x h c1
      generalize m_X4_take t (nI (m_J0_charAt_5068e_1003 (nI k)).toNatClampNeg) = A at r ⊢
      generalize m_X12_must m (nI (m_J0_charAt_5068e_1003 (nI k)).toNatClampNeg) = M at r ⊢
      simp only [bindv]
      rcases r with ⟨r1, r2, r3, r4⟩ | ⟨r1, r2⟩
      · rw [if_neg (by rw [r1]; decide)]
        have g := ih (k + 1) (nI k + nI 1) A.2 M n (p + 1) dp (by omega) (by omega) (nI_add k 1) r2
        rw [show p + 1 + (5 - (k + 1)) = p + (5 - k) by omega, r3] at g
        exact g
      · rw [if_pos (by rw [r1]; rfl)]
        exact Or.inr ⟨rfl, r2.sk (sk_sp_1003 mm x (k + 1) _ M (by omega) (by omega) (nI_add k 1) r2.wr)⟩
set_option maxHeartbeats 200000 in
theorem wd_1003 {m0 : Ms} {a e : Nat} {T0 : Fn} {t : Lr} {m : Ms} {n p : Nat} {dp : Nat → Nat} (h : PS m0 a e T0 t m n p dp) : ((m_X4_takeWord_1003 t).1 = nI 1 ∧ PS m0 a e T0 (m_X4_takeWord_1003 t).2 (m_X12_spells_1003 m) n (p + 5) dp ∧ Ms.op (m_X12_spells_1003 m) = Ms.op m) ∨ ((m_X4_takeWord_1003 t).1 = nI 0 ∧ FS m0 a T0 (m_X4_takeWord_1003 t).2 (m_X12_spells_1003 m)) := wd_l_1003 t m 6 0 (nI 0) t m n p dp (by decide) rfl rfl h
def muT (r2 : Int32 × Ms) (kd : Int32) : Ms := m_X12_emits (m_X12_someT (m_X12_must r2.2 (nI 32))) (kd - r2.1)
def muC_1002 (t : Lr) : Int32 × Lr := bindv (m_X4_takeWord_1002 t) (fun r15 => if r15.1 = 0 then (nI 0, r15.2) else (bindv (m_X4_readNumber r15.2) (fun r17 => if r17.1 = 0 then (nI 0, r17.2) else (bindv (m_X4_take r17.2 (nI 32)) (fun r22 => if r22.1 = 0 then (nI 0, r22.2) else (bindv (m_X4_eitherT r22.2) (fun r24 => if r24.1 = 0 then (nI 0, r24.2) else (bindv (m_X4_put r24.2 (nI 10000 + Lr.nu r17.2)) (fun r26 => if r26.1 = 0 then (nI 0, r26.2) else (nI 1, r26.2))))))))))
set_option maxHeartbeats 200000 in
theorem muM_1002 (m : Ms) (kd : Int32) : m_X12_much_1002 m kd = muT (m_X12_figures (m_X12_spells_1002 m)) kd := by
  unfold m_X12_much_1002 muT
  simp only [bindv]
set_option maxHeartbeats 200000 in
theorem much_1002 {m0 : Ms} {a e : Nat} {T0 : Fn} {t : Lr} {m : Ms} {n p : Nat} {dp : Nat → Nat} (h : PS m0 a e T0 t m n p dp) (hd : dp n = 0) (ho : Ms.op m = nI 0) : RS m0 a e T0 n p 0 (nI 0) (muC_1002 t) (m_X12_much_1002 m (-nI 10)) := by
  unfold muC_1002
  rw [muM_1002]
  have w := wd_1002 h
  generalize m_X4_takeWord_1002 t = A at w ⊢
  generalize m_X12_spells_1002 m = M1 at w ⊢
  rw [bindv]
  have np := h.2.2.2.1.1
  have late : ∀ (tt : Lr) (M2 : Ms) (y : Int32), FS m0 a T0 tt M2 → FS m0 a T0 tt (m_X12_emits (m_X12_someT (m_X12_must M2 (nI 32))) y) := by
    intro tt M2 y f
    have s1 := sk_must f.wr (nI 32)
    have s2 := sk_some (fun m hm => sk_fac hm 6) s1.1
    have s3 : Sk (m_X12_must M2 (nI 32)) (m_X12_someT (m_X12_must M2 (nI 32))) := s2
    exact f.sk ((s1.tr s3).tr (sk_emits s3.1 y))
  rcases w with ⟨w1, w2, w3⟩ | ⟨w1, w2⟩
  · rw [if_neg (by rw [w1]; decide)]
    have nx := num_x w2
    generalize m_X4_readNumber A.2 = B at nx ⊢
    generalize m_X12_figures M1 = M2 at nx ⊢
    rw [bindv]
    unfold muT
    rcases nx with ⟨x1, x2⟩ | ⟨x1, v, p1, v1, v2, v3, v4, v5, v6, v7⟩
    · rw [if_pos (by rw [x1]; rfl)]
      exact Or.inr ⟨rfl, late _ _ _ x2⟩
    · rw [if_neg (by rw [x1]; decide), v3, v4]
      have mx := must_x v5 (c := 32) (by decide)
      generalize m_X4_take B.2 (nI 32) = C at mx ⊢
      generalize m_X12_must M2.2 (nI 32) = M3 at mx ⊢
      rw [bindv]
      rcases mx with ⟨y1, y2, y3, y4⟩ | ⟨y1, y2⟩
      · rw [if_neg (by rw [y1]; decide)]
        have o3 : Ms.op M3 = nI (6 - 6) := y3.trans (v7.trans (w3.trans ho))
        have r := either_x (gp_all 6 (by decide) (by decide)) y2 hd (by decide) o3 (nI 0)
        have r' : RS m0 a e T0 n (p1 + 1) (0 + 1) (nI (6 - 6)) (m_X4_eitherT C.2) (m_X12_someT M3) := r
        generalize m_X4_eitherT C.2 = D at r' ⊢
        generalize m_X12_someT M3 = M4 at r' ⊢
        rw [bindv]
        rcases r' with ⟨r1, r2, n2, p2, dp2, r3, r4, r5, r6⟩ | ⟨r1, r2⟩
        · rw [if_neg (by rw [r1]; decide), nI_add]
          obtain ⟨u1, u2, dp3, u3, u4⟩ := r3.put (by omega) (x := nI (10000 + v)) (y := (-nI 10) - nI v) (d1 := 0) (Or.inr (Or.inr (Or.inr (Or.inr (Or.inl ⟨v, v1, rfl, rfl, by omega, rfl⟩)))))
          generalize m_X4_put D.2 (nI (10000 + v)) = E at u1 u3 ⊢
          generalize m_X12_emits M4 ((-nI 10) - nI v) = M5 at u2 u3 ⊢
          rw [bindv, if_neg (by rw [u1]; decide)]
          exact Or.inl ⟨rfl, u2.trans r2, n2 + 1, p2, dp3, u3, u4, by omega, by omega⟩
        · rw [if_pos (by rw [r1]; rfl)]
          exact Or.inr ⟨rfl, r2.sk (sk_emits r2.wr _)⟩
      · rw [if_pos (by rw [y1]; rfl)]
        have s2 := sk_some (fun m hm => sk_fac hm 6) y2.wr
        have s3 : Sk M3 (m_X12_someT M3) := s2
        exact Or.inr ⟨rfl, y2.sk (s3.tr (sk_emits s3.1 _))⟩
  · rw [if_pos (by rw [w1]; rfl)]
    have s1 := sk_figures w2.wr
    unfold muT
    exact Or.inr ⟨rfl, late _ _ _ (w2.sk s1)⟩
def muC_1003 (t : Lr) : Int32 × Lr := bindv (m_X4_takeWord_1003 t) (fun r15 => if r15.1 = 0 then (nI 0, r15.2) else (bindv (m_X4_readNumber r15.2) (fun r17 => if r17.1 = 0 then (nI 0, r17.2) else (bindv (m_X4_take r17.2 (nI 32)) (fun r22 => if r22.1 = 0 then (nI 0, r22.2) else (bindv (m_X4_eitherT r22.2) (fun r24 => if r24.1 = 0 then (nI 0, r24.2) else (bindv (m_X4_put r24.2 (nI 20000 + Lr.nu r17.2)) (fun r26 => if r26.1 = 0 then (nI 0, r26.2) else (nI 1, r26.2))))))))))
set_option maxHeartbeats 200000 in
theorem muM_1003 (m : Ms) (kd : Int32) : m_X12_much_1003 m kd = muT (m_X12_figures (m_X12_spells_1003 m)) kd := by
  unfold m_X12_much_1003 muT
  simp only [bindv]
set_option maxHeartbeats 200000 in
theorem much_1003 {m0 : Ms} {a e : Nat} {T0 : Fn} {t : Lr} {m : Ms} {n p : Nat} {dp : Nat → Nat} (h : PS m0 a e T0 t m n p dp) (hd : dp n = 0) (ho : Ms.op m = nI 0) : RS m0 a e T0 n p 0 (nI 0) (muC_1003 t) (m_X12_much_1003 m (-nI 200)) := by
  unfold muC_1003
  rw [muM_1003]
  have w := wd_1003 h
  generalize m_X4_takeWord_1003 t = A at w ⊢
  generalize m_X12_spells_1003 m = M1 at w ⊢
  rw [bindv]
  have np := h.2.2.2.1.1
  have late : ∀ (tt : Lr) (M2 : Ms) (y : Int32), FS m0 a T0 tt M2 → FS m0 a T0 tt (m_X12_emits (m_X12_someT (m_X12_must M2 (nI 32))) y) := by
    intro tt M2 y f
    have s1 := sk_must f.wr (nI 32)
    have s2 := sk_some (fun m hm => sk_fac hm 6) s1.1
    have s3 : Sk (m_X12_must M2 (nI 32)) (m_X12_someT (m_X12_must M2 (nI 32))) := s2
    exact f.sk ((s1.tr s3).tr (sk_emits s3.1 y))
  rcases w with ⟨w1, w2, w3⟩ | ⟨w1, w2⟩
  · rw [if_neg (by rw [w1]; decide)]
    have nx := num_x w2
    generalize m_X4_readNumber A.2 = B at nx ⊢
    generalize m_X12_figures M1 = M2 at nx ⊢
    rw [bindv]
    unfold muT
    rcases nx with ⟨x1, x2⟩ | ⟨x1, v, p1, v1, v2, v3, v4, v5, v6, v7⟩
    · rw [if_pos (by rw [x1]; rfl)]
      exact Or.inr ⟨rfl, late _ _ _ x2⟩
    · rw [if_neg (by rw [x1]; decide), v3, v4]
      have mx := must_x v5 (c := 32) (by decide)
      generalize m_X4_take B.2 (nI 32) = C at mx ⊢
      generalize m_X12_must M2.2 (nI 32) = M3 at mx ⊢
      rw [bindv]
      rcases mx with ⟨y1, y2, y3, y4⟩ | ⟨y1, y2⟩
      · rw [if_neg (by rw [y1]; decide)]
        have o3 : Ms.op M3 = nI (6 - 6) := y3.trans (v7.trans (w3.trans ho))
        have r := either_x (gp_all 6 (by decide) (by decide)) y2 hd (by decide) o3 (nI 0)
        have r' : RS m0 a e T0 n (p1 + 1) (0 + 1) (nI (6 - 6)) (m_X4_eitherT C.2) (m_X12_someT M3) := r
        generalize m_X4_eitherT C.2 = D at r' ⊢
        generalize m_X12_someT M3 = M4 at r' ⊢
        rw [bindv]
        rcases r' with ⟨r1, r2, n2, p2, dp2, r3, r4, r5, r6⟩ | ⟨r1, r2⟩
        · rw [if_neg (by rw [r1]; decide), nI_add]
          obtain ⟨u1, u2, dp3, u3, u4⟩ := r3.put (by omega) (x := nI (20000 + v)) (y := (-nI 200) - nI v) (d1 := 0) (Or.inr (Or.inr (Or.inr (Or.inr (Or.inr ⟨v, v1, rfl, rfl, by omega, rfl⟩)))))
          generalize m_X4_put D.2 (nI (20000 + v)) = E at u1 u3 ⊢
          generalize m_X12_emits M4 ((-nI 200) - nI v) = M5 at u2 u3 ⊢
          rw [bindv, if_neg (by rw [u1]; decide)]
          exact Or.inl ⟨rfl, u2.trans r2, n2 + 1, p2, dp3, u3, u4, by omega, by omega⟩
        · rw [if_pos (by rw [r1]; rfl)]
          exact Or.inr ⟨rfl, r2.sk (sk_emits r2.wr _)⟩
      · rw [if_pos (by rw [y1]; rfl)]
        have s2 := sk_some (fun m hm => sk_fac hm 6) y2.wr
        have s3 : Sk M3 (m_X12_someT M3) := s2
        exact Or.inr ⟨rfl, y2.sk (s3.tr (sk_emits s3.1 _))⟩
  · rw [if_pos (by rw [w1]; rfl)]
    have s1 := sk_figures w2.wr
    unfold muT
    exact Or.inr ⟨rfl, late _ _ _ (w2.sk s1)⟩
def telT (r2 : Int32 × Ms) (x : Int32) : Ms := if Ms.wr r2.2 = 0 then (Ms.th r2.2, (upd (Ms.s r2.2) (x + Ms.ac r2.2).toNatClampNeg r2.1), Ms.im r2.2, Ms.fr r2.2, Ms.hi r2.2, Ms.ac r2.2, Ms.sp r2.2, Ms.en r2.2, Ms.wr r2.2, Ms.op r2.2, Ms.bb r2.2, Ms.tr r2.2, Ms.su r2.2, Ms.lf r2.2, Ms.lk r2.2, Ms.nx r2.2, Ms.bo r2.2, Ms.ra r2.2, Ms.ki r2.2, Ms.nu r2.2, Ms.tv r2.2) else r2.2
def telC_1000 (t : Lr) : Int32 × Lr := bindv (m_X4_takeWord_1000 t) (fun r2 => if r2.1 = 0 then (nI 0, r2.2) else (bindv (m_X4_readNumber r2.2) (fun r4 => if r4.1 = 0 then (nI 0, r4.2) else (nI 1, (Lr.st r4.2, Lr.sz r4.2, Lr.nu r4.2, Lr.pa r4.2, Lr.sg r4.2, Lr.at r4.2, Lr.si r4.2, Lr.te r4.2, Lr.nu r4.2, Lr.tp r4.2)))))
set_option maxHeartbeats 200000 in
theorem PS.ke {m0 : Ms} {a e : Nat} {T0 : Fn} {t : Lr} {m : Ms} {n p v : Nat} {dp : Nat → Nat} (h : PS m0 a e T0 t m n p dp) (hv : v < 100) (hn : Lr.nu t = nI v) : PS m0 a e T0 (Lr.st t, Lr.sz t, Lr.nu t, Lr.pa t, Lr.sg t, Lr.at t, Lr.si t, Lr.te t, Lr.nu t, Lr.tp t) (Ms.th m, (upd (Ms.s m) (212 + a) (nI v)), Ms.im m, Ms.fr m, Ms.hi m, Ms.ac m, Ms.sp m, Ms.en m, Ms.wr m, Ms.op m, Ms.bb m, Ms.tr m, Ms.su m, Ms.lf m, Ms.lk m, Ms.nx m, Ms.bo m, Ms.ra m, Ms.ki m, Ms.nu m, Ms.tv m) n p dp := by
  obtain ⟨⟨a1, a2, a3, a4, a5, a6, a7⟩, ⟨b1, b2, b3, b4, b5⟩, c, ⟨d1, d2, d3⟩, ⟨⟨r, k1, k2, k3⟩, ⟨r2, k4, k5, k6⟩⟩, f⟩ := h
  refine ⟨⟨a1, a2, a3, a4, a5, a6, a7⟩, ⟨b1, b2, b3, b4, b5⟩, fun j hj => ?_, ⟨d1, ?_, d3.1, fun j hj => ?_⟩, ⟨⟨v, hv, hn, by show upd (Ms.s m) (212 + a) (nI v) (212 + a) = nI v; rw [pk_us]⟩, ⟨r2, k4, k5, by show upd (Ms.s m) (212 + a) (nI v) (217 + a) = nI r2; rw [pk_un (by omega)]; exact k6⟩⟩, ⟨fun j u v w x => ?_, f.2⟩⟩
  · show upd (Ms.s m) (212 + a) (nI v) (112 + j) = T0 j ∧ _
    rw [pk_un (by omega)]; exact c j hj
  · show upd (Ms.s m) (212 + a) (nI v) (222 + a) = nI n
    rw [pk_un (by omega)]; exact d2
  · show StpR (Lr.st t j) (upd (Ms.s m) (212 + a) (nI v) (227 + 140 * a + j)) _ _
    rw [pk_un (by omega)]; exact d3.2 j hj
  · show upd (Ms.s m) (212 + a) (nI _) j = _
    rw [pk_un (by omega)]; exact f.1 j u v w x
set_option maxHeartbeats 200000 in
theorem telM_1000 (m : Ms) (x : Int32) : m_X12_tellsHere_1000 m x = telT (m_X12_figures (m_X12_spells_1000 m)) x := by
  unfold m_X12_tellsHere_1000 telT
  simp only [bindv]
set_option maxHeartbeats 200000 in
theorem tells_1000 {m0 : Ms} {a e : Nat} {T0 : Fn} {t : Lr} {m : Ms} {n p : Nat} {dp : Nat → Nat} (h : PS m0 a e T0 t m n p dp) (hd : dp n = 0) (ho : Ms.op m = nI 0) : RS m0 a e T0 n p 0 (nI 0) (telC_1000 t) (m_X12_tellsHere_1000 m (nI 212)) := by
  unfold telC_1000
  rw [telM_1000]
  have w := wd_1000 h
  generalize m_X4_takeWord_1000 t = A at w ⊢
  generalize m_X12_spells_1000 m = M1 at w ⊢
  rw [bindv]
  rcases w with ⟨w1, w2, w3⟩ | ⟨w1, w2⟩
  · rw [if_neg (by rw [w1]; decide)]
    have nx := num_x w2
    generalize m_X4_readNumber A.2 = B at nx ⊢
    generalize m_X12_figures M1 = M2 at nx ⊢
    rw [bindv]
    unfold telT
    rcases nx with ⟨x1, x2⟩ | ⟨x1, v, p1, v1, v2, v3, v4, v5, v6, v7⟩
    · rw [if_pos (by rw [x1]; rfl), if_neg x2.wr]
      exact Or.inr ⟨rfl, x2⟩
    · have a5 := v5.1.2.2.2.2.1
      have a6 := v5.1.2.2.2.2.2.1
      rw [if_neg (by rw [x1]; decide), if_pos v5.wr, a5, ck2 (by omega), v4]
      have q := v5.ke v1 v3
      rw [a5] at q
      exact Or.inl ⟨rfl, v7.trans (w3.trans ho), n, p1, dp, q, hd, by omega, by omega⟩
  · rw [if_pos (by rw [w1]; rfl)]
    have s1 := sk_figures w2.wr
    have f := w2.sk s1
    unfold telT
    rw [if_neg f.wr]
    exact Or.inr ⟨rfl, f⟩
def telC_1001 (t : Lr) : Int32 × Lr := bindv (m_X4_takeWord_1001 t) (fun r2 => if r2.1 = 0 then (nI 0, r2.2) else (bindv (m_X4_readNumber r2.2) (fun r4 => if r4.1 = 0 then (nI 0, r4.2) else (nI 1, (Lr.st r4.2, Lr.sz r4.2, Lr.ke r4.2, Lr.nu r4.2, Lr.sg r4.2, Lr.at r4.2, Lr.si r4.2, Lr.te r4.2, Lr.nu r4.2, Lr.tp r4.2)))))
set_option maxHeartbeats 200000 in
theorem PS.pa {m0 : Ms} {a e : Nat} {T0 : Fn} {t : Lr} {m : Ms} {n p v : Nat} {dp : Nat → Nat} (h : PS m0 a e T0 t m n p dp) (hv : v < 100) (hn : Lr.nu t = nI v) : PS m0 a e T0 (Lr.st t, Lr.sz t, Lr.ke t, Lr.nu t, Lr.sg t, Lr.at t, Lr.si t, Lr.te t, Lr.nu t, Lr.tp t) (Ms.th m, (upd (Ms.s m) (217 + a) (nI v)), Ms.im m, Ms.fr m, Ms.hi m, Ms.ac m, Ms.sp m, Ms.en m, Ms.wr m, Ms.op m, Ms.bb m, Ms.tr m, Ms.su m, Ms.lf m, Ms.lk m, Ms.nx m, Ms.bo m, Ms.ra m, Ms.ki m, Ms.nu m, Ms.tv m) n p dp := by
  obtain ⟨⟨a1, a2, a3, a4, a5, a6, a7⟩, ⟨b1, b2, b3, b4, b5⟩, c, ⟨d1, d2, d3⟩, ⟨⟨r, k1, k2, k3⟩, ⟨r2, k4, k5, k6⟩⟩, f⟩ := h
  refine ⟨⟨a1, a2, a3, a4, a5, a6, a7⟩, ⟨b1, b2, b3, b4, b5⟩, fun j hj => ?_, ⟨d1, ?_, d3.1, fun j hj => ?_⟩, ⟨⟨r, k1, k2, by show upd (Ms.s m) (217 + a) (nI v) (212 + a) = nI r; rw [pk_un (by omega)]; exact k3⟩, ⟨v, hv, hn, by show upd (Ms.s m) (217 + a) (nI v) (217 + a) = nI v; rw [pk_us]⟩⟩, ⟨fun j u v w x => ?_, f.2⟩⟩
  · show upd (Ms.s m) (217 + a) (nI v) (112 + j) = T0 j ∧ _
    rw [pk_un (by omega)]; exact c j hj
  · show upd (Ms.s m) (217 + a) (nI v) (222 + a) = nI n
    rw [pk_un (by omega)]; exact d2
  · show StpR (Lr.st t j) (upd (Ms.s m) (217 + a) (nI v) (227 + 140 * a + j)) _ _
    rw [pk_un (by omega)]; exact d3.2 j hj
  · show upd (Ms.s m) (217 + a) (nI _) j = _
    rw [pk_un (by omega)]; exact f.1 j u v w x
set_option maxHeartbeats 200000 in
theorem telM_1001 (m : Ms) (x : Int32) : m_X12_tellsHere_1001 m x = telT (m_X12_figures (m_X12_spells_1001 m)) x := by
  unfold m_X12_tellsHere_1001 telT
  simp only [bindv]
set_option maxHeartbeats 200000 in
theorem tells_1001 {m0 : Ms} {a e : Nat} {T0 : Fn} {t : Lr} {m : Ms} {n p : Nat} {dp : Nat → Nat} (h : PS m0 a e T0 t m n p dp) (hd : dp n = 0) (ho : Ms.op m = nI 0) : RS m0 a e T0 n p 0 (nI 0) (telC_1001 t) (m_X12_tellsHere_1001 m (nI 217)) := by
  unfold telC_1001
  rw [telM_1001]
  have w := wd_1001 h
  generalize m_X4_takeWord_1001 t = A at w ⊢
  generalize m_X12_spells_1001 m = M1 at w ⊢
  rw [bindv]
  rcases w with ⟨w1, w2, w3⟩ | ⟨w1, w2⟩
  · rw [if_neg (by rw [w1]; decide)]
    have nx := num_x w2
    generalize m_X4_readNumber A.2 = B at nx ⊢
    generalize m_X12_figures M1 = M2 at nx ⊢
    rw [bindv]
    unfold telT
    rcases nx with ⟨x1, x2⟩ | ⟨x1, v, p1, v1, v2, v3, v4, v5, v6, v7⟩
    · rw [if_pos (by rw [x1]; rfl), if_neg x2.wr]
      exact Or.inr ⟨rfl, x2⟩
    · have a5 := v5.1.2.2.2.2.1
      have a6 := v5.1.2.2.2.2.2.1
      rw [if_neg (by rw [x1]; decide), if_pos v5.wr, a5, ck2 (by omega), v4]
      have q := v5.pa v1 v3
      rw [a5] at q
      exact Or.inl ⟨rfl, v7.trans (w3.trans ho), n, p1, dp, q, hd, by omega, by omega⟩
  · rw [if_pos (by rw [w1]; rfl)]
    have s1 := sk_figures w2.wr
    have f := w2.sk s1
    unfold telT
    rw [if_neg f.wr]
    exact Or.inr ⟨rfl, f⟩
set_option maxHeartbeats 200000 in
theorem no_1003 (t : Lr) (h : ¬ Lr.si t = nI 100) : muC_1003 t = (nI 0, t) := by
  have e : m_X4_takeWord_1003 t = (nI 0, t) := by
    unfold m_X4_takeWord_1003
    rw [q_X4_takeWord_1003_2, if_neg (by decide), take_n t (by rw [show m_J0_charAt_5068e_1003 (nI 0) = nI 100 by decide +kernel]; exact h)]
    rfl
  unfold muC_1003
  rw [e]
  rfl
set_option maxHeartbeats 200000 in
theorem clC_u (s : Lr) : m_X4_readClause s = (if Lr.si s = nI 107 then telC_1000 s else (if Lr.si s = nI 112 then telC_1001 s else (if Lr.si s = nI 108 then muC_1002 s else muC_1003 s))) := rfl
set_option maxHeartbeats 200000 in
theorem clause_x {m0 : Ms} {a e : Nat} {T0 : Fn} {t : Lr} {m : Ms} {n p : Nat} {dp : Nat → Nat} (h : PS m0 a e T0 t m n p dp) (hd : dp n = 0) (ho : Ms.op m = nI 0) : RS m0 a e T0 n p 0 (nI 0) (m_X4_readClause t) (m_X12_clauseHere m) := by
  rw [clC_u]
  unfold m_X12_clauseHere
  rw [h.here]
  by_cases c107 : Lr.si t = nI 107
  · rw [if_pos c107, if_neg (by rw [c107]; decide), if_pos c107]
    simp only [bindv]
    exact tells_1000 h hd ho
  rw [if_neg c107, if_neg (c := Lr.si t = nI 107) c107]
  by_cases c112 : Lr.si t = nI 112
  · rw [if_pos c112, if_neg (by rw [c112]; decide), if_neg (by rw [c112]; decide), if_pos c112]
    simp only [bindv]
    exact tells_1001 h hd ho
  rw [if_neg c112]
  by_cases c108 : Lr.si t = nI 108
  · rw [if_pos c108, if_neg (by rw [c108]; decide), if_pos c108]
    simp only [bindv]
    exact much_1002 h hd ho
  rw [if_neg c108]
  by_cases c100 : Lr.si t = nI 100
  · rw [if_pos c100]
    simp only [bindv]
    exact much_1003 h hd ho
  · rw [if_neg c100, if_neg c108, if_neg c112, no_1003 t c100]
    exact Or.inr ⟨rfl, h.wrong (show ¬ nI 1 = 0 by decide) rfl (Sm.rf m)⟩
def lgOf (t : Lr) : Lg := (Lr.st t, Lr.sz t, Lr.ke t, Lr.pa t, Value.ref 2, Lr.sg t, Lr.at t, Lr.si t, Lr.te t, Lr.nu t)
def accS (m : Ms) : Ms := (Ms.th m, (upd (upd (Ms.s m) (nI 18).toNatClampNeg ((Ms.s m (nI 18).toNatClampNeg) + nI 1)) (nI 23).toNatClampNeg (Ms.ac m)), Ms.im m, Ms.fr m, Ms.hi m, Ms.ac m, Ms.sp m, Ms.en m, Ms.wr m, Ms.op m, Ms.bb m, Ms.tr m, Ms.su m, Ms.lf m, Ms.lk m, Ms.nx m, Ms.bo m, Ms.ra m, Ms.ki m, Ms.nu m, Ms.tv m)
def finS (m : Ms) : Int32 × Ms := if Ms.wr m = 0 then (if Ms.sp m = Ms.en m then (Ms.ac m, accS m) else (((-nI 10) - Ms.sp m), m)) else (((-nI 10) - Ms.sp m), m)
def LX (m0 : Ms) (a e : Nat) (T0 : Fn) (A : Int32 × Ld) (B : Int32 × Ms) : Prop := (A.1 = (-nI 1) ∧ B.1 = nI a ∧ ∃ t m n dp, PS m0 a e T0 t m n e dp ∧ A.2 = (lgOf t, Lr.tp t) ∧ B.2 = accS m) ∨ (∃ p, p ≤ 100 ∧ A.1 = nI p ∧ B.1 = (-nI 10) - nI p ∧ Ld.ta A.2 = T0 ∧ Fm m0 B.2 a)
set_option maxHeartbeats 200000 in
theorem led_u (m r2 : Ms) (x : Nat) (n : Int32) (m1 : Ms) : l_X12_ledge_108 m r2 (x + 1) n m1 = (if Ms.wr m1 = 0 then (if nI 10 ≤ n then finS m1 else (if (m_X12_here (Ms.s m1) (Ms.sp m1) (Ms.en m1)) = nI 59 then (bindv (m_X12_clauseHere (upS m1)) (fun r12 => l_X12_ledge_108 m r2 x (n + nI 1) r12)) else finS m1)) else finS m1) := rfl
set_option maxHeartbeats 200000 in
theorem fin_w {m0 : Ms} {a e : Nat} {T0 : Fn} {t : Lr} {m : Ms} (f : FS m0 a T0 t m) : LX m0 a e T0 (Lr.at t, (lgOf t, Lr.tp t)) (finS m) := by
  obtain ⟨p, h1, h2, h3, h4, h5, h6, h7⟩ := f
  unfold finS
  rw [if_neg h4, h3]
  exact Or.inr ⟨p, h1, h2, rfl, h5, h7⟩
set_option maxHeartbeats 200000 in
theorem fin_p {m0 : Ms} {a e : Nat} {T0 : Fn} {t : Lr} {m : Ms} {n p : Nat} {dp : Nat → Nat} (h : PS m0 a e T0 t m n p dp) (hp : p < e) : LX m0 a e T0 (Lr.at t, (lgOf t, Lr.tp t)) (finS m) := by
  obtain ⟨⟨a1, a2, a3, a4, a5, a6, a7⟩, ⟨b1, b2, b3, b4, b5⟩, c, d, k, f⟩ := h
  unfold finS
  rw [if_pos a7, a3, a1, if_neg (fun q => by have := nI_inj q (by omega) (by omega); omega)]
  exact Or.inr ⟨p, by omega, b1, rfl, b3, f⟩
set_option maxHeartbeats 200000 in
theorem fin_e {m0 : Ms} {a e : Nat} {T0 : Fn} {t : Lr} {m : Ms} {n : Nat} {dp : Nat → Nat} (h : PS m0 a e T0 t m n e dp) : LX m0 a e T0 ((-nI 1), (lgOf t, Lr.tp t)) (finS m) := by
  have hh := h
  obtain ⟨⟨a1, a2, a3, a4, a5, a6, a7⟩, ⟨b1, b2, b3, b4, b5⟩, c, d, k, f⟩ := h
  unfold finS
  rw [if_pos a7, a3, a1, if_pos rfl]
  exact Or.inl ⟨rfl, a5, t, m, n, dp, hh, rfl, rfl⟩
set_option maxHeartbeats 200000 in
theorem read_l {m0 : Ms} {a e : Nat} {T0 : Fn} (ss : Ld) (X : Int32) (rr : Lr) (mm r2 : Ms) : ∀ (y c : Nat) (i : Int32) (t : Lr) (m : Ms) (n p : Nat) (dp : Nat → Nat), y + c = 11 → 1 ≤ c → i = nI c → PS m0 a e T0 t m n p dp → dp n = 0 → Ms.op m = nI 0 → c ≤ 10 → LX m0 a e T0 (l_X4_read_37 ss X rr (y + 1) i (Lr.st t) (Lr.sz t) (Lr.ke t) (Lr.pa t) (Lr.sg t) (Lr.at t) (Lr.si t) (Lr.te t) (Lr.nu t) (Lr.tp t)) (bindv (m_X12_clauseHere m) (fun r => l_X12_ledge_108 mm r2 y i r)) := by
  intro y
  induction y with
  | zero => intro c i t m n p dp h1 h2 h3 h hd ho hc; omega
  | succ y ih =>
    intro c i t m n p dp h1 h2 h3 h hd ho hc
    have r := clause_x h hd ho
    rw [q_X4_read_37, if_neg (by rw [h3, nI_ltI (by decide) (by omega)]; omega)]
    have et : (Lr.st t, Lr.sz t, Lr.ke t, Lr.pa t, Lr.sg t, Lr.at t, Lr.si t, Lr.te t, Lr.nu t, Lr.tp t) = t := rfl
    rw [et]
    generalize m_X4_readClause t = A at r ⊢
    generalize m_X12_clauseHere m = M at r ⊢
    simp only [bindv]
    rw [led_u]
    rcases r with ⟨r1, r2', n1, p1, dp1, r3, r4, r5, r6⟩ | ⟨r1, f⟩
    · rw [if_neg (by rw [r1]; decide), if_pos r3.wr, r3.here]
      by_cases z : Lr.si A.2 = (-nI 1)
      · rw [if_pos z]
        have ep : p1 = e := by
          rcases r3.si with ⟨-, ch, hc2, es⟩ | ⟨q, -⟩
          · rw [z] at es; exact absurd es (m1_ne (by omega))
          · exact q
        subst ep
        have fe := fin_e r3
        by_cases w : nI 10 ≤ i
        · rw [if_pos w]; exact fe
        · rw [if_neg w, if_neg (by rw [z]; decide)]; exact fe
      · rw [if_neg z]
        have lt : p1 < e := by
          rcases r3.si with ⟨q, -⟩ | ⟨-, q⟩
          · exact q
          · exact absurd q z
        have fp := fin_p r3 lt
        by_cases w : nI 10 ≤ i
        · rw [if_pos w]
          rw [h3, nI_leI (by decide) (by omega)] at w
          rw [if_pos (by rw [h3]; congr 1; omega)]
          exact fp
        · rw [if_neg w]
          rw [h3, nI_leI (by decide) (by omega)] at w
          rw [if_neg (by rw [h3]; exact fun q => by have := nI_inj q (by omega) (by decide); omega)]
          by_cases v : Lr.si A.2 = nI 59
          · rw [if_pos v, take_y _ v]
            have ha : PS m0 a e T0 (m_X4_advance A.2) (upS M) n1 (p1 + 1) dp1 := r3.adv lt rfl rfl rfl rfl rfl rfl rfl (Sm.rf M) rfl r3.wr
            exact ih (c + 1) (i + nI 1) (m_X4_advance A.2) (upS M) n1 (p1 + 1) dp1 (by omega) (by omega) (by rw [h3]; exact nI_add c 1) ha r4 r2' (by omega)
          · rw [if_neg v, take_n _ v]
            exact fp
    · rw [if_pos (by rw [r1]; rfl), if_neg f.wr]
      exact fin_w f

/-! looking ahead begins -/
theorem Sy.of {s : Us} {m : Ms} {sf : Sf} {U T G : Nat} (h : RelS (Ms.s m) sf (slots s) U T G) (h0 : L0 (Us.l0 s)) {W : Wt} (hl : Wt.l W = hold s G) (e1 : Sc.sz (Wt.c W) = Sc.sz (Sf.c sf)) (e2 : Sc.ti (Wt.c W) = Sc.ti (Sf.c sf)) (e3 : Sc.ou (Wt.c W) = Sc.ou (Sf.c sf)) (e4 : ∀ p, p < 6 → Sc.kn (Wt.c W) p = Sc.kn (Sf.c sf) p) (e5 : ∀ p, p < 6 → Sc.kd (Wt.c W) p = Sc.kd (Sf.c sf) p) (e6 : ∀ p, p < 6 → Sc.vv (Wt.c W) p = Sc.vv (Sf.c sf) p) (e7 : ∀ j, j < 24 → Sc.rw (Wt.c W) j = Sc.rw (Sf.c sf) j) (e8 : ∀ k, k < 4 → Sc.le (Wt.c W) k = Sc.le (Sf.c sf) k)
    (ck : CK m (Lg.st (hold s G)) (Lg.sz (hold s G))) (sk : SK W) : Sy W m U T (fun p => (Sc.kn (Sf.c sf) p).toNatClampNeg) := by
  have lr := LR.of h h0
  have so := SO.of h h0
  have gd := Gd.of h h0
  obtain ⟨⟨hU, u2, u3⟩, ⟨hT, t2, t3⟩, -, hkn, hr, hle, -⟩ := h
  obtain ⟨⟨R, r1, r2, r3⟩, ⟨P, p1, p2, p3⟩, -⟩ := lr
  refine ⟨⟨hU, by rw [e1]; exact u2, u3⟩, ⟨by omega, by rw [e2]; exact t2, t3⟩, fun p hp => ?_, fun p hp => ?_, by rw [hl]; exact so, by rw [hl]; exact ck, sk, ⟨R, by omega, by rw [hl]; exact r2, r3⟩, ⟨by rw [hl, p2]; exact p3, by rw [hl, p2]; exact nI_le (Nat.zero_le P) (by omega)⟩, gd.2.2.1, ?_, fun k hk => ?_⟩
  · obtain ⟨x, x1, x2, x3⟩ := hkn p hp
    have : (Sc.kn (Sf.c sf) p).toNatClampNeg = x := by rw [x2, nI_clamp (by omega)]
    show (Sc.kn (Sf.c sf) p).toNatClampNeg < 256 ∧ Sc.kn (Wt.c W) p = nI (Sc.kn (Sf.c sf) p).toNatClampNeg ∧ Ms.s m (1 + p) = nI (Sc.kn (Sf.c sf) p).toNatClampNeg
    rw [this]
    exact ⟨x1, by rw [e4 p (by omega)]; exact x2, x3⟩
  · obtain ⟨a1, a2, a3, a4, a5, ⟨v, a6, a7⟩, a8⟩ := hr p hp
    rw [e5 p (by omega), e6 p (by omega), e3]
    refine ⟨a1, a2, fun k hk => ?_, a4, a5, by rw [a7]; exact bnd_nI a6 (by decide), fun k hk => ?_⟩
    · rw [e7 _ (by omega)]; exact a3 k hk
    · obtain ⟨w, w1, w2⟩ := a8 k hk
      rw [e7 _ (by omega), w2]; exact bnd_nI w1 (by decide)
  · intro i hi
    rw [e1] at hi
    obtain ⟨k, hk, rfl⟩ := vp_in_of (has_of hi) (by decide)
    rw [nI_clamp (by omega), e5 k hk]
    by_cases z : k < U
    · exact (hr k z).2.2.2.2.1
    · rw [u2] at hi
      exact absurd (has_0 (by omega) (by omega)) hi
  · obtain ⟨j, j1, j2, j3⟩ := hle k hk
    exact ⟨j, j1, by rw [e8 k hk]; exact j2, j3⟩
theorem becR_f (a b : Sc) : Sc.sz (becR a b) = Sc.sz b ∧ Sc.ti (becR a b) = Sc.ti b ∧ Sc.ou (becR a b) = Sc.ou b ∧ (∀ p, p < 6 → Sc.kn (becR a b) p = Sc.kn b p) ∧ (∀ p, p < 6 → Sc.kd (becR a b) p = Sc.kd b p) ∧ (∀ p, p < 6 → Sc.vv (becR a b) p = Sc.vv b p) ∧ (∀ j, j < 24 → Sc.rw (becR a b) j = Sc.rw b j) ∧ (∀ k, k < 4 → Sc.le (becR a b) k = Sc.le b k) := by
  have cp : ∀ (f g : Fn) (n : Nat), n < 100 → ∀ p, p < n → va_cpy f g (nI 0).toNatClampNeg (nI 0).toNatClampNeg (nI n).toNatClampNeg p = f p := by
    intro f g n hn p hp
    rw [nI_clamp (by decide : 0 < 2 ^ 31), nI_clamp (by omega : n < 2 ^ 31), pk_cpy_in (by omega) (by omega)]
    congr 1
    omega
  exact ⟨rfl, rfl, rfl, fun p hp => cp _ _ 6 (by decide) p hp, fun p hp => cp _ _ 6 (by decide) p hp, fun p hp => cp _ _ 6 (by decide) p hp, fun p hp => cp _ _ 24 (by decide) p hp, fun p hp => cp _ _ 4 (by decide) p hp⟩
theorem fill_l (s : Fn) (v : Int32) : ∀ (n k : Nat) (i : Int32) (f : Fn), k ≤ 540 → n + k = 541 → i = nI k → (∀ j, j < k → f j = v) → ∀ j, j < 540 → l_J7_fill_53178_5 s v n i f j = v := by
  intro n
  induction n with
  | zero => intro k i f h1 h2; omega
  | succ n ih =>
    intro k i f h1 h2 h3 h4
    rw [q_J7_fill_53178_5]
    by_cases c : nI 540 ≤ i
    · rw [if_pos c]
      rw [h3, nI_leI (by decide) (by omega)] at c
      exact fun j hj => h4 j (by omega)
    · rw [if_neg c]
      have hk : k < 540 := cnt_lt h3 h1 (by decide) c
      refine ih (k + 1) _ _ (by omega) (by omega) (by rw [h3]; exact nI_add k 1) ?_
      intro j hj
      rw [h3, nI_clamp (by omega)]
      by_cases z : j = k
      · rw [z, pk_us]
      · rw [pk_un z]; exact h4 j (by omega)
theorem fill_eq (st : Fn) : ∀ j, j < 540 → m_J7_fill_53178 st (-nI 1) j = (-nI 1) := by
  have g := fill_l st (-nI 1) 541 0 (nI 0) st (by decide) (by omega) rfl (fun j hj => by omega)
  unfold m_J7_fill_53178
  exact g
theorem fgt_eq (h : Hh) (st : Fn) : ∀ j, j < 540 → fgt h st j = (-nI 1) := by
  intro j hj
  have g := fill_eq st j hj
  unfold fgt m_X1_forget
  dsimp only [bindv, Hs.st, Hs.h, Fi.f]
  exact g
theorem SK.fgt {W : Wt} {h : Hh} {st : Fn} (e : Wt.st W = fgt h st) : SK W := by
  intro i c t hi hc ht
  rw [e]
  exact Or.inl (fgt_eq h st _ (by unfold iy; omega))
/-- what is looked for stands behind what was looked for -/
def LK (m : Ms) (K : Nat) : Prop := Ms.lk m = nI K ∧ ∀ j, j < 4320 → ∃ a, a ≤ K ∧ Ms.lf m j = nI a
theorem CK.anew {m m' : Ms} {K : Nat} {st : Fn} {sz : Int32} (h : LK m K) (hK : K < 2 ^ 30) (e1 : Ms.lf m' = Ms.lf m) (e2 : Ms.lk m' = Ms.lk m + nI 1) : CK m' st sz := by
  intro p f c t hp hf hc ht q
  obtain ⟨a, ha, e⟩ := h.2 (ix p f c t) (by unfold ix; omega)
  rw [e1, e2, e, h.1, nI_add] at q
  have := nI_inj q (by omega) (by omega)
  omega

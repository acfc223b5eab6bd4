/-! many tides, side by side -/
def wtA (s : Us) (L : Lg) : Wt := (Sf.c (Us.ah s), Us.h s, Us.k0 s, Us.k1 s, Us.k2 s, Us.k3 s, Us.k4 s, Us.k5 s, Us.k6 s, Us.st s, L)
def wtN (s : Us) (L : Lg) : Wt := (Sf.c (Us.nw s), Us.h s, Us.k0 s, Us.k1 s, Us.k2 s, Us.k3 s, Us.k4 s, Us.k5 s, Us.k6 s, Us.st s, L)
theorem wt_eta {r : Wt} {L : Lg} (h : Wt.l r = L) : (Wt.c r, Wt.h r, Wt.k0 r, Wt.k1 r, Wt.k2 r, Wt.k3 r, Wt.k4 r, Wt.k5 r, Wt.k6 r, Wt.st r, L) = r := by
  rw [← h]; rfl
theorem goA_l (s : Us) {n : Int32} {N : Nat} (hn : n = nI N) (hN : N ≤ 1000) (L : Lg) (mm : Ms) : ∀ (x k : Nat) (i : Int32) (m1 : Us) (m : Ms) (U T : Nat) (X : Nat → Nat), k ≤ N → x + k = N + 1 → i = nI k → Sy (wtA m1 L) m U T X → T + (N - k) ≤ 1000000 → ∃ X', Sy (wtA (l_X11_go_p13_8 s n L x i m1) L) (l_X12_goesOn_2 mm n x i m) U (T + (N - k)) X' := by
  intro x
  induction x with
  | zero => intro k i m1 m U T X h1 h2; omega
  | succ x ih =>
    intro k i m1 m U T X h1 h2 h3 h4 h5
    rw [q_X11_go_p13_8, q_X12_goesOn_2]
    by_cases c : n ≤ i
    · rw [if_pos c, if_pos c]
      rw [hn, h3, nI_leI (by omega) (by omega)] at c
      have : N - k = 0 := by omega
      rw [this]
      exact ⟨X, h4⟩
    · rw [if_neg c, if_neg c]
      have hk : k < N := cnt_lt h3 h1 (by omega) (by rw [← hn]; exact c)
      obtain ⟨X', g⟩ := h4.goes (by omega)
      have tw := gl_goTide (s := wtA m1 L) (le := m_X7_lessonNow (Sc.le (Wt.c (wtA m1 L))) (Sc.ti (Wt.c (wtA m1 L)))) rfl
      have e : T + (N - k) = T + 1 + (N - (k + 1)) := by omega
      rw [e, bindv, bindv]
      refine ih (k + 1) _ _ _ U (T + 1) X' (by omega) (by omega) (by rw [h3]; exact nI_add k 1) ?_ (by omega)
      have et := wt_eta tw.1
      rw [← et] at g
      exact g
theorem goA {s : Us} {n : Int32} {N : Nat} (hn : n = nI N) (hN : N ≤ 1000) {m : Ms} {U T : Nat} {X : Nat → Nat} {L : Lg} (hL : holdL (Sc.lg (Sf.c (Us.nw s))) (Us.l0 s) (Us.l1 s) (Us.l2 s) (Us.l3 s) (Us.l4 s) (Us.l5 s) = L) (h : Sy (wtA s L) m U T X) (hT : T + N ≤ 1000000) : ∃ X', Sy (wtA (m_X11_go_p13 s n) L) (m_X12_goesOn m n) U (T + N) X' := by
  unfold m_X11_go_p13 m_X12_goesOn
  rw [hL, bindv]
  have g := goA_l s hn hN L m (n.toNatClampNeg + 1) 0 (nI 0) s m U T X (Nat.zero_le _) (by rw [hn, nI_clamp (by omega)]) rfl h (by omega)
  rw [Nat.sub_zero] at g
  exact g
theorem goN_l (s : Us) {n : Int32} {N : Nat} (hn : n = nI N) (hN : N ≤ 1000) (L : Lg) (mm : Ms) : ∀ (x k : Nat) (i : Int32) (m1 : Us) (m : Ms) (U T : Nat) (X : Nat → Nat), k ≤ N → x + k = N + 1 → i = nI k → Sy (wtN m1 L) m U T X → T + (N - k) ≤ 1000000 → ∃ X', Sy (wtN (l_X11_go_p1_8 s n L x i m1) L) (l_X12_goesOn_2 mm n x i m) U (T + (N - k)) X' := by
  intro x
  induction x with
  | zero => intro k i m1 m U T X h1 h2; omega
  | succ x ih =>
    intro k i m1 m U T X h1 h2 h3 h4 h5
    rw [q_X11_go_p1_8, q_X12_goesOn_2]
    by_cases c : n ≤ i
    · rw [if_pos c, if_pos c]
      rw [hn, h3, nI_leI (by omega) (by omega)] at c
      have : N - k = 0 := by omega
      rw [this]
      exact ⟨X, h4⟩
    · rw [if_neg c, if_neg c]
      have hk : k < N := cnt_lt h3 h1 (by omega) (by rw [← hn]; exact c)
      obtain ⟨X', g⟩ := h4.goes (by omega)
      have tw := gl_goTide (s := wtN m1 L) (le := m_X7_lessonNow (Sc.le (Wt.c (wtN m1 L))) (Sc.ti (Wt.c (wtN m1 L)))) rfl
      have e : T + (N - k) = T + 1 + (N - (k + 1)) := by omega
      rw [e, bindv, bindv]
      refine ih (k + 1) _ _ _ U (T + 1) X' (by omega) (by omega) (by rw [h3]; exact nI_add k 1) ?_ (by omega)
      have et := wt_eta tw.1
      rw [← et] at g
      exact g
theorem goN {s : Us} {n : Int32} {N : Nat} (hn : n = nI N) (hN : N ≤ 1000) {m : Ms} {U T : Nat} {X : Nat → Nat} {L : Lg} (hL : holdL (Sc.lg (Sf.c (Us.nw s))) (Us.l0 s) (Us.l1 s) (Us.l2 s) (Us.l3 s) (Us.l4 s) (Us.l5 s) = L) (h : Sy (wtN s L) m U T X) (hT : T + N ≤ 1000000) : ∃ X', Sy (wtN (m_X11_go_p1 s n) L) (m_X12_goesOn m n) U (T + N) X' := by
  unfold m_X11_go_p1 m_X12_goesOn
  rw [hL, bindv]
  have g := goN_l s hn hN L m (n.toNatClampNeg + 1) 0 (nI 0) s m U T X (Nat.zero_le _) (by rw [hn, nI_clamp (by omega)]) rfl h (by omega)
  rw [Nat.sub_zero] at g
  exact g
theorem sh1w : ∀ k, k < 8 → ∀ b, b < 32 → (nI 1 <<< (nI k &&& 31)).toBitVec.getLsbD b = decide (b = k) := by decide +kernel
theorem sm8 : ∀ g, g < 8 → ((nI g &&& 31 : Int32).toBitVec.smod 32) = BitVec.ofNat 32 g := by decide +kernel
theorem gb_shrg (x : Int32) {g : Nat} (hg : g < 8) : (x >>> (nI g &&& 31)).toBitVec.getLsbD 0 = x.toBitVec.getLsbD g := by
  rw [Int32.toBitVec_shiftRight, sm8 g hg, BitVec.sshiftRight_eq', BitVec.getLsbD_sshiftRight]
  have e : (BitVec.ofNat 32 g).toNat = g := by rw [BitVec.toNat_ofNat]; omega
  rw [e]
  have h2 : g < 32 := by omega
  simp [h2]
theorem b2i_0 {b : Bool} (h : b2i b = 0) : b = false := (b2i_z b).mp h
theorem bit_eq (x : Int32) {g : Nat} (hg : g < 8) : (x &&& (nI 1 <<< (nI g &&& 31)) = 0) ↔ ((x >>> (nI g &&& 31)) &&& nI 1 = 0) := by
  rw [and1, gb_shrg x hg, b2i_z]
  constructor
  · intro h
    have q := gb_and x (nI 1 <<< (nI g &&& 31)) g
    rw [h, sh1w g hg g (by omega)] at q
    have z : (0 : Int32).toBitVec.getLsbD g = false := gb_0 g
    rw [z] at q
    simpa using q.symm
  · intro h
    apply Int32.toBitVec_inj.mp
    apply BitVec.eq_of_getLsbD_eq
    intro b hb
    have z : (0 : Int32).toBitVec.getLsbD b = false := gb_0 b
    rw [gb_and, sh1w g hg b hb, z]
    by_cases y : b = g
    · rw [y, h]; rfl
    · simp [y]
theorem tides_l (s : Us) {g : Nat} (hg : g < 8) (L : Lg) (mm : Ms) : ∀ (x k : Nat) (i : Int32) (m1 : Us) (m : Ms) (U T : Nat) (X : Nat → Nat), k ≤ 61 → x + k = 62 → i = nI k → Sy (wtA m1 L) m U T X → T + (61 - k) ≤ 1000000 → (l_X11_tidesAheadWith_7 s (nI g) L x i m1).1 = (l_X12_tidesKnown_5 mm (nI g) x (nI 61) i m).1 := by
  intro x
  induction x with
  | zero => intro k i m1 m U T X h1 h2; omega
  | succ x ih =>
    intro k i m1 m U T X h1 h2 h3 h4 h5
    rw [q_X11_tidesAheadWith_7, q_X12_tidesKnown_5]
    by_cases c : nI 60 < i
    · rw [if_pos c, if_pos c]; rfl
    · rw [if_neg c, if_neg c, if_pos rfl]
      have hk : k ≤ 60 := cnt_le h3 (by omega) (by decide) c
      have ea : m_X7_all (Sc.kn (Sf.c (Us.ah m1))) (Sc.sz (Sf.c (Us.ah m1))) (Sc.ou (Sf.c (Us.ah m1))) = m_X12_knownByAny (Ms.s m) := h4.all
      rw [ea]
      obtain ⟨X', gs⟩ := h4.goes (by omega)
      by_cases b : (m_X12_knownByAny (Ms.s m) >>> (nI g &&& 31)) &&& nI 1 = 0
      · rw [if_pos ((bit_eq _ hg).mpr b), if_pos b]
        simp only [bindv]
        obtain ⟨y, rfl⟩ : ∃ y, x = y + 1 := ⟨x - 1, by omega⟩
        rw [q_X12_tidesKnown_5]
        by_cases c2 : nI 60 < i + nI 1
        · rw [if_pos c2]; rfl
        · rw [if_neg c2, if_neg (fun q => by rw [h3] at q; have := nI_inj q (by omega) (by decide); omega)]
          rfl
      · rw [if_neg (fun q => b ((bit_eq _ hg).mp q)), if_neg b]
        have tw := gl_goTide (s := wtA m1 L) (le := m_X7_lessonNow (Sc.le (Wt.c (wtA m1 L))) (Sc.ti (Wt.c (wtA m1 L)))) rfl
        rw [bindv, bindv, bindv]
        refine ih (k + 1) _ _ _ U (T + 1) X' (by omega) (by omega) (by rw [h3]; exact nI_add k 1) ?_ (by omega)
        have et := wt_eta tw.1
        rw [← et] at gs
        exact gs
/-- behind how many tides a fact is known by nobody: both say the same -/
theorem tides_eq {s : Us} {g : Nat} (hg : g < 8) {m : Ms} {U T : Nat} {X : Nat → Nat} {L : Lg} (hL : holdL (Sc.lg (Sf.c (Us.nw s))) (Us.l0 s) (Us.l1 s) (Us.l2 s) (Us.l3 s) (Us.l4 s) (Us.l5 s) = L) (h : Sy (wtA s L) m U T X) (hT : T + 61 ≤ 1000000) : (m_X11_tidesAheadWith s (nI g)).1 = (m_X12_tidesKnown m (nI g)).1 := by
  unfold m_X11_tidesAheadWith m_X12_tidesKnown
  rw [hL, bindv]
  exact tides_l s hg L m 62 0 (nI 0) s m U T X (by decide) rfl rfl h (by omega)

/-! the class's state and the check's: what makes them the same -/
/-- a ledge of the class and the check's k-th -/
def LR (L : Lg) (f : Fn) (k : Nat) : Prop := (∃ r, r < 100 ∧ Lg.ke L = nI r ∧ f (212 + k) = nI r) ∧ (∃ r, r < 100 ∧ Lg.pa L = nI r ∧ f (217 + k) = nI r) ∧ ∃ (n : Nat) (dp : Nat → Nat), n ≤ 100 ∧ Lg.sz L = nI n ∧ f (222 + k) = nI n ∧ Sts (Lg.st L) (fun j => f (227 + 140 * k + j)) n dp
/-- no ledge -/
def L0 (L : Lg) : Prop := Lg.ke L = nI 4 ∧ Lg.pa L = nI 6 ∧ Lg.sz L = nI 0
/-- a row of a table -/
def TbR (f : Fn) (c : Nat) (tb : Tb) (lim : Nat) (P : Nat → Prop) : Prop := ∃ n, n ≤ lim ∧ Tb.n tb = nI n ∧ f c = nI n ∧ Tb.li tb = nI lim ∧ ∀ j, j < n → P j
/-- a whole school -/
def RelS (f : Fn) (sf : Sf) (Ls : Nat → Lg) (U T G : Nat) : Prop :=
  (U ≤ 6 ∧ Sc.sz (Sf.c sf) = nI U ∧ f 17 = nI U) ∧
  (T ≤ 9999 ∧ Sc.ti (Sf.c sf) = nI T ∧ f 0 = nI T) ∧
  (G ≤ 5 ∧ Sc.lg (Sf.c sf) = nI G ∧ f 18 = nI G ∧ f 23 = (if G = 0 then (-nI 1) else nI (G - 1))) ∧
  (∀ p, p < U → ∃ x, x < 256 ∧ Sc.kn (Sf.c sf) p = nI x ∧ f (1 + p) = nI x) ∧
  (∀ p, p < U → f (24 + p) = Sc.kd (Sf.c sf) p ∧ f (30 + p) = Sc.vv (Sf.c sf) p ∧ (∀ k, k < 4 → f (36 + 4 * p + k) = Sc.rw (Sf.c sf) (p * 4 + k)) ∧ f (7 + p) = b2i (outB (Sc.ou (Sf.c sf)) p) ∧ vp_in (Sc.kd (Sf.c sf) p) 7 ∧ (∃ v, v ≤ 9 ∧ Sc.vv (Sf.c sf) p = nI v) ∧ ∀ k, k < 4 → ∃ v, v ≤ 9 ∧ Sc.rw (Sf.c sf) (p * 4 + k) = nI v) ∧
  (∀ k, k < 4 → ∃ j, j ≤ 8 ∧ Sc.le (Sf.c sf) k = nI j ∧ f (13 + k) = if j = 8 then (-nI 5) else nI j) ∧
  (∃ n, n ≤ 100 ∧ Sc.sg (Sf.c sf) = nI n ∧ f 22 = nI n ∧ ∀ j, j < n → ∃ ch, ch < 128 ∧ Sf.tp sf j = nI ch ∧ f (112 + j) = nI ch) ∧
  TbR f 19 (Sf.se sf) 5 (fun j => (∃ u t g b, u < U ∧ t ≤ 12 ∧ g < 8 ∧ b ≤ 1 ∧ Tb.ce (Sf.se sf) (4 * j) = nI u ∧ Tb.ce (Sf.se sf) (4 * j + 1) = nI t ∧ Tb.ce (Sf.se sf) (4 * j + 2) = nI g ∧ Tb.ce (Sf.se sf) (4 * j + 3) = nI b ∧ f (60 + j) = nI u ∧ f (65 + j) = nI t ∧ f (70 + j) = nI g ∧ f (75 + j) = nI b)) ∧
  TbR f 20 (Sf.pl sf) 8 (fun j => ∃ w n, Tb.ce (Sf.pl sf) (4 * j) = w ∧ Tb.ce (Sf.pl sf) (4 * j + 1) = n ∧ f (80 + j) = w ∧ f (88 + j) = n ∧ ¬ m_X12_isPlan f w n = 0) ∧
  TbR f 21 (Sf.bk sf) 8 (fun j => ∃ u x, u < U ∧ x < 256 ∧ Tb.ce (Sf.bk sf) (4 * j) = nI u ∧ Tb.ce (Sf.bk sf) (4 * j + 1) = nI x ∧ f (96 + j) = nI u ∧ f (104 + j) = nI x) ∧
  (∀ j, j < 8 → rl 12 (Tb.ce (Sf.se sf) (4 * j + 1))) ∧ ((∀ j, fits .byte (.int (Sf.tp sf j)) = true) ∧ ∃ x, x < 2 ^ U ∧ Sc.ou (Sf.c sf) = nI x) ∧
  (∀ k, k < G → LR (Ls k) f k)
/-- the ledge that holds -/
def hold (s : Us) (G : Nat) : Lg := if G = 0 then Us.l0 s else if G = 1 then Us.l1 s else if G = 2 then Us.l2 s else if G = 3 then Us.l3 s else if G = 4 then Us.l4 s else Us.l5 s
def slots (s : Us) : Nat → Lg := fun k => hold s (k + 1)
theorem holdL_eq {s : Us} {G : Nat} (h : G ≤ 5) : holdL (nI G) (Us.l0 s) (Us.l1 s) (Us.l2 s) (Us.l3 s) (Us.l4 s) (Us.l5 s) = hold s G := by
  have : G = 0 ∨ G = 1 ∨ G = 2 ∨ G = 3 ∨ G = 4 ∨ G = 5 := by omega
  rcases this with rfl | rfl | rfl | rfl | rfl | rfl <;> rfl
theorem LR.of {s : Us} {f : Fn} {sf : Sf} {U T G : Nat} (h : RelS f sf (slots s) U T G) (h0 : L0 (Us.l0 s)) :
    (∃ r, r < 100 ∧ Lg.ke (hold s G) = nI r ∧ m_X12_tellsOf f (nI 212) (nI 4) = nI r) ∧ (∃ r, r < 100 ∧ Lg.pa (hold s G) = nI r ∧ m_X12_tellsOf f (nI 217) (nI 6) = nI r) ∧ ∃ (n F : Nat) (dp : Nat → Nat), n ≤ 100 ∧ Lg.sz (hold s G) = nI n ∧ m_X12_tellsOf f (nI 222) (nI 0) = nI n ∧ (nI 227 + (nI 140 * f (nI 23).toNatClampNeg)) = nI F ∧ 17 ≤ F ∧ F + n ≤ 927 ∧ Sts (Lg.st (hold s G)) (fun j => f (F + j)) n dp := by
  obtain ⟨-, -, ⟨hG, -, -, h23⟩, -, -, -, -, -, -, -, -, -, hL⟩ := h
  unfold m_X12_tellsOf
  rw [c23, h23]
  by_cases z : G = 0
  · subst z
    rw [if_pos rfl, if_pos rfl, if_pos rfl, if_pos rfl]
    exact ⟨⟨4, by decide, h0.1, rfl⟩, ⟨6, by decide, h0.2.1, rfl⟩, 0, 87, fun _ => 0, by decide, h0.2.2, rfl, by decide, by decide, by decide, rfl, fun j hj => by omega⟩
  · rw [if_neg z]
    have n1 : ¬ nI (G - 1) = (-nI 1) := by
      intro q
      have := congrArg Int32.toInt q
      rw [nI_toInt (by omega), show (-nI 1 : Int32).toInt = -1 by decide] at this
      omega
    obtain ⟨q1, q2, n, dp, q3, q4, q5, q6⟩ := hL (G - 1) (by omega)
    have es : slots s (G - 1) = hold s G := by unfold slots; rw [Nat.sub_add_cancel (by omega)]
    rw [es] at q1 q2 q4 q6
    rw [if_neg n1, if_neg n1, if_neg n1, nI_add, nI_add, nI_add, nI_clamp (by omega), nI_clamp (by omega), nI_clamp (by omega), pk_mul, nI_add]
    exact ⟨q1, q2, n, 227 + 140 * (G - 1), dp, q3, q4, q5, rfl, by omega, by omega, q6⟩
theorem SO.of {s : Us} {m : Ms} {sf : Sf} {U T G : Nat} (h : RelS (Ms.s m) sf (slots s) U T G) (h0 : L0 (Us.l0 s)) : SO m (Lg.st (hold s G)) (Lg.sz (hold s G)) := by
  obtain ⟨-, -, n, F, dp, h1, h2, h3, h4, h5, h6, h7⟩ := LR.of h h0
  exact ⟨F, n, dp, by unfold HE; rw [h4, h3, nI_add], h6, h4, h2, h1, h5, h7⟩
theorem StpR.rp {c e : Int32} {d d1 : Nat} (h : StpR c e d d1) : d < 64 ∧ (¬ e < 0 → vp_in (e - e / nI 8 * nI 8) 6 ∧ d1 = d + 1) ∧ (e = (-nI 1) → 1 ≤ d ∧ d1 = d) ∧ (e < 0 → ¬ e = (-nI 1) → ¬ e ≤ (-nI 10) → 2 ≤ d ∧ d1 = d - 1) ∧ (e ≤ (-nI 10) → d1 = 0) := by
  have t1 : (-nI 1 : Int32).toInt = -1 := by decide
  have t2 : (-nI 2 : Int32).toInt = -2 := by decide
  have t3 : (-nI 3 : Int32).toInt = -3 := by decide
  have t10 : (-nI 10 : Int32).toInt = -10 := by decide
  have t0 : (0 : Int32).toInt = 0 := rfl
  rcases h with ⟨l, o, w, hl, ho, hw, c, rfl, hd, d1⟩ | ⟨c, rfl, hd, hd2, d1⟩ | ⟨c, rfl, hd, hd2, d1⟩ | ⟨c, rfl, hd, hd2, d1⟩ | ⟨a, ha, c, rfl, hd, d1⟩ | ⟨a, ha, c, rfl, hd, d1⟩
  · have te : (nI (l + 8 * o + 32 * w)).toInt = ((l + 8 * o + 32 * w : Nat) : Int) := nI_toInt (by omega)
    refine ⟨by omega, fun _ => ⟨?_, d1⟩, fun q => ?_, fun q => ?_, fun q => ?_⟩
    · rw [pk_rem (by omega) (by decide) (by decide)]
      exact vp_in_nI (by omega) (by decide)
    · have := congrArg Int32.toInt q; rw [te, t1] at this; omega
    · rw [Int32.lt_iff_toInt_lt, te, t0] at q; omega
    · rw [Int32.le_iff_toInt_le, te, t10] at q; omega
  · exact ⟨by omega, fun q => absurd (by decide) q, fun _ => ⟨hd, d1⟩, fun _ q => absurd rfl q, fun q => absurd q (by decide)⟩
  · exact ⟨by omega, fun q => absurd (by decide) q, fun q => absurd q (by decide), fun _ _ _ => ⟨hd, d1⟩, fun q => absurd q (by decide)⟩
  · exact ⟨by omega, fun q => absurd (by decide) q, fun q => absurd q (by decide), fun _ _ _ => ⟨hd, d1⟩, fun q => absurd q (by decide)⟩
  · have te := negsub_toInt (a := 10) (n := a) (by decide) (by omega)
    refine ⟨by omega, fun q => ?_, fun q => ?_, fun _ _ q => ?_, fun _ => d1⟩
    · rw [Int32.lt_iff_toInt_lt, te, t0] at q; omega
    · have := congrArg Int32.toInt q; rw [te, t1] at this; omega
    · rw [Int32.le_iff_toInt_le, te, t10] at q; omega
  · have te := negsub_toInt (a := 200) (n := a) (by decide) (by omega)
    refine ⟨by omega, fun q => ?_, fun q => ?_, fun _ _ q => ?_, fun _ => d1⟩
    · rw [Int32.lt_iff_toInt_lt, te, t0] at q; omega
    · have := congrArg Int32.toInt q; rw [te, t1] at this; omega
    · rw [Int32.le_iff_toInt_le, te, t10] at q; omega
/-- the check may go on -/
theorem Gd.of {s : Us} {m : Ms} {sf : Sf} {U T G : Nat} (h : RelS (Ms.s m) sf (slots s) U T G) (h0 : L0 (Us.l0 s)) : Gd 9999 m := by
  have lr := LR.of h h0
  obtain ⟨⟨u6, -, h17⟩, ⟨t9, -, hT0⟩, ⟨hG, -, -, h23⟩, -⟩ := h
  refine ⟨⟨T, t9, hT0⟩, ?_, ?_, ?_⟩
  · unfold hU; rw [c17]; exact ⟨U, by omega, h17⟩
  · unfold hH
    rw [c23, h23]
    by_cases z : G = 0
    · rw [if_pos z]; exact fun q => absurd rfl q
    · rw [if_neg z]; exact fun _ => vp_in_nI (by omega) (by decide)
  · obtain ⟨-, -, n, F, dp, h1, h2, h3, h4, h5, h6, h7⟩ := lr
    exact ⟨F, n, dp, h4, h3, h6, ⟨h7.1, fun j hj => (h7.2 j hj).rp⟩, h5⟩
/-- the class may go on -/
theorem Vn.of {s : Us} {f : Fn} {U T G : Nat} (h : RelS f (Us.nw s) (slots s) U T G) (ht : TPs s) : Vn s := by
  obtain ⟨⟨hU, hz, -⟩, ⟨hT, hT0, -⟩, ⟨hG, hg, -, -⟩, -, hr, -⟩ := h
  refine ⟨⟨G, hG, hg⟩, ht, ?_, ⟨T, hT, hT0⟩, ⟨U, hU, hz⟩⟩
  intro i hi
  obtain ⟨k, hk, rfl⟩ := vp_in_of (has_of hi) (by decide)
  rw [nI_clamp (by omega)]
  by_cases z : k < U
  · exact (hr k z).2.2.2.2.1
  · rw [hz] at hi
    exact absurd (has_0 (by omega) (by omega)) hi

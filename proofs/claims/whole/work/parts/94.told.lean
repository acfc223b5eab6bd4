/-! one is told a fact; odds; means -/
def toldS (s : Us) (c : Sc) : Us := (Us.nw s, Us.kp s, (c, Sf.tp (Us.ah s), Sf.se (Us.ah s), Sf.pl (Us.ah s), Sf.bk (Us.ah s)), Us.h s, Us.k0 s, Us.k1 s, Us.k2 s, Us.k3 s, Us.k4 s, Us.k5 s, Us.k6 s, Us.st s, Us.l0 s, Us.l1 s, Us.l2 s, Us.l3 s, Us.l4 s, Us.l5 s, Us.b0 s, Us.b1 s, Us.b2 s, Us.b3 s, Us.b4 s, Us.b5 s, Us.b6 s, Us.it s, Us.ac s)
def knB (s : Us) (k y : Nat) : Sc := (Sc.kd (becR (Sf.c (Us.ah s)) (Sf.c (Us.nw s))), Sc.vv (becR (Sf.c (Us.ah s)) (Sf.c (Us.nw s))), upd (Sc.kn (becR (Sf.c (Us.ah s)) (Sf.c (Us.nw s)))) k (nI y), Sc.rw (becR (Sf.c (Us.ah s)) (Sf.c (Us.nw s))), Sc.le (becR (Sf.c (Us.ah s)) (Sf.c (Us.nw s))), Sc.sz (becR (Sf.c (Us.ah s)) (Sf.c (Us.nw s))), Sc.ou (becR (Sf.c (Us.ah s)) (Sf.c (Us.nw s))), Sc.ti (becR (Sf.c (Us.ah s)) (Sf.c (Us.nw s))), Sc.sg (becR (Sf.c (Us.ah s)) (Sf.c (Us.nw s))), Sc.lg (becR (Sf.c (Us.ah s)) (Sf.c (Us.nw s))))
def upM (m : Ms) (k y : Nat) : Ms := (Ms.th m, (upd (Ms.s m) (1 + k) (nI y)), Ms.im m, Ms.fr m, Ms.hi m, Ms.ac m, Ms.sp m, Ms.en m, Ms.wr m, Ms.op m, Ms.bb m, Ms.tr m, Ms.su m, Ms.lf m, Ms.lk m, Ms.nx m, Ms.bo m, Ms.ra m, Ms.ki m, Ms.nu m, Ms.tv m)
def Iv (s0 : Us) (m0 : Ms) (L : Lg) (s1 : Us) (m1 : Ms) : Prop := Uk s0 s1 ∧ SKc (Sf.c (Us.nw s0)) (Us.st s1) L ∧ Kp 0 m0 m1 ∧ CK m1 (Lg.st L) (Lg.sz L) ∧ Lf m0 m1
theorem Uk.told (s : Us) (c : Sc) : Uk s (toldS s c) := rfl
theorem toldS_c (s : Us) (c : Sc) : Sf.c (Us.ah (toldS s c)) = c := rfl
theorem toldS_st (s : Us) (c : Sc) : Us.st (toldS s c) = Us.st s := rfl
theorem Iv.s {s0 s1 : Us} {m0 m1 : Ms} {L : Lg} (iv : Iv s0 m0 L s1 m1) : Ms.s m1 = Ms.s m0 := funext fun i => iv.2.2.1.1 i (Nat.zero_le i)
theorem Iv.rel {s0 s1 : Us} {m m0 m1 : Ms} {L : Lg} {K K0 : Nat} (iv : Iv s0 m0 L s1 m1) (h : Rel s0 m K0) (k : Kp 0 m m0) (l : LK m0 K) : Rel s1 m1 K := h.same iv.1 (k.tr iv.2.2.1) (l.lf iv.2.2.2.2)
theorem Iv.start {s : Us} {m0 : Ms} {L : Lg} (ck : CK m0 (Lg.st L) (Lg.sz L)) : Iv s m0 L (fgtS s) m0 := ⟨Uk.fg s, by rw [fgtS_st]; exact SKc.fgt _ _ _ _, Kp.rf 0 m0, ck, Lf.rf m0⟩
/-- a school is looked ahead with, and what went back stands -/
theorem Iv.on {s0 s1 s2 : Us} {m0 m1 m2 : Ms} {L : Lg} {c : Sc} (iv : Iv s0 m0 L s1 m1) (u : Uv (toldS s1 c) s2) (e : Sce (Sf.c (Us.nw s0)) c) (sk : SK (wtA s2 L)) (ru : Ru (m_X12_keeps m1) m2) (ck : CK m2 (Lg.st L) (Lg.sz L)) : Iv s0 m0 L s2 (m_X12_goesBack m2) := by
  obtain ⟨b1, b2, b3⟩ := ru.back ck
  exact ⟨(iv.1.tr (Uk.told s1 c)).tr u.1, Iv.c u (by rw [toldS_c]; exact e) sk, iv.2.2.1.tr b1, b2, iv.2.2.2.2.tr b3⟩
theorem Iv.hL {s0 s1 : Us} {m0 m1 : Ms} {G U T : Nat} (hs : RelS (Ms.s m0) (Us.nw s0) (slots s0) U T G) (iv : Iv s0 m0 (hold s0 G) s1 m1) (c : Sc) : holdL (Sc.lg (Sf.c (Us.nw (toldS s1 c)))) (Us.l0 (toldS s1 c)) (Us.l1 (toldS s1 c)) (Us.l2 (toldS s1 c)) (Us.l3 (toldS s1 c)) (Us.l4 (toldS s1 c)) (Us.l5 (toldS s1 c)) = hold s0 G := by
  rw [Uk.hL (iv.1.tr (Uk.told s1 c)), hs.2.2.1.2.1]
  exact holdL_eq hs.G5
theorem Iv.sy {s0 s1 : Us} {m0 m1 : Ms} {G U T : Nat} (hs : RelS (Ms.s m0) (Us.nw s0) (slots s0) U T G) (h0 : L0 (Us.l0 s0)) (iv : Iv s0 m0 (hold s0 G) s1 m1) : Sy (wtA (toldS s1 (becR (Sf.c (Us.ah s1)) (Sf.c (Us.nw s1)))) (hold s0 G)) (m_X12_keeps m1) U T (fun p => (Sc.kn (Sf.c (Us.nw s0)) p).toNatClampNeg) :=
  Sy.ah hs h0 (by rw [keeps_s]; exact iv.s) iv.2.2.2.1.keeps (wtA_l _ _) (by rw [wtA_c, toldS_c, iv.1.nw]) (by rw [wtA_st, toldS_st]; exact iv.2.1)
theorem Iv.sce {s0 s1 : Us} {m0 m1 : Ms} {L : Lg} (iv : Iv s0 m0 L s1 m1) : Sce (Sf.c (Us.nw s0)) (becR (Sf.c (Us.ah s1)) (Sf.c (Us.nw s1))) := by
  rw [iv.1.nw]; exact Sce.bec _ _
theorem Iv.kn {s0 s1 : Us} {m0 m1 : Ms} {G U T : Nat} (hs : RelS (Ms.s m0) (Us.nw s0) (slots s0) U T G) (h0 : L0 (Us.l0 s0)) (iv : Iv s0 m0 (hold s0 G) s1 m1) {k y : Nat} (hk : k < U) (hy : y < 256) : (∃ X, Sy (wtA (toldS s1 (knB s1 k y)) (hold s0 G)) (upM (m_X12_keeps m1) k y) U T X) ∧ Sce (Sf.c (Us.nw s0)) (knB s1 k y) := by
  have e := iv.sce
  refine ⟨⟨_, (Iv.sy hs h0 iv).kn hk hy (W' := wtA (toldS s1 (knB s1 k y)) (hold s0 G)) (m' := upM (m_X12_keeps m1) k y) ?_ ?_ ?_ ?_ ?_ ?_ ?_ ?_ ?_ ?_ rfl rfl rfl rfl⟩, ?_⟩
  all_goals first | (rw [wtA_c, wtA_c, toldS_c, toldS_c]; unfold knB; generalize becR (Sf.c (Us.ah s1)) (Sf.c (Us.nw s1)) = B; rfl) | (rw [wtA_l, wtA_l]) | (rw [wtA_st, wtA_st, toldS_st, toldS_st]) | skip
  unfold knB
  generalize becR (Sf.c (Us.ah s1)) (Sf.c (Us.nw s1)) = B at e ⊢
  exact e
theorem or_256 : ∀ x, x < 256 → ∀ g, g < 8 → (if x.testBit g then x else x + 2 ^ g) < 256 ∧ nI x ||| (nI 1 <<< (nI g &&& 31)) = nI (if x.testBit g then x else x + 2 ^ g) := by decide +kernel
theorem tf_eq {s1 : Us} {U k x g y : Nat} (hU : U ≤ 6) (hk : k < U) (hz : Sc.sz (Sf.c (Us.nw s1)) = nI U) (hx : Sc.kn (Sf.c (Us.nw s1)) k = nI x) (hy : nI x ||| (nI 1 <<< (nI g &&& 31)) = nI y) : m_X7_tellFact (becR (Sf.c (Us.ah s1)) (Sf.c (Us.nw s1))) (nI k) (nI g) = knB s1 k y := by
  have b := becR_f (Sf.c (Us.ah s1)) (Sf.c (Us.nw s1))
  unfold m_X7_tellFact knB
  generalize becR (Sf.c (Us.ah s1)) (Sf.c (Us.nw s1)) = B at b ⊢
  rw [b.1, hz, if_neg (has_1 hk hU), nI_clamp (by omega), b.2.2.2.1 k (by omega), hx, hy, ← hz, ← b.1]
theorem tell_l {s0 : Us} {m0 : Ms} {G U T : Nat} (hs : RelS (Ms.s m0) (Us.nw s0) (slots s0) U T G) (h0 : L0 (Us.l0 s0)) {g : Nat} (hg : g < 8) (ss : Us) (mm r2 : Ms) : ∀ (x k : Nat) (mo be i : Int32) (s1 : Us) (m1 : Ms), k ≤ U → x + k = 7 → i = nI k → Iv s0 m0 (hold s0 G) s1 m1 → (mo = (-nI 1) ∨ ∃ q, q ≤ 61 ∧ mo = nI q) → (l_X11_tell_25 ss (nI g) x mo be i s1).1 = (l_X12_tell_21 mm (nI g) r2 x be mo i m1).1 ∧ Iv s0 m0 (hold s0 G) (l_X11_tell_25 ss (nI g) x mo be i s1).2 (l_X12_tell_21 mm (nI g) r2 x be mo i m1).2 := by
  have hs' := hs
  obtain ⟨u, t, gg, kn, ro, -⟩ := hs
  have u6 := u.1
  have t9 := t.1
  intro x
  induction x with
  | zero => intro k mo be i s1 m1 h1 h2; omega
  | succ x ih =>
    intro k mo be i s1 m1 h1 h2 h3 iv hmo
    have enw := iv.1.nw
    have es := iv.s
    rw [q_X11_tell_25, q_X12_tell_21, enw, u.2.1, c17, es, u.2.2]
    by_cases c : nI U ≤ i
    · rw [if_pos c, if_pos c]; exact ⟨rfl, iv⟩
    rw [if_neg c, if_neg c]
    rw [h3, nI_leI (by omega) (by omega)] at c
    have n6 : ¬ nI 6 ≤ i := fun q => by rw [h3, nI_leI (by decide) (by omega)] at q; omega
    have hk : k < U := by omega
    have e7 : (nI 7 + i).toNatClampNeg = 7 + k := by rw [h3]; exact ck2 (by omega)
    have e1 : (nI 1 + i).toNatClampNeg = 1 + k := by rw [h3]; exact ck2 (by omega)
    rw [if_neg n6, e7, e1, (ro k hk).2.2.2.1, show m_X7_isOut (Sc.ou (Sf.c (Us.nw s0))) i = b2i (outB (Sc.ou (Sf.c (Us.nw s0))) k) by rw [h3]; exact outB_b _ _]
    by_cases o : b2i (outB (Sc.ou (Sf.c (Us.nw s0))) k) = 0
    · rw [if_pos o, if_pos o]
      obtain ⟨z, z1, z2, z3⟩ := kn k hk
      obtain ⟨y1, y2⟩ := or_256 z z1 g hg
      generalize (if z.testBit g then z else z + 2 ^ g) = y at y1 y2
      obtain ⟨⟨X, sy⟩, sc⟩ := Iv.kn hs' h0 iv hk y1
      have tx := tides_x (s := toldS s1 (knB s1 k y)) hg (Iv.hL hs' iv _) sy (by omega)
      have uv := ut_tides (toldS s1 (knB s1 k y)) (nI g)
      have eC : m_X11_tidesIfTold s1 i (nI g) = m_X11_tidesAheadWith (toldS s1 (knB s1 k y)) (nI g) := by
        unfold m_X11_tidesIfTold
        rw [h3, tf_eq u6 hk (by rw [enw]; exact u.2.1) (by rw [enw]; exact z2) y2]
        rfl
      have eM : (Ms.s (m_X12_keeps m1) (1 + k) ||| (nI 1 <<< (nI g &&& 31))) = nI y := by rw [keeps_s, es, z3, y2]
      rw [eC]
      simp only [bindv]
      rw [eM]
      have um : (Ms.th (m_X12_keeps m1), (upd (Ms.s (m_X12_keeps m1)) (1 + k) (nI y)), Ms.im (m_X12_keeps m1), Ms.fr (m_X12_keeps m1), Ms.hi (m_X12_keeps m1), Ms.ac (m_X12_keeps m1), Ms.sp (m_X12_keeps m1), Ms.en (m_X12_keeps m1), Ms.wr (m_X12_keeps m1), Ms.op (m_X12_keeps m1), Ms.bb (m_X12_keeps m1), Ms.tr (m_X12_keeps m1), Ms.su (m_X12_keeps m1), Ms.lf (m_X12_keeps m1), Ms.lk (m_X12_keeps m1), Ms.nx (m_X12_keeps m1), Ms.bo (m_X12_keeps m1), Ms.ra (m_X12_keeps m1), Ms.ki (m_X12_keeps m1), Ms.nu (m_X12_keeps m1), Ms.tv (m_X12_keeps m1)) = upM (m_X12_keeps m1) k y := rfl
      rw [um]
      generalize m_X11_tidesAheadWith (toldS s1 (knB s1 k y)) (nI g) = r at tx uv ⊢
      generalize m_X12_tidesKnown (upM (m_X12_keeps m1) k y) (nI g) = q at tx ⊢
      obtain ⟨t1, ⟨w, hw, t2⟩, t3, m2, t4, t5, t6⟩ := tx
      have ru : Ru (m_X12_keeps m1) m2 := Ru.tr (Ru.up (Ru.rf _) (fun i hi => by rw [pk_un (by omega)])) t6
      have iv2 := iv.on uv sc t3 ru t5
      rw [← t4] at iv2
      rw [← t1, t2]
      by_cases lo : nI w ≤ mo
      · rw [if_pos lo, if_pos lo]
        exact ih (k + 1) _ _ _ _ _ (by omega) (by omega) (by rw [h3]; exact nI_add k 1) iv2 hmo
      · rw [if_neg lo, if_neg lo, h3]
        exact ih (k + 1) _ _ _ _ _ (by omega) (by omega) (nI_add k 1) iv2 (Or.inr ⟨w, hw, rfl⟩)
    · rw [if_neg o, if_neg o]
      have m1le : (-nI 1) ≤ mo := by
        rcases hmo with rfl | ⟨q, hq, rfl⟩
        · exact Int32.le_refl _
        · rw [Int32.le_iff_toInt_le, nI_toInt (by omega), show (-nI 1 : Int32).toInt = -1 by decide]; omega
      simp only [bindv, if_pos m1le]
      exact ih (k + 1) _ _ _ _ _ (by omega) (by omega) (by rw [h3]; exact nI_add k 1) iv hmo
theorem a_tell {s : Us} {m : Ms} {K : Nat} (h : Rel s m K) (hK : K < 2 ^ 30) (f : Int32) : Ans (m_X11_tell s f).1 (m_X12_tell m f).1 (m_X11_tell s f).2 (m_X12_tell m f).2 K := by
  have hh := h
  obtain ⟨lk, U, T, G, hs, h0, ht, hi, ha⟩ := h
  obtain ⟨e1, e2, e3, e4⟩ := hh.start hK (Lg.st (hold s G)) (Lg.sz (hold s G))
  unfold m_X11_tell m_X12_tell
  rw [isF]
  by_cases c : m_X12_isFact f = 0
  · rw [if_pos c, if_pos c]; exact ⟨rfl, K, by omega, hh⟩
  rw [if_neg c, if_neg c]
  obtain ⟨g, hg, rfl⟩ := fact_ex c
  generalize m_X12_looksAnew m = m1 at e1 e2 e3 e4 ⊢
  rw [bindv]
  have hs1 : RelS (Ms.s m1) (Us.nw s) (slots s) U T G := by rw [e1]; exact hs
  have key := tell_l hs1 h0 hg s m m1 7 0 (-nI 1) (-nI 5) (nI 0) (fgtS s) m1 (Nat.zero_le _) rfl rfl (Iv.start e2) (Or.inl rfl)
  exact ⟨key.1, K + 1, by omega, key.2.rel hh e4 e3⟩
/-! the lowest way to write a part -/
theorem lw_f : ∀ a, a ≤ 48 → ∀ b, b ≤ 6 → 0 < b → m_X11_lowest (nI a) (nI b) (nI 0) = m_X12_lowest (lN a) (lN b) (nI 0) ∧ m_X11_lowest (nI a) (nI b) (nI 1) = m_X12_lowest (lN a) (lN b) (nI 1) := by decide +kernel
theorem lw_0 (a pa : Int32) : m_X11_lowest a (nI 0) pa = (-9223372036854775808) := by
  unfold m_X11_lowest
  rw [if_neg (by decide)]
theorem lw_eq {a b : Nat} {pa : Int32} (ha : a ≤ 48) (hb : b ≤ 6) (hp : ¬ m_X12_in pa (nI 0) (nI 1) = 0) : m_X11_lowest (nI a) (nI b) pa = (if lg_cmp (lN b) (lN 0) = 0 then (-9223372036854775808) else m_X12_lowest (lN a) (lN b) pa) := by
  by_cases z : b = 0
  · subst z
    rw [lw_0, if_pos (by decide)]
  · rw [if_neg (fun q => z ((lc0 (d := b) rfl (by omega)).mp q))]
    obtain ⟨p, hp2, rfl⟩ := in_ex (by decide) hp
    have : p = 0 ∨ p = 1 := by omega
    rcases this with rfl | rfl
    · exact (lw_f a ha b hb (by omega)).1
    · exact (lw_f a ha b hb (by omega)).2
theorem no_f : ∀ U, U ≤ 6 → ∀ x, x < 64 → x < 2 ^ U → (m_X7_notOut (nI U) (nI x)).toNatClampNeg ≤ 6 ∧ m_X7_notOut (nI U) (nI x) = nI (m_X7_notOut (nI U) (nI x)).toNatClampNeg ∧ nI U - m_X12_countOf (nI x) = m_X7_notOut (nI U) (nI x) := by decide +kernel
theorem l64 : ∀ a, a ≤ 48 → (nI a).toInt64 = lN a := by decide +kernel
theorem bc_8 : ∀ x, x < 256 → ∃ c, c ≤ 8 ∧ m_J6_bitCount_0f7a4 (nI x) = nI c := fun x hx => ⟨cnt x, (cnt_is x).2, by rw [← cnt_eq x hx]; exact (cnt_is x).1⟩
theorem held_b {kn : Fn} {z o : Int32} {U : Nat} (hU : U ≤ 6) (u2 : z = nI U) (hX : ∀ p, p < U → ∃ x, x < 256 ∧ kn p = nI x) : ∀ (n k : Nat) (a i : Int32), k ≤ U → n + k = 7 → i = nI k → (∃ q, q ≤ 8 * k ∧ a = nI q) → ∃ q, q ≤ 48 ∧ l_X7_held_4 kn z o n a i = nI q := by
  intro n
  induction n with
  | zero => intro k a i h1 h2; omega
  | succ n ih =>
    intro k a i h1 h2 h3 h4
    rw [q_X7_held_4, u2]
    obtain ⟨q, hq, rfl⟩ := h4
    by_cases c : nI U ≤ i
    · rw [if_pos c]; exact ⟨q, by omega, rfl⟩
    rw [if_neg c]
    rw [h3, nI_leI (by omega) (by omega)] at c
    have n6 : ¬ nI 6 ≤ i := fun q => by rw [h3, nI_leI (by decide) (by omega)] at q; omega
    rw [if_neg n6]
    obtain ⟨x, x1, x2⟩ := hX k (by omega)
    obtain ⟨c8, d1, d2⟩ := bc_8 x x1
    have ei : i.toNatClampNeg = k := by rw [h3, nI_clamp (by omega)]
    rw [ei, x2, d2]
    unfold bindv
    rw [← u2]
    refine ih (k + 1) _ _ (by omega) (by omega) (by rw [h3]; exact nI_add k 1) ?_
    split
    · exact ⟨q + c8, by omega, nI_add q c8⟩
    · exact ⟨q, by omega, nI_add q 0⟩
theorem a_mean {s : Us} {m : Ms} {K : Nat} (h : Rel s m K) (pa : Int32) : m_X11_mean (Sc.kn (Sf.c (Us.nw s))) (Sc.sz (Sf.c (Us.nw s))) (Sc.ou (Sf.c (Us.nw s))) pa = m_X12_mean (Ms.s m) pa := by
  obtain ⟨lk, U, T, G, hs, h0, ht, hi, ha⟩ := h
  have he := hs.held
  obtain ⟨x, x1, x2, x3⟩ := hs.away
  obtain ⟨u, t, g, kn, -⟩ := hs
  have p64 := pw_64 U u.1
  obtain ⟨n1, n2, n3⟩ := no_f U u.1 x (by omega) x1
  obtain ⟨q, q1, q2⟩ := held_b (kn := Sc.kn (Sf.c (Us.nw s))) (o := Sc.ou (Sf.c (Us.nw s))) u.1 u.2.1 (fun p hp => by
    obtain ⟨y, y1, y2, y3⟩ := kn p hp
    exact ⟨y, y1, y2⟩) 7 0 (nI 0) (nI 0) (Nat.zero_le _) rfl rfl ⟨0, by omega, rfl⟩
  have q3 : m_X7_held (Sc.kn (Sf.c (Us.nw s))) (Sc.sz (Sf.c (Us.nw s))) (Sc.ou (Sf.c (Us.nw s))) = nI q := q2
  unfold m_X11_mean m_X12_mean
  rw [isP, ← he, q3, x3, c17, u.2.2, n3, u.2.1, x2]
  by_cases c : m_X12_in pa (nI 0) (nI 1) = 0
  · rw [if_pos c, if_pos c]
  rw [if_neg c, if_neg c]
  generalize (m_X7_notOut (nI U) (nI x)).toNatClampNeg = b at n1 n2
  rw [n2, l64 b (by omega), l64 q q1]
  exact lw_eq q1 n1 c
theorem bit01 (x : Int32) : ∃ b, b ≤ 1 ∧ x &&& nI 1 = nI b := by
  rw [and1]
  cases x.toBitVec.getLsbD 0
  · exact ⟨0, by decide, rfl⟩
  · exact ⟨1, by decide, rfl⟩
theorem odds_l {s0 : Us} {m0 : Ms} {G U T : Nat} (hs : RelS (Ms.s m0) (Us.nw s0) (slots s0) U T G) (h0 : L0 (Us.l0 s0)) {g N : Nat} (hg : g < 8) (hN : N ≤ 60) {pa : Int32} (hp : ¬ m_X12_in pa (nI 0) (nI 1) = 0) (ss : Us) (mm r4 : Ms) : ∀ (x k a b : Nat) (wi i : Int32) (up ma : Int64) (s1 : Us) (m1 : Ms), k ≤ U → x + k = 7 → i = nI k → Iv s0 m0 (hold s0 G) s1 m1 → a ≤ b → b ≤ k → wi = nI a → up = lN a → ma = lN b → m_X7_notOut (Sc.sz (Sf.c (Us.nw s0))) (Sc.ou (Sf.c (Us.nw s0))) = l_X7_notOut_4 (Sc.sz (Sf.c (Us.nw s0))) (Sc.ou (Sf.c (Us.nw s0))) x (nI b) i → (l_X11_odds_39 ss (nI g) (nI N) pa x wi i s1).1 = (l_X12_odds_43 mm (nI g) (nI N) pa r4 x up ma i m1).1 ∧ Iv s0 m0 (hold s0 G) (l_X11_odds_39 ss (nI g) (nI N) pa x wi i s1).2 (l_X12_odds_43 mm (nI g) (nI N) pa r4 x up ma i m1).2 := by
  have hs' := hs
  obtain ⟨u, t, gg, kn, ro, -⟩ := hs
  have u6 := u.1
  have t9 := t.1
  intro x
  induction x with
  | zero => intro k a b wi i up ma s1 m1 h1 h2; omega
  | succ x ih =>
    intro k a b wi i up ma s1 m1 h1 h2 h3 iv hab hbk hwi hup hma hno
    have enw := iv.1.nw
    have es := iv.s
    rw [q_X11_odds_39, q_X12_odds_43, enw, c17, es, u.2.2]
    by_cases c : nI U ≤ i
    · rw [if_pos (show Sc.sz (Sf.c (Us.nw s0)) ≤ i by rw [u.2.1]; exact c), if_pos c]
      rw [hno, q_X7_notOut_4, if_pos (by rw [u.2.1]; exact c), hwi, hup, hma, lw_eq (by omega) (by omega) hp]
      by_cases z : lg_cmp (lN b) (lN 0) = 0
      · rw [if_pos z, if_pos z]; exact ⟨rfl, iv⟩
      · rw [if_neg z, if_neg z]; exact ⟨rfl, iv⟩
    rw [if_neg (show ¬ Sc.sz (Sf.c (Us.nw s0)) ≤ i by rw [u.2.1]; exact c), if_neg c]
    rw [q_X7_notOut_4, if_neg (by rw [u.2.1]; exact c)] at hno
    rw [h3, nI_leI (by omega) (by omega)] at c
    have n6 : ¬ nI 6 ≤ i := fun q => by rw [h3, nI_leI (by decide) (by omega)] at q; omega
    rw [if_neg n6] at hno
    have hk : k < U := by omega
    have e7 : (nI 7 + i).toNatClampNeg = 7 + k := by rw [h3]; exact ck2 (by omega)
    have e1 : (nI 1 + i).toNatClampNeg = 1 + k := by rw [h3]; exact ck2 (by omega)
    have ei : i.toNatClampNeg = k := by rw [h3, nI_clamp (by omega)]
    have eo : m_X7_isOut (Sc.ou (Sf.c (Us.nw s0))) i = b2i (outB (Sc.ou (Sf.c (Us.nw s0))) k) := by rw [h3]; exact outB_b _ _
    rw [eo] at hno
    rw [if_neg n6, e7, e1, ei, (ro k hk).2.2.2.1, eo]
    by_cases o : b2i (outB (Sc.ou (Sf.c (Us.nw s0))) k) = 0
    · rw [if_pos o] at hno
      rw [if_pos o, if_pos o]
      obtain ⟨⟨X, sy⟩, sc⟩ := Iv.kn hs' h0 iv hk (y := 0) (by decide)
      obtain ⟨X', gy⟩ := goA (s := toldS s1 (knB s1 k 0)) (n := nI N) rfl (by omega) (Iv.hL hs' iv _) sy (by omega)
      have ru0 := sy.ron (n := nI N) rfl (by omega)
      have uv := ut_go (toldS s1 (knB s1 k 0)) (nI N)
      have al := gy.all
      generalize hr : m_X11_go_p13 (toldS s1 (knB s1 k 0)) (nI N) = r at gy uv al
      unfold toldS knB at hr
      rw [enw] at hr
      simp only [bindv]
      have um : (Ms.th (m_X12_keeps m1), (upd (Ms.s (m_X12_keeps m1)) (1 + k) (nI 0)), Ms.im (m_X12_keeps m1), Ms.fr (m_X12_keeps m1), Ms.hi (m_X12_keeps m1), Ms.ac (m_X12_keeps m1), Ms.sp (m_X12_keeps m1), Ms.en (m_X12_keeps m1), Ms.wr (m_X12_keeps m1), Ms.op (m_X12_keeps m1), Ms.bb (m_X12_keeps m1), Ms.tr (m_X12_keeps m1), Ms.su (m_X12_keeps m1), Ms.lf (m_X12_keeps m1), Ms.lk (m_X12_keeps m1), Ms.nx (m_X12_keeps m1), Ms.bo (m_X12_keeps m1), Ms.ra (m_X12_keeps m1), Ms.ki (m_X12_keeps m1), Ms.nu (m_X12_keeps m1), Ms.tv (m_X12_keeps m1)) = upM (m_X12_keeps m1) k 0 := rfl
      rw [um, hr]
      generalize m_X12_goesOn (upM (m_X12_keeps m1) k 0) (nI N) = q at gy ru0 al ⊢
      have al' : m_X7_all (Sc.kn (Sf.c (Us.ah r))) (Sc.sz (Sf.c (Us.ah r))) (Sc.ou (Sf.c (Us.ah r))) = m_X12_knownByAny (Ms.s q) := al
      rw [al']
      have ru : Ru (m_X12_keeps m1) q := Ru.tr (Ru.up (Ru.rf _) (fun i hi => by rw [pk_un (by omega)])) ru0
      have iv2 := iv.on uv sc gy.sk ru gy.ck
      obtain ⟨d, d1, d2⟩ := bit01 (m_X12_knownByAny (Ms.s q) >>> (nI g &&& 31))
      rw [d2, hwi, hup, hma, l64 d (by omega), nI_add, lN_add, lN_add]
      refine ih (k + 1) (a + d) (b + 1) _ _ _ _ _ _ (by omega) (by omega) (by rw [h3]; exact nI_add k 1) iv2 (by omega) (by omega) rfl rfl rfl ?_
      rw [hno]
      dsimp only [bindv]
      rw [nI_add]
    · rw [if_neg o] at hno
      rw [if_neg o, if_neg o]
      refine ih (k + 1) a b _ _ _ _ _ _ (by omega) (by omega) (by rw [h3]; exact nI_add k 1) iv hab (by omega) hwi hup hma ?_
      rw [hno]
      dsimp only [bindv]
      rw [nI_add]
      rfl
theorem a_odds {s : Us} {m : Ms} {K : Nat} (h : Rel s m K) (hK : K < 2 ^ 30) (f n pa : Int32) : (m_X11_odds s f n pa).1 = (m_X12_odds m f n pa).1 ∧ ∃ K', K' ≤ K + 20 ∧ Rel (m_X11_odds s f n pa).2 (m_X12_odds m f n pa).2 K' := by
  have hh := h
  obtain ⟨lk, U, T, G, hs, h0, ht, hi, ha⟩ := h
  obtain ⟨e1, e2, e3, e4⟩ := hh.start hK (Lg.st (hold s G)) (Lg.sz (hold s G))
  unfold m_X11_odds m_X12_odds
  rw [isF, show m_X11_areTides n = m_X12_in n (nI 0) (nI 60) from rfl, isP]
  by_cases c : m_X12_isFact f = 0
  · rw [if_pos c, if_pos c]; exact ⟨rfl, K, by omega, hh⟩
  rw [if_neg c, if_neg c]
  obtain ⟨g, hg, rfl⟩ := fact_ex c
  by_cases c1 : m_X12_in n (nI 0) (nI 60) = 0
  · rw [if_pos c1, if_pos c1]; exact ⟨rfl, K, by omega, hh⟩
  rw [if_neg c1, if_neg c1]
  obtain ⟨N, hN, rfl⟩ := in_ex (by decide) c1
  by_cases c2 : m_X12_in pa (nI 0) (nI 1) = 0
  · rw [if_pos c2, if_pos c2]; exact ⟨rfl, K, by omega, hh⟩
  rw [if_neg c2, if_neg c2]
  generalize m_X12_looksAnew m = m1 at e1 e2 e3 e4 ⊢
  rw [bindv]
  have hs1 : RelS (Ms.s m1) (Us.nw s) (slots s) U T G := by rw [e1]; exact hs
  have key := odds_l hs1 h0 hg hN c2 s m m1 7 0 0 0 (nI 0) (nI 0) (lN 0) (lN 0) (fgtS s) m1 (Nat.zero_le _) rfl rfl (Iv.start e2) (Nat.le_refl 0) (Nat.le_refl 0) rfl rfl rfl rfl
  exact ⟨key.1, K + 1, by omega, key.2.rel hh e4 e3⟩

/-! looking ahead: in and out -/
/-- the check goes ahead -/
def Ru (m m' : Ms) : Prop := Kp 17 m m' ∧ Ms.fr m' = Ms.fr m ∧ Lf m m'
theorem Ru.rf (m : Ms) : Ru m m := ⟨Kp.rf 17 m, rfl, Lf.rf m⟩
theorem Ru.tr {a b c : Ms} (h : Ru a b) (g : Ru b c) : Ru a c := ⟨h.1.tr g.1, g.2.1.trans h.2.1, h.2.2.tr g.2.2⟩
theorem Ru.back {m1 m2 : Ms} {st : Fn} {sz : Int32} (r : Ru (m_X12_keeps m1) m2) (ck : CK m2 st sz) : Kp 0 m1 (m_X12_goesBack m2) ∧ CK (m_X12_goesBack m2) st sz ∧ Lf m1 (m_X12_goesBack m2) := by
  have k := ef_keeps m1
  have b := ef_goesBack m2
  have c := cm_back m2
  refine ⟨kp_back ((k.1.mono (by omega)).tr r.1) (fun j hj => by rw [r.2.1]; exact k.2 j hj), ck.kp (fun i hi => b.1.1 i hi) c.1 c.2.1 c.2.2, ((cm_keeps m1).lf.tr r.2.2).tr c.lf⟩
/-- some cells of what goes back change -/
theorem Ru.up {m0 m : Ms} {f : Fn} (r : Ru m0 m) (h : ∀ i, 17 ≤ i → f i = Ms.s m i) : Ru m0 (Ms.th m, f, Ms.im m, Ms.fr m, Ms.hi m, Ms.ac m, Ms.sp m, Ms.en m, Ms.wr m, Ms.op m, Ms.bb m, Ms.tr m, Ms.su m, Ms.lf m, Ms.lk m, Ms.nx m, Ms.bo m, Ms.ra m, Ms.ki m, Ms.nu m, Ms.tv m) := r.tr ⟨Kp.up f h, rfl, ⟨rfl, fun j => Or.inl rfl⟩⟩
theorem SO.hs {m : Ms} {st : Fn} {sz : Int32} (h : SO m st sz) : hS m := by
  obtain ⟨F, n, dp, h1, h2, h3, h4, h5, h6, h7⟩ := h
  refine ⟨F, n, dp, h3, ?_, h2, ⟨h7.1, fun j hj => (h7.2 j hj).rp⟩, h6⟩
  unfold HE at h1
  rw [h3] at h1
  have : m_X12_tellsOf (Ms.s m) (nI 222) (nI 0) = (nI F + m_X12_tellsOf (Ms.s m) (nI 222) (nI 0)) - nI F := by
    rw [Int32.add_comm, Int32.add_sub_cancel]
  rw [this, h1, pk_sub (by omega), Nat.add_sub_cancel_left]
theorem Sy.gd {W : Wt} {m : Ms} {U T : Nat} {X : Nat → Nat} (h : Sy W m U T X) : Gd T m := by
  obtain ⟨⟨u1, u2, u3⟩, ⟨t1, t2, t3⟩, hX, sr, so, ck, sk, ke, pa, hh, hk, les⟩ := h
  exact ⟨⟨T, Nat.le_refl T, t3⟩, by unfold hU; rw [c17]; exact ⟨U, u1, u3⟩, hh, so.hs⟩
theorem Sy.ck {W : Wt} {m : Ms} {U T : Nat} {X : Nat → Nat} (h : Sy W m U T X) : CK m (Lg.st (Wt.l W)) (Lg.sz (Wt.l W)) := h.2.2.2.2.2.1
theorem Sy.sk {W : Wt} {m : Ms} {U T : Nat} {X : Nat → Nat} (h : Sy W m U T X) : SK W := h.2.2.2.2.2.2.1
theorem Sy.rby {W : Wt} {m : Ms} {U T : Nat} {X : Nat → Nat} (h : Sy W m U T X) (le : Int32) : Ru m (m_X12_goesBy m le) := by
  have e := ef_goesBy h.gd le
  exact ⟨e.2.1.mono (by omega), e.2.2.1, lf_goesBy m le⟩
theorem Sy.rgo {W : Wt} {m : Ms} {U T : Nat} {X : Nat → Nat} (h : Sy W m U T X) : Ru m (m_X12_goes m) := h.rby _
theorem Sy.ron {W : Wt} {m : Ms} {U T : Nat} {X : Nat → Nat} (h : Sy W m U T X) {n : Int32} {N : Nat} (hn : n = nI N) (hN : N ≤ 1000) : Ru m (m_X12_goesOn m n) := by
  have e := ef_goesOn hn hN h.gd
  exact ⟨e.2.1.mono (by omega), e.2.2, lf_goesOn m n⟩
/-- a school taken over stands beside the check -/
theorem Sy.ah {s : Us} {m m' : Ms} {U T G : Nat} (hs : RelS (Ms.s m) (Us.nw s) (slots s) U T G) (h0 : L0 (Us.l0 s)) (es : Ms.s m' = Ms.s m) (ck : CK m' (Lg.st (hold s G)) (Lg.sz (hold s G))) {W : Wt} {a : Sc} (hl : Wt.l W = hold s G) (hc : Wt.c W = becR a (Sf.c (Us.nw s))) (sk : SKc (Sf.c (Us.nw s)) (Wt.st W) (hold s G)) : Sy W m' U T (fun p => (Sc.kn (Sf.c (Us.nw s)) p).toNatClampNeg) := by
  have b := becR_f a (Sf.c (Us.nw s))
  rw [← hc] at b
  have hs' : RelS (Ms.s m') (Us.nw s) (slots s) U T G := by rw [es]; exact hs
  refine Sy.of hs' h0 hl b.1 b.2.1 b.2.2.1 b.2.2.2.1 b.2.2.2.2.1 b.2.2.2.2.2.1 b.2.2.2.2.2.2.1 b.2.2.2.2.2.2.2 ck ?_
  have : SKc (Wt.c W) (Wt.st W) (hold s G) := sk.ch (by rw [hc]; exact Sce.bec _ _)
  rw [← hl] at this
  exact this
/-- one knows other facts -/
theorem Sy.kn {W W' : Wt} {m m' : Ms} {U T : Nat} {X : Nat → Nat} (h : Sy W m U T X) {p x : Nat} (hp : p < U) (hx : x < 256) (c1 : Sc.kn (Wt.c W') = upd (Sc.kn (Wt.c W)) p (nI x)) (c2 : Sc.kd (Wt.c W') = Sc.kd (Wt.c W)) (c3 : Sc.vv (Wt.c W') = Sc.vv (Wt.c W)) (c4 : Sc.rw (Wt.c W') = Sc.rw (Wt.c W)) (c5 : Sc.le (Wt.c W') = Sc.le (Wt.c W)) (c6 : Sc.sz (Wt.c W') = Sc.sz (Wt.c W)) (c7 : Sc.ou (Wt.c W') = Sc.ou (Wt.c W)) (c8 : Sc.ti (Wt.c W') = Sc.ti (Wt.c W)) (e2 : Wt.l W' = Wt.l W) (e3 : Wt.st W' = Wt.st W) (f1 : Ms.s m' = upd (Ms.s m) (1 + p) (nI x)) (f2 : Ms.su m' = Ms.su m) (f3 : Ms.lf m' = Ms.lf m) (f4 : Ms.lk m' = Ms.lk m) : Sy W' m' U T (fun j => if j = p then x else X j) := by
  obtain ⟨⟨u1, u2, u3⟩, ⟨t1, t2, t3⟩, hX, sr, so, ck, sk, ⟨R, r1, r2, r3⟩, ⟨p1, p2⟩, hh, hk, les⟩ := h
  have s7 : ∀ i, 7 ≤ i → Ms.s m' i = Ms.s m i := fun i hi => by rw [f1, pk_un (by omega)]
  refine ⟨⟨u1, by rw [c6]; exact u2, by rw [s7 17 (by decide)]; exact u3⟩, ⟨t1, by rw [c8]; exact t2, by rw [f1, pk_un (by omega)]; exact t3⟩, fun j hj => ?_, ?_, ?_, ?_, ?_, ⟨R, r1, by rw [e2]; exact r2, by rw [tells_s hh s7 212 _ (by decide) (by decide)]; exact r3⟩, ⟨by rw [tells_s hh s7 217 _ (by decide) (by decide), e2]; exact p1, by rw [e2]; exact p2⟩, ?_, by rw [c6, c2]; exact hk, fun k hk4 => ?_⟩
  · rw [c1, f1]
    show (if j = p then x else X j) < 256 ∧ _ = nI (if j = p then x else X j) ∧ _ = nI (if j = p then x else X j)
    by_cases z : j = p
    · subst z
      rw [if_pos rfl, pk_us, pk_us]; exact ⟨hx, rfl, rfl⟩
    · rw [if_neg z, pk_un z, pk_un (by omega)]; exact hX j hj
  · intro j hj
    obtain ⟨a1, a2, a3, a4, a5, a6, a7⟩ := sr j hj
    rw [s7 (24 + j) (by omega), s7 (30 + j) (by omega), s7 (7 + j) (by omega), c2, c3, c4, c7]
    exact ⟨a1, a2, fun k hk4 => by rw [s7 _ (by omega)]; exact a3 k hk4, a4, a5, a6, a7⟩
  · rw [e2]; exact so.kp hh s7 (by decide)
  · rw [e2]; exact ck.kp (fun i hi => s7 i (by omega)) f2 f3 f4
  · intro i c t hi hc ht
    rw [e3]
    rcases sk i c t hi hc ht with q | q
    · exact Or.inl q
    · exact Or.inr (by rw [e2]; exact q.ch c2 c3 c4)
  · unfold hH at *
    rw [c23] at *
    rw [s7 23 (by decide)]; exact hh
  · obtain ⟨j, j1, j2, j3⟩ := les k hk4
    exact ⟨j, j1, by rw [c5]; exact j2, by rw [s7 (13 + k) (by omega)]; exact j3⟩
theorem Iv.c {s0 s1 s2 : Us} {L : Lg} (u : Uv s1 s2) (e : Sce (Sf.c (Us.nw s0)) (Sf.c (Us.ah s1))) (sk : SK (wtA s2 L)) : SKc (Sf.c (Us.nw s0)) (Us.st s2) L :=
  SKc.ch (c := Sf.c (Us.ah s2)) sk ((e.tr u.sce).sy)
/-- behind how many tides a fact is known by nobody, and what is left behind -/
def TX (A : Int32 × Us) (B : Int32 × Ms) (m : Ms) (L : Lg) : Prop := A.1 = B.1 ∧ (∃ q, q ≤ 61 ∧ A.1 = nI q) ∧ SK (wtA A.2 L) ∧ ∃ m2, B.2 = m_X12_goesBack m2 ∧ CK m2 (Lg.st L) (Lg.sz L) ∧ Ru m m2
theorem TX.tr {A : Int32 × Us} {B : Int32 × Ms} {m m' : Ms} {L : Lg} (r : Ru m m') (h : TX A B m' L) : TX A B m L := by
  obtain ⟨w1, w2, w3, m2, w4, w5, w6⟩ := h
  exact ⟨w1, w2, w3, m2, w4, w5, r.tr w6⟩
theorem tides_xl (s : Us) {g : Nat} (hg : g < 8) (L : Lg) (mm : Ms) : ∀ (x k : Nat) (i : Int32) (m1 : Us) (m : Ms) (U T : Nat) (X : Nat → Nat), k ≤ 61 → x + k = 62 → i = nI k → Sy (wtA m1 L) m U T X → T + (61 - k) ≤ 1000000 → TX (l_X11_tidesAheadWith_7 s (nI g) L x i m1) (l_X12_tidesKnown_5 mm (nI g) x (nI 61) i m) m L := by
  intro x
  induction x with
  | zero => intro k i m1 m U T X h1 h2; omega
  | succ x ih =>
    intro k i m1 m U T X h1 h2 h3 h4 h5
    rw [q_X11_tidesAheadWith_7, q_X12_tidesKnown_5]
    by_cases c : nI 60 < i
    · rw [if_pos c, if_pos c]
      exact ⟨rfl, ⟨61, by decide, rfl⟩, h4.sk, m, rfl, h4.ck, Ru.rf m⟩
    · rw [if_neg c, if_neg c, if_pos rfl]
      have hk : k ≤ 60 := cnt_le h3 (by omega) (by decide) c
      have ea : m_X7_all (Sc.kn (Sf.c (Us.ah m1))) (Sc.sz (Sf.c (Us.ah m1))) (Sc.ou (Sf.c (Us.ah m1))) = m_X12_knownByAny (Ms.s m) := h4.all
      rw [ea]
      obtain ⟨X', gs⟩ := h4.goes (by omega)
      have rg := h4.rgo
      by_cases b : (m_X12_knownByAny (Ms.s m) >>> (nI g &&& 31)) &&& nI 1 = 0
      · rw [if_pos ((bit_eq _ hg).mpr b), if_pos b]
        simp only [bindv]
        obtain ⟨y, rfl⟩ : ∃ y, x = y + 1 := ⟨x - 1, by omega⟩
        rw [q_X12_tidesKnown_5]
        have fin : CK (m_X12_goes m) (Lg.st L) (Lg.sz L) := by
          have := gs.ck
          rw [(gl_goTide (s := wtA m1 L) (le := m_X7_lessonNow (Sc.le (Wt.c (wtA m1 L))) (Sc.ti (Wt.c (wtA m1 L)))) rfl).1] at this
          exact this
        by_cases c2 : nI 60 < i + nI 1
        · rw [if_pos c2]
          exact ⟨rfl, ⟨k, h1, h3⟩, h4.sk, m_X12_goes m, rfl, fin, rg⟩
        · rw [if_neg c2, if_neg (fun q => by rw [h3] at q; have := nI_inj q (by omega) (by decide); omega)]
          exact ⟨rfl, ⟨k, h1, h3⟩, h4.sk, m_X12_goes m, rfl, fin, rg⟩
      · rw [if_neg (fun q => b ((bit_eq _ hg).mp q)), if_neg b]
        have tw := gl_goTide (s := wtA m1 L) (le := m_X7_lessonNow (Sc.le (Wt.c (wtA m1 L))) (Sc.ti (Wt.c (wtA m1 L)))) rfl
        rw [bindv, bindv, bindv]
        have et := wt_eta tw.1
        rw [← et] at gs
        refine TX.tr rg (ih (k + 1) _ _ _ U (T + 1) X' (by omega) (by omega) (by rw [h3]; exact nI_add k 1) ?_ (by omega))
        exact gs
theorem tides_x {s : Us} {g : Nat} (hg : g < 8) {m : Ms} {U T : Nat} {X : Nat → Nat} {L : Lg} (hL : holdL (Sc.lg (Sf.c (Us.nw s))) (Us.l0 s) (Us.l1 s) (Us.l2 s) (Us.l3 s) (Us.l4 s) (Us.l5 s) = L) (h : Sy (wtA s L) m U T X) (hT : T + 61 ≤ 1000000) : TX (m_X11_tidesAheadWith s (nI g)) (m_X12_tidesKnown m (nI g)) m L := by
  unfold m_X11_tidesAheadWith m_X12_tidesKnown
  rw [hL, bindv]
  exact tides_xl s hg L m 62 0 (nI 0) s m U T X (by decide) rfl rfl h (by omega)
/-! what looking ahead starts with -/
theorem Rel.start {s : Us} {m : Ms} {K : Nat} (h : Rel s m K) (hK : K < 2 ^ 30) (st : Fn) (sz : Int32) : Ms.s (m_X12_looksAnew m) = Ms.s m ∧ CK (m_X12_looksAnew m) st sz ∧ LK (m_X12_looksAnew m) (K + 1) ∧ Kp 0 m (m_X12_looksAnew m) :=
  ⟨rfl, CK.anew h.1 hK rfl rfl, h.1.up rfl rfl, (ef_looksAnew m).1⟩
theorem CK.anew' {m m' : Ms} {K : Nat} {st : Fn} {sz : Int32} (h : LK m K) (hK : K < 2 ^ 30) (e1 : Ms.lf m' = Ms.lf m) (e2 : Ms.lk m' = Ms.lk m + nI 1) : CK m' st sz := CK.anew h hK e1 e2
theorem keeps_s (m : Ms) : Ms.s (m_X12_keeps m) = Ms.s m := funext fun i => (ef_keeps m).1.1 i (Nat.zero_le i)
theorem CK.keeps {m : Ms} {st : Fn} {sz : Int32} (h : CK m st sz) : CK (m_X12_keeps m) st sz := h.kp (fun i _ => by rw [keeps_s]) (cm_keeps m).1 (cm_keeps m).2.1 (cm_keeps m).2.2

/-! a ledge is read, by both: what stands, step by step -/
def Sm (m m' : Ms) : Prop := Ms.s m' = Ms.s m ∧ Ms.en m' = Ms.en m ∧ Ms.ac m' = Ms.ac m ∧ Ms.im m' = Ms.im m ∧ Ms.hi m' = Ms.hi m ∧ Ms.bo m' = Ms.bo m ∧ Ms.ra m' = Ms.ra m ∧ Ms.lf m' = Ms.lf m ∧ Ms.lk m' = Ms.lk m
set_option maxHeartbeats 200000 in
theorem Sm.rf (m : Ms) : Sm m m := ⟨rfl, rfl, rfl, rfl, rfl, rfl, rfl, rfl, rfl⟩
set_option maxHeartbeats 200000 in
theorem Sm.tr {a b c : Ms} (h : Sm a b) (g : Sm b c) : Sm a c := by
  obtain ⟨h1, h2, h3, h4, h5, h6, h7, h8, h9⟩ := h
  obtain ⟨g1, g2, g3, g4, g5, g6, g7, g8, g9⟩ := g
  exact ⟨g1.trans h1, g2.trans h2, g3.trans h3, g4.trans h4, g5.trans h5, g6.trans h6, g7.trans h7, g8.trans h8, g9.trans h9⟩
/-- what is wrong stays so, where it stands -/
def Sk (m m' : Ms) : Prop := ¬ Ms.wr m' = 0 ∧ Ms.sp m' = Ms.sp m ∧ Sm m m'
set_option maxHeartbeats 200000 in
theorem Sk.rf {m : Ms} (h : ¬ Ms.wr m = 0) : Sk m m := ⟨h, rfl, Sm.rf m⟩
set_option maxHeartbeats 200000 in
theorem Sk.tr {a b c : Ms} (h : Sk a b) (g : Sk b c) : Sk a c := ⟨g.1, g.2.1.trans h.2.1, h.2.2.tr g.2.2⟩
set_option maxHeartbeats 200000 in
theorem add0 (x : Int32) : x + nI 0 = x := Int32.add_zero x
set_option maxHeartbeats 200000 in
theorem sk_must {m : Ms} (h : ¬ Ms.wr m = 0) (c : Int32) : Sk m (m_X12_must m c) := by
  unfold m_X12_must
  rw [if_neg h]
  exact ⟨by show ¬ nI 1 = 0; decide, add0 _, Sm.rf m⟩
set_option maxHeartbeats 200000 in
theorem sk_emits {m : Ms} (h : ¬ Ms.wr m = 0) (x : Int32) : Sk m (m_X12_emits m x) := by
  unfold m_X12_emits
  rw [if_neg h]
  exact Sk.rf h
set_option maxHeartbeats 200000 in
theorem sk_figures {m : Ms} (h : ¬ Ms.wr m = 0) : Sk m (m_X12_figures m).2 := by
  unfold m_X12_figures
  have wz : ¬ Ms.wr (Ms.th m, Ms.s m, Ms.im m, Ms.fr m, Ms.hi m, Ms.ac m, Ms.sp m, Ms.en m, (nI 1), Ms.op m, Ms.bb m, Ms.tr m, Ms.su m, Ms.lf m, Ms.lk m, Ms.nx m, Ms.bo m, Ms.ra m, Ms.ki m, Ms.nu m, Ms.tv m) = 0 := by
    show ¬ nI 1 = 0
    decide
  rw [if_neg h, bindv, q_X12_figures_34, if_neg (by decide), if_neg wz]
  exact ⟨by show ¬ nI 1 = 0; decide, rfl, Sm.rf m⟩
set_option maxHeartbeats 200000 in
theorem sk_factor {m : Ms} (h : ¬ Ms.wr m = 0) (fac : Ms → Ms) : Sk m (m_X12_factor m fac) := by
  unfold m_X12_factor
  rw [if_neg h]
  exact Sk.rf h
set_option maxHeartbeats 200000 in
theorem sk_fac {m : Ms} (h : ¬ Ms.wr m = 0) : ∀ k, Sk m (fac_n k m)
  | 0 => Sk.rf h
  | k + 1 => sk_factor h _
set_option maxHeartbeats 200000 in
theorem sk_every {fac : Ms → Ms} (hf : ∀ m, ¬ Ms.wr m = 0 → Sk m (fac m)) {m : Ms} (h : ¬ Ms.wr m = 0) : Sk m (m_X12_every m fac) := by
  have f := hf m h
  unfold m_X12_every
  rw [bindv, q_X12_every_4, if_neg f.1]
  exact f
set_option maxHeartbeats 200000 in
theorem sk_some {fac : Ms → Ms} (hf : ∀ m, ¬ Ms.wr m = 0 → Sk m (fac m)) {m : Ms} (h : ¬ Ms.wr m = 0) : Sk m (m_X12_some m fac) := by
  have f := sk_every hf h
  unfold m_X12_some
  rw [bindv, q_X12_some_4, if_neg f.1]
  exact f
/-- but for the ledge that is read -/
def Fm (m0 m : Ms) (a : Nat) : Prop := (∀ j, ¬ (j = 212 + a) → ¬ (j = 217 + a) → ¬ (j = 222 + a) → (j < 227 + 140 * a ∨ 227 + 140 * a + 140 ≤ j) → Ms.s m j = Ms.s m0 j) ∧ Ms.im m = Ms.im m0 ∧ Ms.hi m = Ms.hi m0 ∧ Ms.bo m = Ms.bo m0 ∧ Ms.ra m = Ms.ra m0 ∧ Ms.lf m = Ms.lf m0 ∧ Ms.lk m = Ms.lk m0
set_option maxHeartbeats 200000 in
theorem Fm.sm {m0 m m' : Ms} {a : Nat} (h : Fm m0 m a) (g : Sm m m') : Fm m0 m' a := by
  obtain ⟨h1, h2, h3, h4, h5, h6, h7⟩ := h
  obtain ⟨g1, g2, g3, g4, g5, g6, g7, g8, g9⟩ := g
  exact ⟨fun j a b c d => by rw [g1]; exact h1 j a b c d, g4.trans h2, g5.trans h3, g6.trans h4, g7.trans h5, g8.trans h6, g9.trans h7⟩
/-- both stand at p, with n steps -/
def PS (m0 : Ms) (a e : Nat) (T0 : Fn) (t : Lr) (m : Ms) (n p : Nat) (dp : Nat → Nat) : Prop :=
  (Ms.en m = nI e ∧ e ≤ 100 ∧ Ms.sp m = nI p ∧ p ≤ e ∧ Ms.ac m = nI a ∧ a < 5 ∧ Ms.wr m = 0) ∧
  (Lr.at t = nI p ∧ Lr.sg t = nI e ∧ Lr.tp t = T0 ∧ Lr.si t = (if p < e then T0 p else (-nI 1)) ∧ Lr.sz t = nI n) ∧
  (∀ j, j < e → Ms.s m (112 + j) = T0 j ∧ ∃ ch, ch < 128 ∧ T0 j = nI ch) ∧
  (n ≤ p ∧ Ms.s m (222 + a) = nI n ∧ Sts (Lr.st t) (fun j => Ms.s m (227 + 140 * a + j)) n dp) ∧
  ((∃ r, r < 100 ∧ Lr.ke t = nI r ∧ Ms.s m (212 + a) = nI r) ∧ (∃ r, r < 100 ∧ Lr.pa t = nI r ∧ Ms.s m (217 + a) = nI r)) ∧
  Fm m0 m a
/-- both have stopped, at the same place -/
def FS (m0 : Ms) (a : Nat) (T0 : Fn) (t : Lr) (m : Ms) : Prop := ∃ p, p ≤ 100 ∧ Lr.at t = nI p ∧ Ms.sp m = nI p ∧ ¬ Ms.wr m = 0 ∧ Lr.tp t = T0 ∧ Ms.ac m = nI a ∧ Fm m0 m a
set_option maxHeartbeats 200000 in
theorem FS.sk {m0 : Ms} {a : Nat} {T0 : Fn} {t : Lr} {m m' : Ms} (h : FS m0 a T0 t m) (k : Sk m m') : FS m0 a T0 t m' := by
  obtain ⟨p, h1, h2, h3, h4, h5, h6, h7⟩ := h
  exact ⟨p, h1, h2, k.2.1.trans h3, k.1, h5, k.2.2.2.2.1.trans h6, h7.sm k.2.2⟩
set_option maxHeartbeats 200000 in
theorem FS.wr {m0 : Ms} {a : Nat} {T0 : Fn} {t : Lr} {m : Ms} (h : FS m0 a T0 t m) : ¬ Ms.wr m = 0 := by
  obtain ⟨p, h1, h2, h3, h4, h5, h6, h7⟩ := h
  exact h4
/-- it goes wrong here -/
theorem PS.wrong {m0 : Ms} {a e : Nat} {T0 : Fn} {t : Lr} {m m' : Ms} {n p : Nat} {dp : Nat → Nat} (h : PS m0 a e T0 t m n p dp) (hw : ¬ Ms.wr m' = 0) (hs : Ms.sp m' = Ms.sp m) (sm : Sm m m') : FS m0 a T0 t m' := by
  obtain ⟨⟨a1, a2, a3, a4, a5, a6, a7⟩, ⟨b1, b2, b3, b4, b5⟩, c, d, k, f⟩ := h
  exact ⟨p, by omega, b1, hs.trans a3, hw, b3, sm.2.2.1.trans a5, f.sm sm⟩
set_option maxHeartbeats 200000 in
theorem PS.here {m0 : Ms} {a e : Nat} {T0 : Fn} {t : Lr} {m : Ms} {n p : Nat} {dp : Nat → Nat} (h : PS m0 a e T0 t m n p dp) : m_X12_here (Ms.s m) (Ms.sp m) (Ms.en m) = Lr.si t := by
  obtain ⟨⟨a1, a2, a3, a4, a5, a6, a7⟩, ⟨b1, b2, b3, b4, b5⟩, c, d, k, f⟩ := h
  unfold m_X12_here
  rw [a1, a3, b4]
  by_cases z : p < e
  · rw [if_pos z, if_neg (by rw [nI_leI (by omega) (by omega)]; omega), ck2 (by omega)]
    exact (c p z).1
  · rw [if_neg z, if_pos (nI_le (by omega) (by omega))]
set_option maxHeartbeats 200000 in
theorem PS.wr {m0 : Ms} {a e : Nat} {T0 : Fn} {t : Lr} {m : Ms} {n p : Nat} {dp : Nat → Nat} (h : PS m0 a e T0 t m n p dp) : Ms.wr m = 0 := h.1.2.2.2.2.2.2
set_option maxHeartbeats 200000 in
theorem m1_ne {c : Nat} (h : c < 1000) : ¬ (-nI 1 : Int32) = nI c := by
  intro q
  have := congrArg Int32.toInt q
  rw [nI_toInt (by omega), show (-nI 1 : Int32).toInt = -1 by decide] at this
  omega
/-- what stands here: a sign, or nothing -/
theorem PS.si {m0 : Ms} {a e : Nat} {T0 : Fn} {t : Lr} {m : Ms} {n p : Nat} {dp : Nat → Nat} (h : PS m0 a e T0 t m n p dp) : (p < e ∧ ∃ ch, ch < 128 ∧ Lr.si t = nI ch) ∨ (p = e ∧ Lr.si t = (-nI 1)) := by
  obtain ⟨⟨a1, a2, a3, a4, a5, a6, a7⟩, ⟨b1, b2, b3, b4, b5⟩, c, d, k, f⟩ := h
  by_cases z : p < e
  · rw [if_pos z] at b4
    obtain ⟨ch, h1, h2⟩ := (c p z).2
    exact Or.inl ⟨z, ch, h1, b4.trans h2⟩
  · rw [if_neg z] at b4
    exact Or.inr ⟨by omega, b4⟩
set_option maxHeartbeats 200000 in
theorem PS.lt {m0 : Ms} {a e : Nat} {T0 : Fn} {t : Lr} {m : Ms} {n p : Nat} {dp : Nat → Nat} (h : PS m0 a e T0 t m n p dp) {c : Nat} (hc : c < 1000) (hs : Lr.si t = nI c) : p < e := by
  rcases h.si with ⟨z, -⟩ | ⟨-, z⟩
  · exact z
  · rw [hs] at z; exact absurd z.symm (m1_ne hc)
set_option maxHeartbeats 200000 in
theorem adv_f (t : Lr) : Lr.st (m_X4_advance t) = Lr.st t ∧ Lr.sz (m_X4_advance t) = Lr.sz t ∧ Lr.ke (m_X4_advance t) = Lr.ke t ∧ Lr.pa (m_X4_advance t) = Lr.pa t ∧ Lr.sg (m_X4_advance t) = Lr.sg t ∧ Lr.te (m_X4_advance t) = Lr.te t ∧ Lr.nu (m_X4_advance t) = Lr.nu t ∧ Lr.tp (m_X4_advance t) = Lr.tp t := ⟨rfl, rfl, rfl, rfl, rfl, rfl, rfl, rfl⟩
/-- one sign on, with other scratch numbers -/
theorem PS.adv {m0 : Ms} {a e : Nat} {T0 : Fn} {t t' : Lr} {m m' : Ms} {n p : Nat} {dp : Nat → Nat} (h : PS m0 a e T0 t m n p dp) (hp : p < e) (t1 : Lr.st t' = Lr.st t) (t2 : Lr.sz t' = Lr.sz t) (t3 : Lr.ke t' = Lr.ke t) (t4 : Lr.pa t' = Lr.pa t) (t5 : Lr.sg t' = Lr.sg t) (t6 : Lr.at t' = Lr.at t) (t7 : Lr.tp t' = Lr.tp t) (sm : Sm m m') (hs : Ms.sp m' = Ms.sp m + nI 1) (hw : Ms.wr m' = 0) : PS m0 a e T0 (m_X4_advance t') m' n (p + 1) dp := by
  obtain ⟨⟨a1, a2, a3, a4, a5, a6, a7⟩, ⟨b1, b2, b3, b4, b5⟩, c, ⟨d1, d2, d3⟩, ⟨⟨r, k1, k2, k3⟩, ⟨r2, k4, k5, k6⟩⟩, f⟩ := h
  have ats : Lr.at t' + nI 1 = nI (p + 1) := by rw [t6, b1]; exact nI_add p 1
  have es := sm.1
  refine ⟨⟨sm.2.1.trans a1, a2, by rw [hs, a3]; exact nI_add p 1, by omega, sm.2.2.1.trans a5, a6, hw⟩, ⟨ats, t5.trans b2, t7.trans b3, ?_, t2.trans b5⟩, fun j hj => by rw [es]; exact c j hj, ⟨by omega, by rw [es]; exact d2, ?_⟩, ⟨⟨r, k1, t3.trans k2, by rw [es]; exact k3⟩, ⟨r2, k4, t4.trans k5, by rw [es]; exact k6⟩⟩, f.sm sm⟩
  · unfold m_X4_advance
    rw [ats, t5, b2, t7, b3, if_neg (show ¬ nI (p + 1) < 0 from Int32.not_lt.mpr (nI_le (Nat.zero_le _) (by omega))), nI_clamp (by omega)]
    show (if nI e ≤ nI (p + 1) then (-nI 1) else (if nI 100 ≤ nI (p + 1) then (-nI 1) else T0 (p + 1))) = _
    by_cases z : p + 1 < e
    · rw [if_pos z, if_neg (by rw [nI_leI (by omega) (by omega)]; omega), if_neg (by rw [nI_leI (by omega) (by omega)]; omega)]
    · rw [if_neg z, if_pos (nI_le (by omega) (by omega))]
  · show Sts (Lr.st t') _ n dp
    rw [t1, es]; exact d3
set_option maxHeartbeats 200000 in
theorem take_y (t : Lr) {x : Int32} (h : Lr.si t = x) : m_X4_take t x = (nI 1, m_X4_advance t) := by
  unfold m_X4_take
  rw [if_pos h]
  rfl
set_option maxHeartbeats 200000 in
theorem take_n (t : Lr) {x : Int32} (h : ¬ Lr.si t = x) : m_X4_take t x = (nI 0, t) := by
  unfold m_X4_take
  rw [if_neg h]
/-- a sign that must stand here -/
theorem must_x {m0 : Ms} {a e : Nat} {T0 : Fn} {t : Lr} {m : Ms} {n p : Nat} {dp : Nat → Nat} (h : PS m0 a e T0 t m n p dp) {c : Nat} (hc : c < 1000) : ((m_X4_take t (nI c)).1 = nI 1 ∧ PS m0 a e T0 (m_X4_take t (nI c)).2 (m_X12_must m (nI c)) n (p + 1) dp ∧ Ms.op (m_X12_must m (nI c)) = Ms.op m ∧ Lr.nu (m_X4_take t (nI c)).2 = Lr.nu t) ∨ ((m_X4_take t (nI c)).1 = nI 0 ∧ FS m0 a T0 (m_X4_take t (nI c)).2 (m_X12_must m (nI c))) := by
  unfold m_X12_must
  rw [if_pos h.wr, h.here]
  by_cases z : Lr.si t = nI c
  · rw [if_pos z, take_y t z]
    exact Or.inl ⟨rfl, h.adv (h.lt hc z) rfl rfl rfl rfl rfl rfl rfl (Sm.rf m) rfl rfl, rfl, rfl⟩
  · rw [if_neg z, take_n t z]
    exact Or.inr ⟨rfl, h.wrong (show ¬ nI 1 = 0 by decide) (add0 _) (Sm.rf m)⟩
/-- a step is put down -/
theorem PS.put {m0 : Ms} {a e : Nat} {T0 : Fn} {t : Lr} {m : Ms} {n p : Nat} {dp : Nat → Nat} (h : PS m0 a e T0 t m n p dp) (hn : n < p) {x y : Int32} {d1 : Nat} (st : StpR x y (dp n) d1) : (m_X4_put t x).1 = nI 1 ∧ Ms.op (m_X12_emits m y) = Ms.op m ∧ ∃ dp', PS m0 a e T0 (m_X4_put t x).2 (m_X12_emits m y) (n + 1) p dp' ∧ dp' (n + 1) = d1 := by
  obtain ⟨⟨a1, a2, a3, a4, a5, a6, a7⟩, ⟨b1, b2, b3, b4, b5⟩, c, ⟨d1', d2, d3⟩, ⟨⟨r, k1, k2, k3⟩, ⟨r2, k4, k5, k6⟩⟩, f⟩ := h
  have e222 : (nI 222 + nI a).toNatClampNeg = 222 + a := ck2 (by omega)
  have e227 : ((nI 227 + (nI 140 * nI a)) + nI n).toNatClampNeg = 227 + 140 * a + n := by rw [pk_mul, nI_add, nI_add, nI_clamp (by omega)]
  unfold m_X4_put m_X12_emits
  rw [if_pos a7, b5, if_neg (show ¬ nI n < 0 from Int32.not_lt.mpr (nI_le (Nat.zero_le _) (by omega))), if_pos (nI_lt (by omega) (by decide)), a5, e222, d2, e227, nI_clamp (by omega)]
  have g0 : upd (Ms.s m) (227 + 140 * a + n) y (222 + a) = nI n := by rw [pk_un (by omega)]; exact d2
  rw [g0, nI_add]
  have ne : ∀ j, ¬ j = 222 + a → ¬ j = 227 + 140 * a + n → upd (upd (Ms.s m) (227 + 140 * a + n) y) (222 + a) (nI (n + 1)) j = Ms.s m j := fun j u v => by rw [pk_un u, pk_un v]
  refine ⟨rfl, rfl, fun j => if j = n + 1 then d1 else dp j, ⟨⟨a1, a2, a3, a4, by first | exact a5 | rfl, a6, a7⟩, ⟨b1, b2, b3, b4, rfl⟩, fun j hj => ?_, ⟨by omega, pk_us, ?_, fun j hj => ?_⟩, ⟨⟨r, k1, k2, ?_⟩, ⟨r2, k4, k5, ?_⟩⟩, ?_⟩, by show (if n + 1 = n + 1 then d1 else dp (n + 1)) = d1; rw [if_pos rfl]⟩
  · show upd (upd (Ms.s m) (227 + 140 * a + n) y) (222 + a) (nI (n + 1)) (112 + j) = T0 j ∧ _
    rw [ne _ (by omega) (by omega)]; exact c j hj
  · show (if 0 = n + 1 then d1 else dp 0) = 0
    rw [if_neg (by omega)]; exact d3.1
  · show StpR (upd (Lr.st t) n x j) (upd (upd (Ms.s m) (227 + 140 * a + n) y) (222 + a) (nI (n + 1)) (227 + 140 * a + j)) (if j = n + 1 then d1 else dp j) (if j + 1 = n + 1 then d1 else dp (j + 1))
    by_cases z : j = n
    · subst z
      rw [pk_us, pk_un (by omega), pk_us, if_neg (by omega), if_pos rfl]; exact st
    · rw [pk_un z, ne _ (by omega) (by omega), if_neg (by omega), if_neg (by omega)]; exact d3.2 j (by omega)
  · show upd (upd (Ms.s m) (227 + 140 * a + n) y) (222 + a) (nI (n + 1)) (212 + a) = nI r
    rw [ne _ (by omega) (by omega)]; exact k3
  · show upd (upd (Ms.s m) (227 + 140 * a + n) y) (222 + a) (nI (n + 1)) (217 + a) = nI r2
    rw [ne _ (by omega) (by omega)]; exact k6
  · exact ⟨fun j u v w x => by show upd (upd (Ms.s m) (227 + 140 * a + n) y) (222 + a) (nI (n + 1)) j = _; rw [ne _ w (by omega)]; exact f.1 j u v w x, f.2⟩
/-- other numbers that only the check keeps -/
theorem PS.sm {m0 : Ms} {a e : Nat} {T0 : Fn} {t t' : Lr} {m m' : Ms} {n p : Nat} {dp : Nat → Nat} (h : PS m0 a e T0 t m n p dp) (t1 : Lr.st t' = Lr.st t) (t2 : Lr.sz t' = Lr.sz t) (t3 : Lr.ke t' = Lr.ke t) (t4 : Lr.pa t' = Lr.pa t) (t5 : Lr.sg t' = Lr.sg t) (t6 : Lr.at t' = Lr.at t) (t7 : Lr.tp t' = Lr.tp t) (t8 : Lr.si t' = Lr.si t) (sm : Sm m m') (hs : Ms.sp m' = Ms.sp m) (hw : Ms.wr m' = 0) : PS m0 a e T0 t' m' n p dp := by
  obtain ⟨⟨a1, a2, a3, a4, a5, a6, a7⟩, ⟨b1, b2, b3, b4, b5⟩, c, ⟨d1, d2, d3⟩, ⟨⟨r, k1, k2, k3⟩, ⟨r2, k4, k5, k6⟩⟩, f⟩ := h
  have es := sm.1
  refine ⟨⟨sm.2.1.trans a1, a2, hs.trans a3, a4, sm.2.2.1.trans a5, a6, hw⟩, ⟨t6.trans b1, t5.trans b2, t7.trans b3, t8.trans b4, t2.trans b5⟩, fun j hj => by rw [es]; exact c j hj, ⟨d1, by rw [es]; exact d2, ?_⟩, ⟨⟨r, k1, t3.trans k2, by rw [es]; exact k3⟩, ⟨r2, k4, t4.trans k5, by rw [es]; exact k6⟩⟩, f.sm sm⟩
  rw [t1, es]; exact d3
set_option maxHeartbeats 200000 in
theorem dig_f : ∀ x, x < 128 → ¬ m_X12_in (nI x) (nI 48) (nI 57) = 0 → ∃ w, w < 10 ∧ nI x - nI 48 = nI w ∧ (nI 10 * nI 0 + nI x) - nI 48 = nI w := by
  intro x hx h
  have key : ∀ x, x < 128 → ¬ m_X12_in (nI x) (nI 48) (nI 57) = 0 → x - 48 < 10 ∧ nI x - nI 48 = nI (x - 48) ∧ (nI 10 * nI 0 + nI x) - nI 48 = nI (x - 48) := by decide +kernel
  exact ⟨x - 48, key x hx h⟩
set_option maxHeartbeats 200000 in
theorem dig_n : m_X12_in (-nI 1) (nI 48) (nI 57) = 0 := by decide
/-- a number of one or two figures -/
theorem num_x {m0 : Ms} {a e : Nat} {T0 : Fn} {t : Lr} {m : Ms} {n p : Nat} {dp : Nat → Nat} (h : PS m0 a e T0 t m n p dp) : ((m_X4_readNumber t).1 = nI 0 ∧ FS m0 a T0 (m_X4_readNumber t).2 (m_X12_figures m).2) ∨ ((m_X4_readNumber t).1 = nI 1 ∧ ∃ v p', v < 100 ∧ p < p' ∧ Lr.nu (m_X4_readNumber t).2 = nI v ∧ (m_X12_figures m).1 = nI v ∧ PS m0 a e T0 (m_X4_readNumber t).2 (m_X12_figures m).2 n p' dp ∧ Lr.te (m_X4_readNumber t).2 = Lr.te t ∧ Ms.op (m_X12_figures m).2 = Ms.op m) := by
  unfold m_X4_readNumber m_X12_figures
  rw [if_pos h.wr, h.here, show m_X4_isDigit (Lr.si t) = m_X12_in (Lr.si t) (nI 48) (nI 57) from rfl]
  by_cases c : m_X12_in (Lr.si t) (nI 48) (nI 57) = 0
  · have wz : ¬ Ms.wr (Ms.th m, Ms.s m, Ms.im m, Ms.fr m, Ms.hi m, Ms.ac m, Ms.sp m, Ms.en m, (nI 1), Ms.op m, Ms.bb m, Ms.tr m, Ms.su m, Ms.lf m, Ms.lk m, Ms.nx m, Ms.bo m, Ms.ra m, Ms.ki m, Ms.nu m, Ms.tv m) = 0 := by
      show ¬ nI 1 = 0
      decide
    rw [if_pos c, if_pos c, bindv, q_X12_figures_34, if_neg (by decide), if_neg wz]
    exact Or.inl ⟨rfl, h.wrong (show ¬ nI 1 = 0 by decide) rfl (Sm.rf m)⟩
  · rw [if_neg c, if_neg c]
    obtain ⟨hp, ch, hc, es⟩ : p < e ∧ ∃ ch, ch < 128 ∧ Lr.si t = nI ch := by
      rcases h.si with z | ⟨-, z⟩
      · exact z
      · rw [z] at c; exact absurd dig_n c
    rw [es] at c
    obtain ⟨w, w1, w2, w3⟩ := dig_f ch hc c
    obtain ⟨ma, hma⟩ : ∃ z, (Ms.th m, Ms.s m, Ms.im m, Ms.fr m, Ms.hi m, Ms.ac m, Ms.sp m, Ms.en m, (nI 0), Ms.op m, Ms.bb m, Ms.tr m, Ms.su m, Ms.lf m, Ms.lk m, Ms.nx m, Ms.bo m, Ms.ra m, Ms.ki m, Ms.nu m, Ms.tv m) = z := ⟨_, rfl⟩
    obtain ⟨ta, hta⟩ : ∃ z, (Lr.st t, Lr.sz t, Lr.ke t, Lr.pa t, Lr.sg t, Lr.at t, Lr.si t, Lr.te t, (Lr.si t - nI 48), Lr.tp t) = z := ⟨_, rfl⟩
    have psA : PS m0 a e T0 ta ma n p dp := by
      rw [← hma, ← hta]
      exact h.sm rfl rfl rfl rfl rfl rfl rfl rfl (Sm.rf m) rfl rfl
    have sia : Lr.si ta = nI ch := by rw [← hta]; exact es
    have nua : Lr.nu ta = nI w := by rw [← hta]; show Lr.si t - nI 48 = nI w; rw [es]; exact w2
    have tea : Lr.te ta = Lr.te t := by rw [← hta]; rfl
    have opa : Ms.op ma = Ms.op m := by rw [← hma]; rfl
    have c' : ¬ m_X12_in (Lr.si ta) (nI 48) (nI 57) = 0 := by rw [sia]; exact c
    simp only [bindv]
    rw [hma, hta, q_X12_figures_34, if_neg (show ¬ nI 2 ≤ nI 0 by decide), if_pos psA.wr, psA.here, if_neg c', if_pos (show nI 0 = 0 from rfl), sia, w3]
    have psB : PS m0 a e T0 (m_X4_advance ta) (Ms.th ma, Ms.s ma, Ms.im ma, Ms.fr ma, Ms.hi ma, Ms.ac ma, (Ms.sp ma + nI 1), Ms.en ma, Ms.wr ma, Ms.op ma, Ms.bb ma, Ms.tr ma, Ms.su ma, Ms.lf ma, Ms.lk ma, Ms.nx ma, Ms.bo ma, Ms.ra ma, Ms.ki ma, Ms.nu ma, Ms.tv ma) n (p + 1) dp := psA.adv hp rfl rfl rfl rfl rfl rfl rfl (Sm.rf ma) rfl psA.wr
    have nub : Lr.nu (m_X4_advance ta) = nI w := nua
    have teb : Lr.te (m_X4_advance ta) = Lr.te t := tea
    obtain ⟨mb, hmb⟩ : ∃ z, (Ms.th ma, Ms.s ma, Ms.im ma, Ms.fr ma, Ms.hi ma, Ms.ac ma, (Ms.sp ma + nI 1), Ms.en ma, Ms.wr ma, Ms.op ma, Ms.bb ma, Ms.tr ma, Ms.su ma, Ms.lf ma, Ms.lk ma, Ms.nx ma, Ms.bo ma, Ms.ra ma, Ms.ki ma, Ms.nu ma, Ms.tv ma) = z := ⟨_, rfl⟩
    have opb : Ms.op mb = Ms.op m := by rw [← hmb]; exact opa
    rw [hmb] at psB ⊢
    generalize m_X4_advance ta = tb at psB nub teb ⊢
    rw [q_X12_figures_34, if_neg (show ¬ nI 2 ≤ nI 0 + nI 1 by decide), if_pos psB.wr, psB.here, nub, show m_X4_isDigit (Lr.si tb) = m_X12_in (Lr.si tb) (nI 48) (nI 57) from rfl]
    by_cases d : m_X12_in (Lr.si tb) (nI 48) (nI 57) = 0
    · rw [if_pos d, if_pos d]
      refine Or.inr ?_
      have e2 : (if nI w ≤ 0 then (nI 1, tb) else (nI 1, tb)) = (nI 1, tb) := by split <;> rfl
      rw [e2]
      exact ⟨rfl, w, p + 1, by omega, by omega, nub, rfl, psB, teb, opb⟩
    · rw [if_neg d, if_neg d]
      by_cases z : nI w ≤ 0
      · rw [if_pos z, if_neg (show ¬ nI 0 + nI 1 = 0 by decide), if_pos z]
        exact Or.inr ⟨rfl, w, p + 1, by omega, by omega, nub, rfl, psB, teb, opb⟩
      · rw [if_neg z, if_neg (show ¬ nI 0 + nI 1 = 0 by decide), if_neg z]
        obtain ⟨hp2, ch2, hc2, es2⟩ : p + 1 < e ∧ ∃ ch, ch < 128 ∧ Lr.si tb = nI ch := by
          rcases psB.si with y | ⟨-, y⟩
          · exact y
          · rw [y] at d; exact absurd dig_n d
        rw [es2] at d
        obtain ⟨v, v1, v2, v3⟩ := dig_f ch2 hc2 d
        have c48 : 48 ≤ ch2 := by
          unfold m_X12_in at d
          by_cases y : nI ch2 < nI 48
          · rw [if_pos y] at d; exact absurd rfl d
          · rw [nI_ltI (by omega) (by omega)] at y; omega
        have v4 : ch2 - 48 = v := by
          rw [pk_sub c48] at v2
          exact nI_inj v2 (by omega) (by omega)
        have e1 : (nI 10 * nI w + nI ch2) - nI 48 = nI (10 * w + v) := by rw [pk_mul, nI_add, pk_sub (by omega)]; congr 1; omega
        have e2 : (nI w * nI 10 + nI ch2) - nI 48 = nI (10 * w + v) := by rw [pk_mul, nI_add, pk_sub (by omega)]; congr 1; omega
        rw [es2, e1, e2, q_X12_figures_34, if_pos (show nI 2 ≤ nI 0 + nI 1 + nI 1 by decide)]
        have psC : PS m0 a e T0 (m_X4_advance (Lr.st tb, Lr.sz tb, Lr.ke tb, Lr.pa tb, Lr.sg tb, Lr.at tb, Lr.si tb, Lr.te tb, (nI (10 * w + v)), Lr.tp tb)) (Ms.th mb, Ms.s mb, Ms.im mb, Ms.fr mb, Ms.hi mb, Ms.ac mb, (Ms.sp mb + nI 1), Ms.en mb, Ms.wr mb, Ms.op mb, Ms.bb mb, Ms.tr mb, Ms.su mb, Ms.lf mb, Ms.lk mb, Ms.nx mb, Ms.bo mb, Ms.ra mb, Ms.ki mb, Ms.nu mb, Ms.tv mb) n (p + 1 + 1) dp := psB.adv hp2 rfl rfl rfl rfl rfl rfl rfl (Sm.rf mb) rfl psB.wr
        rw [es2] at psC
        exact Or.inr ⟨rfl, 10 * w + v, p + 1 + 1, by omega, by omega, rfl, rfl, psC, teb, opb⟩

/-! printed by wip/whole/gen/specs35.py: tides of the model, many -/
theorem c0 : (nI 0).toNatClampNeg = 0 := nI_clamp (by decide)
theorem c17 : (nI 17).toNatClampNeg = 17 := nI_clamp (by decide)
theorem c23 : (nI 23).toNatClampNeg = 23 := nI_clamp (by decide)
theorem rl.mono {a b : Nat} {x : Int32} (h : rl a x) (hab : a ≤ b) : rl b x := by
  obtain ⟨k, hk, e⟩ := h
  exact ⟨k, by omega, e⟩
theorem rl.up {a : Nat} {x : Int32} (h : rl a x) : rl (a + 1) (x + nI 1) := by
  obtain ⟨k, hk, rfl⟩ := h
  exact ⟨k + 1, by omega, nI_add k 1⟩
/-- the same from a on, but for sums, what comes next, what is put by -/
def Kp (a : Nat) (m m' : Ms) : Prop := (∀ i, a ≤ i → Ms.s m' i = Ms.s m i) ∧ Ms.im m' = Ms.im m ∧ Ms.hi m' = Ms.hi m ∧ Ms.bo m' = Ms.bo m ∧ Ms.ra m' = Ms.ra m
theorem Kp.rf (a : Nat) (m : Ms) : Kp a m m := ⟨fun _ _ => rfl, rfl, rfl, rfl, rfl⟩
theorem Kp.tr {a : Nat} {x y z : Ms} (h : Kp a x y) (g : Kp a y z) : Kp a x z := by
  obtain ⟨h1, h2, h3, h4, h5⟩ := h
  obtain ⟨g1, g2, g3, g4, g5⟩ := g
  exact ⟨fun i hi => (g1 i hi).trans (h1 i hi), g2.trans h2, g3.trans h3, g4.trans h4, g5.trans h5⟩
theorem Kp.mono {a b : Nat} {x y : Ms} (h : Kp a x y) (hab : a ≤ b) : Kp b x y := ⟨fun i hi => h.1 i (by omega), h.2⟩
theorem Kp.cn {m m' : Ms} (h : Cn m m') : Kp 0 m m' := ⟨fun i _ => by rw [h.1], h.2.1, h.2.2.2.1, h.2.2.2.2.2.1, h.2.2.2.2.2.2⟩
theorem hU.kp {a : Nat} {m m' : Ms} (h : hU m) (k : Kp a m m') (ha : a ≤ 17) : hU m' := by
  unfold hU at *
  rw [c17] at *
  rw [k.1 17 ha]; exact h
theorem hH.kp {a : Nat} {m m' : Ms} (h : hH m) (k : Kp a m m') (ha : a ≤ 17) : hH m' := by
  unfold hH at *
  rw [c23] at *
  rw [k.1 23 (by omega)]; exact h
theorem tellsOf_kp {a : Nat} {m m' : Ms} (b : Nat) (z : Int32) (hh : hH m) (k : Kp a m m') (ha : a ≤ b) (h23 : a ≤ 23) (hb : b < 900) : m_X12_tellsOf (Ms.s m') (nI b) z = m_X12_tellsOf (Ms.s m) (nI b) z := by
  have e23 : Ms.s m' (nI 23).toNatClampNeg = Ms.s m (nI 23).toNatClampNeg := k.1 _ (by rw [c23]; exact h23)
  unfold m_X12_tellsOf
  rw [e23]
  by_cases c : Ms.s m (nI 23).toNatClampNeg = (-nI 1)
  · rw [if_pos c, if_pos c]
  · rw [if_neg c, if_neg c]
    apply k.1
    obtain ⟨q, hq, e⟩ := vp_in_of (hh c) (by decide)
    rw [e, nI_add, nI_clamp (by omega)]
    omega
theorem hS.kp {a : Nat} {m m' : Ms} (hs : hS m) (hh : hH m) (k : Kp a m m') (ha : a ≤ 17) : hS m' := by
  obtain ⟨F, n, dp, h1, h2, h3, h4, h5⟩ := hs
  have e23 : Ms.s m' (nI 23).toNatClampNeg = Ms.s m (nI 23).toNatClampNeg := k.1 _ (by rw [c23]; omega)
  refine ⟨F, n, dp, by rw [e23]; exact h1, ?_, h3, ?_, h5⟩
  · rw [tellsOf_kp 222 _ hh k (by omega) (by omega) (by decide)]; exact h2
  · have : (fun j => Ms.s m' (F + j)) = (fun j => Ms.s m (F + j)) := funext fun j => k.1 _ (by omega)
    rw [this]; exact h4
/-- the model may go on: its tide is at most B -/
def Gd (B : Nat) (m : Ms) : Prop := rl B (Ms.s m 0) ∧ hU m ∧ hH m ∧ hS m
theorem Gd.ht {B : Nat} {m : Ms} (g : Gd B m) (h : B ≤ 1000000) : hT m := by unfold hT; rw [c0]; exact g.1.mono h
theorem Gd.mono {B B' : Nat} {m : Ms} (g : Gd B m) (h : B ≤ B') : Gd B' m := ⟨g.1.mono h, g.2⟩
theorem Gd.kp {B B' a : Nat} {m m' : Ms} (g : Gd B m) (k : Kp a m m') (ha : a ≤ 17) (h0 : rl B' (Ms.s m' 0)) : Gd B' m' := ⟨h0, g.2.1.kp k ha, g.2.2.1.kp k ha, g.2.2.2.kp g.2.2.1 k ha⟩
theorem Gd.k0 {B : Nat} {m m' : Ms} (g : Gd B m) (k : Kp 0 m m') : Gd B m' := g.kp k (by omega) (by rw [k.1 0 (by omega)]; exact g.1)
theorem ef_keeps_l (m : Ms) : ∀ (n k : Nat) (i : Int32) (fr : Fn), k ≤ 17 → n + k = 18 → i = nI k → (∀ j, j < k → fr j = Ms.s m j) → Kp 0 m (l_X12_keeps_2 m n i fr) ∧ ∀ j, j < 17 → Ms.fr (l_X12_keeps_2 m n i fr) j = Ms.s m j := by
  intro n
  induction n with
  | zero => intro k i fr h1 h2; omega
  | succ n ih =>
    intro k i fr h1 h2 h3 h4
    rw [q_X12_keeps_2]
    by_cases c : nI 17 ≤ i
    · rw [if_pos c]
      rw [h3, nI_leI (by omega) (by omega)] at c
      exact ⟨⟨fun _ _ => rfl, rfl, rfl, rfl, rfl⟩, fun j hj => h4 j (by omega)⟩
    · rw [if_neg c]
      have hk := cnt_lt h3 h1 (by decide) c
      refine ih (k + 1) _ _ (by omega) (by omega) (by rw [h3]; exact nI_add k 1) ?_
      intro j hj
      rw [h3, nI_clamp (by omega)]
      by_cases e : j = k
      · rw [e, pk_us]
      · rw [pk_un e]; exact h4 j (by omega)
theorem ef_keeps (m : Ms) : Kp 0 m (m_X12_keeps m) ∧ ∀ j, j < 17 → Ms.fr (m_X12_keeps m) j = Ms.s m j := ef_keeps_l m 18 0 _ _ (by decide) rfl rfl (fun j hj => by omega)
theorem ef_goesBack_l (m : Ms) : ∀ (n k : Nat) (i : Int32) (s : Fn), k ≤ 17 → n + k = 18 → i = nI k → (∀ j, j < k → s j = Ms.fr m j) → (∀ j, 17 ≤ j → s j = Ms.s m j) → Kp 17 m (l_X12_goesBack_2 m n i s) ∧ Ms.fr (l_X12_goesBack_2 m n i s) = Ms.fr m ∧ ∀ j, j < 17 → Ms.s (l_X12_goesBack_2 m n i s) j = Ms.fr m j := by
  intro n
  induction n with
  | zero => intro k i fr h1 h2; omega
  | succ n ih =>
    intro k i s h1 h2 h3 h4 h5
    rw [q_X12_goesBack_2]
    by_cases c : nI 17 ≤ i
    · rw [if_pos c]
      rw [h3, nI_leI (by omega) (by omega)] at c
      exact ⟨⟨fun j hj => h5 j hj, rfl, rfl, rfl, rfl⟩, rfl, fun j hj => h4 j (by omega)⟩
    · rw [if_neg c]
      have hk := cnt_lt h3 h1 (by decide) c
      have e3 : i.toNatClampNeg = k := by rw [h3, nI_clamp (by omega)]
      rw [e3]
      refine ih (k + 1) _ _ (by omega) (by omega) (by rw [h3]; exact nI_add k 1) ?_ ?_
      · intro j hj
        by_cases e : j = k
        · rw [e, pk_us]
        · rw [pk_un e]; exact h4 j (by omega)
      · intro j hj
        rw [pk_un (by omega)]; exact h5 j hj
theorem ef_goesBack (m : Ms) : Kp 17 m (m_X12_goesBack m) ∧ Ms.fr (m_X12_goesBack m) = Ms.fr m ∧ ∀ j, j < 17 → Ms.s (m_X12_goesBack m) j = Ms.fr m j := ef_goesBack_l m 18 0 _ _ (by decide) rfl rfl (fun j hj => by omega) (fun _ _ => rfl)
theorem kp_back {m m2 : Ms} (k : Kp 17 m m2) (h : ∀ j, j < 17 → Ms.fr m2 j = Ms.s m j) : Kp 0 m (m_X12_goesBack m2) := by
  have e := ef_goesBack m2
  refine ⟨fun i _ => ?_, (k.tr e.1).2⟩
  by_cases c : i < 17
  · rw [e.2.2 i c, h i c]
  · exact (k.tr e.1).1 i (by omega)
theorem ef_looksAnew (m : Ms) : Kp 0 m (m_X12_looksAnew m) ∧ Ms.fr (m_X12_looksAnew m) = Ms.fr m := ⟨⟨fun _ _ => rfl, rfl, rfl, rfl, rfl⟩, rfl⟩
theorem ef_goesBy_57 (m : Ms) (le p : Int32) (m1 : Ms) : ∀ (n k : Nat) (b : Int32) (s1 : Fn), k ≤ 6 → n + k = 7 → b = nI k → rl 6 (s1 17) → (∀ i, 7 ≤ i → s1 i = Ms.s m1 i) → s1 0 = Ms.s m1 0 → Kp 7 m1 (l_X12_goesBy_57 m le p m1 n b s1) ∧ Ms.fr (l_X12_goesBy_57 m le p m1 n b s1) = Ms.fr m1 ∧ Ms.s (l_X12_goesBy_57 m le p m1 n b s1) 0 = Ms.s m1 0 + nI 1 := by
  intro n
  induction n with
  | zero => intro k b s1 h1 h2; omega
  | succ n ih =>
    intro k b s1 h1 h2 h3 h4 h5 h6
    rw [q_X12_goesBy_57]
    by_cases c : s1 (nI 17).toNatClampNeg ≤ b
    · rw [if_pos c]
      refine ⟨⟨fun i hi => ?_, rfl, rfl, rfl, rfl⟩, rfl, ?_⟩
      · refine Eq.trans (pk_un ?_) (h5 i hi)
        rw [c0]; omega
      · show upd s1 (nI 0).toNatClampNeg (s1 (nI 0).toNatClampNeg + nI 1) 0 = Ms.s m1 0 + nI 1
        rw [c0, pk_us, h6]
    · rw [if_neg c]
      have hk := lt17 (by rw [c17]; exact h4) h3 h1 c
      have e3 : (nI 1 + b).toNatClampNeg = 1 + k := by rw [h3, nI_add, nI_clamp (by omega)]
      rw [e3]
      refine ih (k + 1) _ _ (by omega) (by omega) (by rw [h3]; exact nI_add k 1) (by rw [pk_un (by omega)]; exact h4) (fun i hi => by rw [pk_un (by omega)]; exact h5 i hi) (by rw [pk_un (by omega)]; exact h6)
theorem Kp.fr2 {a b : Ms} {c : Int32} (k : Kp 7 a b ∧ Ms.fr b = Ms.fr a ∧ Ms.s b 0 = Ms.s a 0 + c) {m : Ms} (h : Cn m a) : Kp 7 m b ∧ Ms.fr b = Ms.fr m ∧ Ms.s b 0 = Ms.s m 0 + c :=
  ⟨((Kp.cn h).mono (by omega)).tr k.1, k.2.1.trans h.2.2.1, by rw [k.2.2, h.1]⟩
theorem ef_goesBy_2 (m : Ms) (le : Int32) (hu : hU m) : ∀ (n k : Nat) (p : Int32) (m1 : Ms), k ≤ 6 → n + k = 7 → p = nI k → Cn m m1 → Kp 7 m (l_X12_goesBy_2 m le n p m1) ∧ Ms.fr (l_X12_goesBy_2 m le n p m1) = Ms.fr m ∧ Ms.s (l_X12_goesBy_2 m le n p m1) 0 = Ms.s m 0 + nI 1 := by
  intro n
  induction n with
  | zero => intro k b s1 h1 h2; omega
  | succ n ih =>
    intro k p m1 h1 h2 h3 h4
    rw [q_X12_goesBy_2]
    by_cases c : Ms.s m1 (nI 17).toNatClampNeg ≤ p
    · rw [if_pos c]
      exact Kp.fr2 (ef_goesBy_57 m le p m1 7 0 _ _ (by decide) rfl rfl (by rw [← c17]; exact hu.s h4.1) (fun _ _ => rfl) rfl) h4
    · rw [if_neg c]
      have hk := hU_lt (hu.s h4.1) h3 h1 c
      by_cases c2 : Ms.s m1 (nI 7 + p).toNatClampNeg = nI 1
      · rw [if_pos c2]
        exact ih (k + 1) _ _ (by omega) (by omega) (by rw [h3]; exact nI_add k 1) (h4.nx _)
      · rw [if_neg c2]
        exact ih (k + 1) _ _ (by omega) (by omega) (by rw [h3]; exact nI_add k 1) ((h4.tr (cq_knownNext m1 p le).cn).nx _)
theorem ef_goesBy {B : Nat} {m : Ms} (g : Gd B m) (le : Int32) : Gd (B + 1) (m_X12_goesBy m le) ∧ Kp 7 m (m_X12_goesBy m le) ∧ Ms.fr (m_X12_goesBy m le) = Ms.fr m ∧ Ms.s (m_X12_goesBy m le) 0 = Ms.s m 0 + nI 1 := by
  have h : Kp 7 m (m_X12_goesBy m le) ∧ Ms.fr (m_X12_goesBy m le) = Ms.fr m ∧ Ms.s (m_X12_goesBy m le) 0 = Ms.s m 0 + nI 1 := ef_goesBy_2 m le g.2.1 7 0 (nI 0) m (by decide) rfl rfl (Cn.rf m)
  exact ⟨g.kp h.1 (by omega) (by rw [h.2.2]; exact g.1.up), h⟩
theorem vp_les {t : Int32} (ht : rl 1000000 t) : vp_in (nI 13 + (t - t / nI 4 * nI 4)) 927 := by
  obtain ⟨k, hk, rfl⟩ := ht
  rw [pk_rem (by omega) (by decide) (by decide), nI_add]
  exact vp_in_nI (by omega) (by decide)
theorem in_of {v : Int32} {N : Nat} (h : ¬ m_X12_in v (nI 0) (nI N) = 0) (hN : N < 2 ^ 31) : ∃ k, k ≤ N ∧ v = nI k := by
  unfold m_X12_in at h
  by_cases c : v < nI 0
  · rw [if_pos c] at h; exact absurd rfl h
  · rw [if_neg c] at h
    by_cases c2 : nI N < v
    · rw [if_pos c2] at h; exact absurd rfl h
    · rcases pk_ix v hN with q | q | ⟨j, hj, rfl⟩
      · exact absurd q c
      · refine ⟨N, by omega, ?_⟩
        exact Int32.le_antisymm (Int32.not_lt.mp c2) q
      · exact ⟨j, by omega, rfl⟩
theorem vp_m10 {x : Int32} {a : Nat} (h : vp_in (x - nI 10) 6) (ha : a + 6 ≤ 927) : vp_in ((nI a + x) - nI 10) 927 := by
  have e : (nI a + x) - nI 10 = nI a + (x - nI 10) := by rw [Int32.sub_eq_add_neg, Int32.sub_eq_add_neg, Int32.add_assoc]
  rw [e]
  exact vp_ad a h ha (by decide)
theorem ur_of {m : Ms} (hu : hU m) {p : Int32} (h : ¬ m_X12_isUrchin (Ms.s m) p = 0) : vp_in p 6 := by
  obtain ⟨q, hq, e⟩ := hu
  unfold m_X12_isUrchin at h
  rw [e] at h
  by_cases z : q = 0
  · subst z
    exfalso
    apply h
    unfold m_X12_in
    by_cases c : p < nI 0
    · rw [if_pos c]; rfl
    · rw [if_neg c, if_pos]; · rfl
      have : (nI 0 - nI 1 : Int32) < nI 0 := by decide
      exact Int32.lt_of_lt_of_le this (Int32.not_lt.mp c)
  · rw [pk_sub (by omega)] at h
    obtain ⟨k, hk, rfl⟩ := in_of h (by omega)
    exact vp_in_nI (by omega) (by decide)
theorem fa_of {f : Int32} (h : ¬ m_X12_isFact f = 0) : vp_in f 8 := by
  unfold m_X12_isFact at h
  obtain ⟨k, hk, rfl⟩ := in_of h (by decide)
  exact vp_in_nI (by omega) (by decide)
def m_X12_goes (m : Ms) : Ms := bindv (m_X12_goesBy m (Ms.s m (nI 13 + ((Ms.s m (nI 0).toNatClampNeg) - (Ms.s m (nI 0).toNatClampNeg) / nI 4 * nI 4)).toNatClampNeg)) (fun r1 => r1)
set_option maxRecDepth 100000 in
set_option maxHeartbeats 4000000 in
theorem c_X12_goes (l : Launch) {fv : Value} (hf : FV fv) (m : Ms) {B : Nat} (hg : Gd B m) (hB : B ≤ 999999) : CT l fv 8 jX12_goes [.ref 0] (hMs m) (DP none (hMs (m_X12_goes m))) := by
  refine CT_of [] mt_X12_goes (by decide +kernel) (tab_X12 hf) okX12_goes (Nat.le_of_ble_eq_true rfl) ?_
  intro J hJ hD
  refine hJ 0 _ _ _ ?_
  refine And.intro (vp_in_nI (by decide) (by decide)) ?_
  refine And.intro (by decide) ?_
  refine And.intro (vp_les (by have := hg.ht (by omega); exact this)) ?_
  obtain ⟨r1, er1⟩ : ∃ z : Ms, m_X12_goesBy m (Ms.s m (nI 13 + ((Ms.s m (nI 0).toNatClampNeg) - (Ms.s m (nI 0).toNatClampNeg) / nI 4 * nI 4)).toNatClampNeg) = z := ⟨_, rfl⟩
  have hr1 := c_X12_goesBy l hf m (Ms.s m (nI 13 + ((Ms.s m (nI 0).toNatClampNeg) - (Ms.s m (nI 0).toNatClampNeg) / nI 4 * nI 4)).toNatClampNeg) (hg.2.1) (hg.ht (by omega)) (hg.2.2.1) (hg.2.2.2)
  rw [er1] at hr1
  refine CALL_same (r := none) (h1 := hMs r1) (by decide) (hr1) ?_
  exact And.intro rfl (DPs (F := (fun z => hMs z)) (s' := r1) (bindv_eq er1))
theorem ef_goes {B : Nat} {m : Ms} (g : Gd B m) : Gd (B + 1) (m_X12_goes m) ∧ Kp 7 m (m_X12_goes m) ∧ Ms.fr (m_X12_goes m) = Ms.fr m ∧ Ms.s (m_X12_goes m) 0 = Ms.s m 0 + nI 1 := ef_goesBy g _
def l_X12_goesOn_2 (m : Ms) (n : Int32) : Nat → Int32 → Ms → Ms
  | 0, _, _ => m
  | n2 + 1, k, m1 => if n ≤ k then m1 else (bindv (m_X12_goes m1) (fun r2 => l_X12_goesOn_2 m n n2 (k + nI 1) r2))
theorem q_X12_goesOn_2 (m : Ms) (n : Int32) (n2 : Nat) (k : Int32) (m1 : Ms) : l_X12_goesOn_2 m n (n2 + 1) k m1 = (if n ≤ k then m1 else (bindv (m_X12_goes m1) (fun r2 => l_X12_goesOn_2 m n n2 (k + nI 1) r2))) := rfl
def m_X12_goesOn (m : Ms) (n : Int32) : Ms := l_X12_goesOn_2 m n (n.toNatClampNeg + 1) (nI 0) m
set_option maxRecDepth 100000 in
set_option maxHeartbeats 4000000 in
theorem c_X12_goesOn (l : Launch) {fv : Value} (hf : FV fv) (m : Ms) (n : Int32) {B N : Nat} (hn : n = nI N) (hB : B + N ≤ 1000000) (hN : N ≤ 1000) (hg : Gd B m) : CT l fv 9 jX12_goesOn [.ref 0, .int n] (hMs m) (DP none (hMs (m_X12_goesOn m n))) := by
  refine CT_of [2] mt_X12_goesOn (by decide +kernel) (tab_X12 hf) okX12_goesOn (Nat.le_of_ble_eq_true rfl) ?_
  intro J hJ hD
  refine hJ 0 _ _ _ ?_
  have L2 : ∀ (n2 : Nat) (k : Int32) (m1 : Ms), (∃ z9 : Nat, z9 ≤ N ∧ n2 + z9 = N + 1 ∧ k = nI z9 ∧ Gd (B + z9) m1) → m_X12_goesOn m n = l_X12_goesOn_2 m n n2 k m1 → J 2 [(0, .ref 0), (1, .int n), (2, .int k)] [] (hMs m1) := by
    intro n2
    induction n2 with
    | zero =>
      intro k m1 hv
      obtain ⟨z9, h1, h2, h3, h5⟩ := hv
      omega
    | succ n2 ih2 =>
      intro k m1 hv e2
      obtain ⟨z9, h1, h2, h3, h5⟩ := hv
      refine hJ 2 _ _ _ ?_
      refine And.intro (fun c1 => ?_) (fun c1 => ?_)
      · skip
        refine hJ 17 _ _ _ ?_
        exact And.intro rfl (DPs (F := (fun z => hMs z)) (s' := m1) (e2.trans ((q_X12_goesOn_2 m n n2 k m1).trans (if_pos c1))))
      · skip
        have h4 : z9 < N := cnt_lt h3 h1 (by omega) (by rw [← hn]; exact c1)
        obtain ⟨r2, er2⟩ : ∃ z : Ms, m_X12_goes m1 = z := ⟨_, rfl⟩
        have hr2 := c_X12_goes l hf m1 h5 (by omega)
        rw [er2] at hr2
        have h6 := (ef_goes h5).1; rw [er2] at h6
        refine CALL_same (r := none) (h1 := hMs r2) (by decide) (hr2) ?_
        exact hD _ _ [1, 2, 0] _ _ (ih2 _ _ ⟨z9 + 1, by omega, by omega, by rw [h3]; exact nI_add z9 1, h6⟩ (e2.trans ((q_X12_goesOn_2 m n n2 k m1).trans ((if_neg c1).trans (bindv_eq er2)))))
  exact hD _ _ [1, 2, 0] _ _ (L2 (n.toNatClampNeg + 1) _ _ ⟨0, by omega, by rw [hn, nI_clamp (by omega)], rfl, hg⟩ (rfl))
theorem ef_goesOn_l (m : Ms) (x : Int32) {N B : Nat} (hx : x = nI N) (hN : N ≤ 1000) : ∀ (n k : Nat) (i : Int32) (m1 : Ms), k ≤ N → n + k = N + 1 → i = nI k → Gd (B + k) m1 → Kp 7 m m1 → Ms.fr m1 = Ms.fr m → Gd (B + N) (l_X12_goesOn_2 m x n i m1) ∧ Kp 7 m (l_X12_goesOn_2 m x n i m1) ∧ Ms.fr (l_X12_goesOn_2 m x n i m1) = Ms.fr m := by
  intro n
  induction n with
  | zero => intro k i m1 h1 h2; omega
  | succ n ih =>
    intro k i m1 h1 h2 h3 h4 h5 h6
    rw [q_X12_goesOn_2]
    by_cases c : x ≤ i
    · rw [if_pos c]
      exact ⟨h4.mono (by omega), h5, h6⟩
    · rw [if_neg c]
      have hk : k < N := cnt_lt h3 h1 (by omega) (by rw [← hx]; exact c)
      have e := ef_goes h4
      exact ih (k + 1) _ _ (by omega) (by omega) (by rw [h3]; exact nI_add k 1) e.1 (h5.tr e.2.1) (e.2.2.1.trans h6)
theorem ef_goesOn {B N : Nat} {m : Ms} {x : Int32} (hx : x = nI N) (hN : N ≤ 1000) (g : Gd B m) : Gd (B + N) (m_X12_goesOn m x) ∧ Kp 7 m (m_X12_goesOn m x) ∧ Ms.fr (m_X12_goesOn m x) = Ms.fr m := ef_goesOn_l m x hx hN _ 0 _ _ (by omega) (by rw [hx, nI_clamp (by omega)]) rfl g (Kp.rf 7 m) rfl
def m_X12_pass (m : Ms) (n : Int32) : Int32 × Ms := if (m_X12_in n (nI 0) (nI 60)) = 0 then ((-nI 2), m) else (if ((Ms.s m (nI 0).toNatClampNeg) + n) ≤ nI 9999 then (bindv (m_X12_looksAnew m) (fun r3 => bindv (m_X12_goesOn r3 n) (fun r4 => ((Ms.s r4 (nI 0).toNatClampNeg), r4)))) else ((-nI 3), m))
set_option maxRecDepth 100000 in
set_option maxHeartbeats 4000000 in
theorem c_X12_pass (l : Launch) {fv : Value} (hf : FV fv) (m : Ms) (n : Int32) (hg : Gd 9999 m) : CT l fv 10 jX12_pass [.ref 0, .int n] (hMs m) (DP (some (.int (m_X12_pass m n).1)) (hMs ((m_X12_pass m n).2))) := by
  refine CT_of [] mt_X12_pass (by decide +kernel) (tab_X12 hf) okX12_pass (Nat.le_of_ble_eq_true rfl) ?_
  intro J hJ hD
  refine hJ 0 _ _ _ ?_
  refine CALL_sub (h' := hMs m) [] (by decide) (c_X12_in l hf n (nI 0) (nI 60)) rfl rfl (by decide) (by decide) rfl ?_
  refine And.intro (fun c1 => ?_) (fun c1 => ?_)
  · skip
    obtain ⟨N, hN, hn⟩ := in_of c1 (by decide)
    refine hJ 13 _ _ _ ?_
    refine And.intro (vp_in_nI (by decide) (by decide)) ?_
    refine And.intro (fun c2 => ?_) (fun c2 => ?_)
    · skip
      refine hJ 30 _ _ _ ?_
      obtain ⟨r3, er3⟩ : ∃ z : Ms, m_X12_looksAnew m = z := ⟨_, rfl⟩
      have hr3 := c_X12_looksAnew l hf m
      rw [er3] at hr3
      have h1 := hg.k0 (ef_looksAnew m).1; rw [er3] at h1
      refine CALL_same (r := none) (h1 := hMs r3) (by decide) (hr3) ?_
      obtain ⟨r4, er4⟩ : ∃ z : Ms, m_X12_goesOn r3 n = z := ⟨_, rfl⟩
      have hr4 := c_X12_goesOn l hf r3 n (B := 9999) hn (by omega) (by omega) h1
      rw [er4] at hr4
      refine CALL_same (r := none) (h1 := hMs r4) (by decide) (hr4) ?_
      refine And.intro (vp_in_nI (by decide) (by decide)) ?_
      exact And.intro True.intro (DPis (F := (fun z => hMs z)) (s' := r4) ((if_neg c1).trans ((if_pos c2).trans ((bindv_eq er3).trans (bindv_eq er4)))))
    · skip
      exact And.intro True.intro (DPis (F := (fun z => hMs z)) (s' := m) ((if_neg c1).trans (if_neg c2)))
  · skip
    exact And.intro True.intro (DPis (F := (fun z => hMs z)) (s' := m) (if_pos c1))
theorem in01 {v : Int32} (h : ¬ m_X12_in v (nI 0) (nI 1) = 0) : v = 0 ∨ v = nI 1 := by
  obtain ⟨k, hk, rfl⟩ := in_of h (by decide)
  have : k = 0 ∨ k = 1 := by omega
  rcases this with rfl | rfl
  · exact Or.inl rfl
  · exact Or.inr rfl
theorem cnt_le {k N : Nat} {i : Int32} (hi : i = nI k) (hk : k < 2 ^ 31) (hN : N < 2 ^ 31) (c : ¬ nI N < i) : k ≤ N := by
  rw [hi] at c
  have h := Int32.not_lt.mp c
  rw [nI_leI hk hN] at h
  exact h
def m_X12_on (m : Ms) (n : Int32) (what : Int32) : Int32 × Ms := if (m_X12_in what (nI 0) (nI 1)) = 0 then (if (m_X12_isUrchin (Ms.s m) (what - nI 10)) = 0 then ((-nI 1), m) else (if (m_X12_in n (nI 0) (nI 60)) = 0 then ((-nI 2), m) else (bindv (m_X12_looksAnew m) (fun r12 => bindv (m_X12_keeps r12) (fun r13 => bindv (m_X12_goesOn r13 n) (fun r14 => bindv (if what = 0 then (m_X12_knownByAny (Ms.s r14)) else (if what = nI 1 then (m_X12_heldByAll (Ms.s r14)) else (Ms.s r14 ((nI 1 + what) - nI 10).toNatClampNeg))) (fun x15_0 => bindv (m_X12_goesBack r14) (fun r16 => (x15_0, r16))))))))) else (if (m_X12_in n (nI 0) (nI 60)) = 0 then ((-nI 2), m) else (bindv (m_X12_looksAnew m) (fun r3 => bindv (m_X12_keeps r3) (fun r4 => bindv (m_X12_goesOn r4 n) (fun r5 => bindv (if what = 0 then (m_X12_knownByAny (Ms.s r5)) else (if what = nI 1 then (m_X12_heldByAll (Ms.s r5)) else (Ms.s r5 ((nI 1 + what) - nI 10).toNatClampNeg))) (fun x6_0 => bindv (m_X12_goesBack r5) (fun r7 => (x6_0, r7))))))))
set_option maxRecDepth 100000 in
set_option maxHeartbeats 4000000 in
theorem c_X12_on (l : Launch) {fv : Value} (hf : FV fv) (m : Ms) (n : Int32) (what : Int32) (hg : Gd 9999 m) : CT l fv 10 jX12_on [.ref 0, .int n, .int what] (hMs m) (DP (some (.int (m_X12_on m n what).1)) (hMs ((m_X12_on m n what).2))) := by
  refine CT_of [82] mt_X12_on (by decide +kernel) (tab_X12 hf) okX12_on (Nat.le_of_ble_eq_true rfl) ?_
  intro J hJ hD
  refine hJ 0 _ _ _ ?_
  refine CALL_sub (h' := hMs m) [] (by decide) (c_X12_in l hf what (nI 0) (nI 1)) rfl rfl (by decide) (by decide) rfl ?_
  refine And.intro (fun c1 => ?_) (fun c1 => ?_)
  · skip
    have hw : ¬ m_X12_in what (nI 0) (nI 1) = 0 := c1
    refine hJ 22 _ _ _ ?_
    refine CALL_sub (h' := hMs m) [] (by decide) (c_X12_in l hf n (nI 0) (nI 60)) rfl rfl (by decide) (by decide) rfl ?_
    refine And.intro (fun c2 => ?_) (fun c2 => ?_)
    · skip
      obtain ⟨N, hN, hn⟩ := in_of c2 (by decide)
      refine hJ 35 _ _ _ ?_
      obtain ⟨r3, er3⟩ : ∃ z : Ms, m_X12_looksAnew m = z := ⟨_, rfl⟩
      have hr3 := c_X12_looksAnew l hf m
      rw [er3] at hr3
      have h1 := hg.k0 (ef_looksAnew m).1; rw [er3] at h1
      refine CALL_same (r := none) (h1 := hMs r3) (by decide) (hr3) ?_
      obtain ⟨r4, er4⟩ : ∃ z : Ms, m_X12_keeps r3 = z := ⟨_, rfl⟩
      have hr4 := c_X12_keeps l hf r3
      rw [er4] at hr4
      have h2 := h1.k0 (ef_keeps _).1; rw [er4] at h2
      refine CALL_same (r := none) (h1 := hMs r4) (by decide) (hr4) ?_
      obtain ⟨r5, er5⟩ : ∃ z : Ms, m_X12_goesOn r4 n = z := ⟨_, rfl⟩
      have hr5 := c_X12_goesOn l hf r4 n (B := 9999) hn (by omega) (by omega) h2
      rw [er5] at hr5
      have h3 := (ef_goesOn hn (by omega) h2).1; rw [er5] at h3
      refine CALL_same (r := none) (h1 := hMs r5) (by decide) (hr5) ?_
      have K6 : ∀ (x6_0 : Int32), (if what = 0 then (m_X12_knownByAny (Ms.s r5)) else (if what = nI 1 then (m_X12_heldByAll (Ms.s r5)) else (Ms.s r5 ((nI 1 + what) - nI 10).toNatClampNeg))) = x6_0 → J 82 [(0, .ref 0)] [.int x6_0] (hMs r5) := by
        intro x6_0 ex6_0
        refine hJ 82 _ _ _ ?_
        obtain ⟨r7, er7⟩ : ∃ z : Ms, m_X12_goesBack r5 = z := ⟨_, rfl⟩
        have hr7 := c_X12_goesBack l hf r5
        rw [er7] at hr7
        refine CALL_same (r := none) (h1 := hMs r7) (by decide) (hr7) ?_
        exact And.intro True.intro (DPis (F := (fun z => hMs z)) (s' := r7) ((if_neg c1).trans ((if_neg c2).trans ((bindv_eq er3).trans ((bindv_eq er4).trans ((bindv_eq er5).trans ((bindv_eq ex6_0).trans (bindv_eq er7))))))))
      refine And.intro (fun c8 => ?_) (fun c8 => ?_)
      · skip
        have w0 : ¬ what = 0 := c8
        refine hJ 59 _ _ _ ?_
        refine And.intro (fun c9 => ?_) (fun c9 => ?_)
        · skip
          have w1 : ¬ what = nI 1 := c9
          refine hJ 71 _ _ _ ?_
          refine And.intro (by first | exact vp_m10 hv (by decide) | exact absurd (in01 hw) (fun q => q.elim w0 w1)) ?_
          exact hD _ _ [0] _ _ (K6 _ ((if_neg c8).trans (if_neg c9)))
        · skip
          refine CALL_same (r := some (.int (m_X12_heldByAll (Ms.s r5)))) (h1 := hMs r5) (by decide) (c_X12_heldByAll l hf r5 h3.2.1) ?_
          exact hD _ _ [0] _ _ (K6 _ ((if_neg c8).trans (if_pos c9)))
      · skip
        refine CALL_same (r := some (.int (m_X12_knownByAny (Ms.s r5)))) (h1 := hMs r5) (by decide) (c_X12_knownByAny l hf r5 h3.2.1) ?_
        exact hD _ _ [0] _ _ (K6 _ (if_pos c8))
    · skip
      exact And.intro True.intro (DPis (F := (fun z => hMs z)) (s' := m) ((if_neg c1).trans (if_pos c2)))
  · skip
    refine CALL_same (r := some (.int (m_X12_isUrchin (Ms.s m) (what - nI 10)))) (h1 := hMs m) (by decide) (c_X12_isUrchin l hf m (what - nI 10)) ?_
    refine And.intro (fun c10 => ?_) (fun c10 => ?_)
    · skip
      have hv := ur_of hg.2.1 c10
      refine hJ 22 _ _ _ ?_
      refine CALL_sub (h' := hMs m) [] (by decide) (c_X12_in l hf n (nI 0) (nI 60)) rfl rfl (by decide) (by decide) rfl ?_
      refine And.intro (fun c11 => ?_) (fun c11 => ?_)
      · skip
        obtain ⟨N, hN, hn⟩ := in_of c11 (by decide)
        refine hJ 35 _ _ _ ?_
        obtain ⟨r12, er12⟩ : ∃ z : Ms, m_X12_looksAnew m = z := ⟨_, rfl⟩
        have hr12 := c_X12_looksAnew l hf m
        rw [er12] at hr12
        have h1 := hg.k0 (ef_looksAnew m).1; rw [er12] at h1
        refine CALL_same (r := none) (h1 := hMs r12) (by decide) (hr12) ?_
        obtain ⟨r13, er13⟩ : ∃ z : Ms, m_X12_keeps r12 = z := ⟨_, rfl⟩
        have hr13 := c_X12_keeps l hf r12
        rw [er13] at hr13
        have h2 := h1.k0 (ef_keeps _).1; rw [er13] at h2
        refine CALL_same (r := none) (h1 := hMs r13) (by decide) (hr13) ?_
        obtain ⟨r14, er14⟩ : ∃ z : Ms, m_X12_goesOn r13 n = z := ⟨_, rfl⟩
        have hr14 := c_X12_goesOn l hf r13 n (B := 9999) hn (by omega) (by omega) h2
        rw [er14] at hr14
        have h3 := (ef_goesOn hn (by omega) h2).1; rw [er14] at h3
        refine CALL_same (r := none) (h1 := hMs r14) (by decide) (hr14) ?_
        have K15 : ∀ (x15_0 : Int32), (if what = 0 then (m_X12_knownByAny (Ms.s r14)) else (if what = nI 1 then (m_X12_heldByAll (Ms.s r14)) else (Ms.s r14 ((nI 1 + what) - nI 10).toNatClampNeg))) = x15_0 → J 82 [(0, .ref 0)] [.int x15_0] (hMs r14) := by
          intro x15_0 ex15_0
          refine hJ 82 _ _ _ ?_
          obtain ⟨r16, er16⟩ : ∃ z : Ms, m_X12_goesBack r14 = z := ⟨_, rfl⟩
          have hr16 := c_X12_goesBack l hf r14
          rw [er16] at hr16
          refine CALL_same (r := none) (h1 := hMs r16) (by decide) (hr16) ?_
          exact And.intro True.intro (DPis (F := (fun z => hMs z)) (s' := r16) ((if_pos c1).trans ((if_neg c10).trans ((if_neg c11).trans ((bindv_eq er12).trans ((bindv_eq er13).trans ((bindv_eq er14).trans ((bindv_eq ex15_0).trans (bindv_eq er16)))))))))
        refine And.intro (fun c17 => ?_) (fun c17 => ?_)
        · skip
          have w0 : ¬ what = 0 := c17
          refine hJ 59 _ _ _ ?_
          refine And.intro (fun c18 => ?_) (fun c18 => ?_)
          · skip
            have w1 : ¬ what = nI 1 := c18
            refine hJ 71 _ _ _ ?_
            refine And.intro (by first | exact vp_m10 hv (by decide) | exact absurd (in01 hw) (fun q => q.elim w0 w1)) ?_
            exact hD _ _ [0] _ _ (K15 _ ((if_neg c17).trans (if_neg c18)))
          · skip
            refine CALL_same (r := some (.int (m_X12_heldByAll (Ms.s r14)))) (h1 := hMs r14) (by decide) (c_X12_heldByAll l hf r14 h3.2.1) ?_
            exact hD _ _ [0] _ _ (K15 _ ((if_neg c17).trans (if_pos c18)))
        · skip
          refine CALL_same (r := some (.int (m_X12_knownByAny (Ms.s r14)))) (h1 := hMs r14) (by decide) (c_X12_knownByAny l hf r14 h3.2.1) ?_
          exact hD _ _ [0] _ _ (K15 _ (if_pos c17))
      · skip
        exact And.intro True.intro (DPis (F := (fun z => hMs z)) (s' := m) ((if_pos c1).trans ((if_neg c10).trans (if_pos c11))))
    · skip
      exact And.intro True.intro (DPis (F := (fun z => hMs z)) (s' := m) ((if_pos c1).trans (if_pos c10)))
def l_X12_tidesKnown_5 (m : Ms) (fact : Int32) : Nat → Int32 → Int32 → Ms → Int32 × Ms
  | 0, _, _, _ => (0, m)
  | n5 + 1, fo, n, m1 => if nI 60 < n then (bindv (m_X12_goesBack m1) (fun r2 => (fo, r2))) else (if fo = nI 61 then (bindv (if (((m_X12_knownByAny (Ms.s m1)) >>> (fact &&& 31)) &&& nI 1) = 0 then n else (nI 61)) (fun x5_0 => bindv (m_X12_goes m1) (fun r6 => l_X12_tidesKnown_5 m fact n5 x5_0 (n + nI 1) r6))) else (bindv (m_X12_goesBack m1) (fun r4 => (fo, r4))))
theorem q_X12_tidesKnown_5 (m : Ms) (fact : Int32) (n5 : Nat) (fo : Int32) (n : Int32) (m1 : Ms) : l_X12_tidesKnown_5 m fact (n5 + 1) fo n m1 = (if nI 60 < n then (bindv (m_X12_goesBack m1) (fun r2 => (fo, r2))) else (if fo = nI 61 then (bindv (if (((m_X12_knownByAny (Ms.s m1)) >>> (fact &&& 31)) &&& nI 1) = 0 then n else (nI 61)) (fun x5_0 => bindv (m_X12_goes m1) (fun r6 => l_X12_tidesKnown_5 m fact n5 x5_0 (n + nI 1) r6))) else (bindv (m_X12_goesBack m1) (fun r4 => (fo, r4))))) := rfl
def m_X12_tidesKnown (m : Ms) (fact : Int32) : Int32 × Ms := l_X12_tidesKnown_5 m fact 62 (nI 61) (nI 0) m
set_option maxRecDepth 100000 in
set_option maxHeartbeats 4000000 in
theorem c_X12_tidesKnown (l : Launch) {fv : Value} (hf : FV fv) (m : Ms) (fact : Int32) {B : Nat} (hg : Gd B m) (hB : B + 61 ≤ 1000000) : CT l fv 9 jX12_tidesKnown [.ref 0, .int fact] (hMs m) (DP (some (.int (m_X12_tidesKnown m fact).1)) (hMs ((m_X12_tidesKnown m fact).2))) := by
  refine CT_of [5, 34] mt_X12_tidesKnown (by decide +kernel) (tab_X12 hf) okX12_tidesKnown (Nat.le_of_ble_eq_true rfl) ?_
  intro J hJ hD
  refine hJ 0 _ _ _ ?_
  have L5 : ∀ (n5 : Nat) (fo : Int32) (n : Int32) (m1 : Ms), (∃ z9 : Nat, z9 ≤ 61 ∧ n5 + z9 = 62 ∧ n = nI z9 ∧ Gd (B + z9) m1) → m_X12_tidesKnown m fact = l_X12_tidesKnown_5 m fact n5 fo n m1 → J 5 [(0, .ref 0), (1, .int fact), (2, .int fo), (3, .int n)] [] (hMs m1) := by
    intro n5
    induction n5 with
    | zero =>
      intro fo n m1 hv
      obtain ⟨z9, h1, h2, h3, h5⟩ := hv
      omega
    | succ n5 ih5 =>
      intro fo n m1 hv e5
      obtain ⟨z9, h1, h2, h3, h5⟩ := hv
      refine hJ 5 _ _ _ ?_
      refine And.intro (fun c1 => ?_) (fun c1 => ?_)
      · skip
        refine hJ 45 _ _ _ ?_
        obtain ⟨r2, er2⟩ : ∃ z : Ms, m_X12_goesBack m1 = z := ⟨_, rfl⟩
        have hr2 := c_X12_goesBack l hf m1
        rw [er2] at hr2
        refine CALL_same (r := none) (h1 := hMs r2) (by decide) (hr2) ?_
        exact And.intro True.intro (DPis (F := (fun z => hMs z)) (s' := r2) (e5.trans ((q_X12_tidesKnown_5 m fact n5 fo n m1).trans ((if_pos c1).trans (bindv_eq er2)))))
      · skip
        have h4 : z9 ≤ 60 := cnt_le h3 (by omega) (by decide) c1
        refine And.intro (fun c3 => ?_) (fun c3 => ?_)
        · skip
          refine hJ 45 _ _ _ ?_
          obtain ⟨r4, er4⟩ : ∃ z : Ms, m_X12_goesBack m1 = z := ⟨_, rfl⟩
          have hr4 := c_X12_goesBack l hf m1
          rw [er4] at hr4
          refine CALL_same (r := none) (h1 := hMs r4) (by decide) (hr4) ?_
          exact And.intro True.intro (DPis (F := (fun z => hMs z)) (s' := r4) (e5.trans ((q_X12_tidesKnown_5 m fact n5 fo n m1).trans ((if_neg c1).trans ((if_neg c3).trans (bindv_eq er4))))))
        · skip
          refine CALL_same (r := some (.int (m_X12_knownByAny (Ms.s m1)))) (h1 := hMs m1) (by decide) (c_X12_knownByAny l hf m1 h5.2.1) ?_
          have K5 : ∀ (x5_0 : Int32), (if (((m_X12_knownByAny (Ms.s m1)) >>> (fact &&& 31)) &&& nI 1) = 0 then n else (nI 61)) = x5_0 → J 34 [(0, .ref 0), (1, .int fact), (3, .int n)] [.int x5_0] (hMs m1) := by
            intro x5_0 ex5_0
            refine hJ 34 _ _ _ ?_
            obtain ⟨r6, er6⟩ : ∃ z : Ms, m_X12_goes m1 = z := ⟨_, rfl⟩
            have hr6 := c_X12_goes l hf m1 h5 (by omega)
            rw [er6] at hr6
            have h6 := (ef_goes h5).1; rw [er6] at h6
            refine CALL_same (r := none) (h1 := hMs r6) (by decide) (hr6) ?_
            exact hD _ _ [2, 3, 1, 0] _ _ (ih5 _ _ _ ⟨z9 + 1, by omega, by omega, by rw [h3]; exact nI_add z9 1, h6⟩ (e5.trans ((q_X12_tidesKnown_5 m fact n5 fo n m1).trans ((if_neg c1).trans ((if_pos c3).trans ((bindv_eq ex5_0).trans (bindv_eq er6)))))))
          refine And.intro (fun c7 => ?_) (fun c7 => ?_)
          · skip
            refine hJ 32 _ _ _ ?_
            exact hD _ _ [0, 1, 3] _ _ (K5 _ (if_neg c7))
          · skip
            exact hD _ _ [0, 1, 3] _ _ (K5 _ (if_pos c7))
  exact hD _ _ [2, 3, 1, 0] _ _ (L5 62 _ _ _ ⟨0, by omega, by omega, rfl, hg⟩ (rfl))
theorem ef_tidesKnown_l (m : Ms) (fact : Int32) {B : Nat} : ∀ (n k : Nat) (fo i : Int32) (m1 : Ms), k ≤ 61 → n + k = 62 → i = nI k → Gd (B + k) m1 → Kp 7 m m1 → Ms.fr m1 = Ms.fr m → Kp 17 m (l_X12_tidesKnown_5 m fact n fo i m1).2 ∧ Ms.fr (l_X12_tidesKnown_5 m fact n fo i m1).2 = Ms.fr m ∧ ∀ j, j < 17 → Ms.s (l_X12_tidesKnown_5 m fact n fo i m1).2 j = Ms.fr m j := by
  intro n
  induction n with
  | zero => intro k fo i m1 h1 h2; omega
  | succ n ih =>
    intro k fo i m1 h1 h2 h3 h4 h5 h6
    have fin : Kp 17 m (m_X12_goesBack m1) ∧ Ms.fr (m_X12_goesBack m1) = Ms.fr m ∧ ∀ j, j < 17 → Ms.s (m_X12_goesBack m1) j = Ms.fr m j :=
      ⟨(h5.mono (by omega)).tr (ef_goesBack m1).1, (ef_goesBack m1).2.1.trans h6, fun j hj => ((ef_goesBack m1).2.2 j hj).trans (by rw [h6])⟩
    rw [q_X12_tidesKnown_5]
    by_cases c : nI 60 < i
    · rw [if_pos c]; exact fin
    · rw [if_neg c]
      have hk : k ≤ 60 := cnt_le h3 (by omega) (by decide) c
      have e := ef_goes h4
      (repeat' split) <;> first | exact fin | exact ih (k + 1) _ _ _ (by omega) (by omega) (by rw [h3]; exact nI_add k 1) e.1 (h5.tr e.2.1) (e.2.2.1.trans h6)
theorem ef_tidesKnown {B : Nat} {m : Ms} (fact : Int32) (g : Gd B m) : Kp 17 m (m_X12_tidesKnown m fact).2 ∧ Ms.fr (m_X12_tidesKnown m fact).2 = Ms.fr m ∧ ∀ j, j < 17 → Ms.s (m_X12_tidesKnown m fact).2 j = Ms.fr m j := ef_tidesKnown_l m fact 62 0 _ _ _ (by omega) rfl rfl g (Kp.rf 7 m) rfl
theorem Kp.up {a : Nat} {m : Ms} (f : Fn) (h : ∀ i, a ≤ i → f i = Ms.s m i) : Kp a m (Ms.th m, f, Ms.im m, Ms.fr m, Ms.hi m, Ms.ac m, Ms.sp m, Ms.en m, Ms.wr m, Ms.op m, Ms.bb m, Ms.tr m, Ms.su m, Ms.lf m, Ms.lk m, Ms.nx m, Ms.bo m, Ms.ra m, Ms.ki m, Ms.nu m, Ms.tv m) := ⟨h, rfl, rfl, rfl, rfl⟩
theorem up_lo {f : Fn} {b : Nat} {p x : Int32} (hp : vp_in p 6) {a : Nat} (ha : b + 6 ≤ a) (hb : b < 900) : ∀ i, a ≤ i → upd f (nI b + p).toNatClampNeg x i = f i := by
  intro i hi
  obtain ⟨k, hk, rfl⟩ := vp_in_of hp (by decide)
  rw [nI_add, nI_clamp (by omega), pk_un (by omega)]
def m_X12_lasts (m : Ms) (fact : Int32) : Int32 × Ms := if (m_X12_isFact fact) = 0 then ((-nI 1), m) else (bindv (m_X12_looksAnew m) (fun r2 => bindv (m_X12_keeps r2) (fun r3 => bindv (m_X12_tidesKnown r3 fact) (fun r4 => if r4.1 = nI 61 then ((-nI 5), r4.2) else (r4.1, r4.2)))))
set_option maxRecDepth 100000 in
set_option maxHeartbeats 4000000 in
theorem c_X12_lasts (l : Launch) {fv : Value} (hf : FV fv) (m : Ms) (fact : Int32) (hg : Gd 9999 m) : CT l fv 10 jX12_lasts [.ref 0, .int fact] (hMs m) (DP (some (.int (m_X12_lasts m fact).1)) (hMs ((m_X12_lasts m fact).2))) := by
  refine CT_of [] mt_X12_lasts (by decide +kernel) (tab_X12 hf) okX12_lasts (Nat.le_of_ble_eq_true rfl) ?_
  intro J hJ hD
  refine hJ 0 _ _ _ ?_
  refine CALL_sub (h' := hMs m) [] (by decide) (c_X12_isFact l hf fact) rfl rfl (by decide) (by decide) rfl ?_
  refine And.intro (fun c1 => ?_) (fun c1 => ?_)
  · skip
    refine hJ 9 _ _ _ ?_
    obtain ⟨r2, er2⟩ : ∃ z : Ms, m_X12_looksAnew m = z := ⟨_, rfl⟩
    have hr2 := c_X12_looksAnew l hf m
    rw [er2] at hr2
    have h1 := hg.k0 (ef_looksAnew m).1; rw [er2] at h1
    refine CALL_same (r := none) (h1 := hMs r2) (by decide) (hr2) ?_
    obtain ⟨r3, er3⟩ : ∃ z : Ms, m_X12_keeps r2 = z := ⟨_, rfl⟩
    have hr3 := c_X12_keeps l hf r2
    rw [er3] at hr3
    have h2 := h1.k0 (ef_keeps _).1; rw [er3] at h2
    refine CALL_same (r := none) (h1 := hMs r3) (by decide) (hr3) ?_
    obtain ⟨r4, er4⟩ : ∃ z : Int32 × Ms, m_X12_tidesKnown r3 fact = z := ⟨_, rfl⟩
    have hr4 := c_X12_tidesKnown l hf r3 fact (B := 9999) h2 (by decide)
    rw [er4] at hr4
    refine CALL_same (r := some (.int r4.1)) (h1 := hMs r4.2) (by decide) (hr4) ?_
    refine And.intro (fun c5 => ?_) (fun c5 => ?_)
    · skip
      refine hJ 34 _ _ _ ?_
      exact And.intro True.intro (DPis (F := (fun z => hMs z)) (s' := r4.2) ((if_neg c1).trans ((bindv_eq er2).trans ((bindv_eq er3).trans ((bindv_eq er4).trans (if_neg c5))))))
    · skip
      refine hJ 35 _ _ _ ?_
      exact And.intro True.intro (DPis (F := (fun z => hMs z)) (s' := r4.2) ((if_neg c1).trans ((bindv_eq er2).trans ((bindv_eq er3).trans ((bindv_eq er4).trans (if_pos c5))))))
  · skip
    exact And.intro True.intro (DPis (F := (fun z => hMs z)) (s' := m) (if_pos c1))
theorem up_0 {f : Fn} {b : Nat} {p x : Int32} (hp : vp_in p 6) (h0 : 0 < b) (hb : b < 900) : upd f (nI b + p).toNatClampNeg x 0 = f 0 := by
  obtain ⟨k, hk, rfl⟩ := vp_in_of hp (by decide)
  rw [nI_add, nI_clamp (by omega), pk_un (by omega)]
theorem Gd.fs {B a : Nat} {m : Ms} {f : Fn} (g : Gd B m) (h7 : ∀ i, a ≤ i → f i = Ms.s m i) (h0 : f 0 = Ms.s m 0) (ha : a ≤ 17) : Gd B (Ms.th m, f, Ms.im m, Ms.fr m, Ms.hi m, Ms.ac m, Ms.sp m, Ms.en m, Ms.wr m, Ms.op m, Ms.bb m, Ms.tr m, Ms.su m, Ms.lf m, Ms.lk m, Ms.nx m, Ms.bo m, Ms.ra m, Ms.ki m, Ms.nu m, Ms.tv m) := g.kp (Kp.up f h7) ha (by rw [show Ms.s (Ms.th m, f, Ms.im m, Ms.fr m, Ms.hi m, Ms.ac m, Ms.sp m, Ms.en m, Ms.wr m, Ms.op m, Ms.bb m, Ms.tr m, Ms.su m, Ms.lf m, Ms.lk m, Ms.nx m, Ms.bo m, Ms.ra m, Ms.ki m, Ms.nu m, Ms.tv m) 0 = f 0 from rfl, h0]; exact g.1)
/-- from m on, what was put by of a goes back -/
def Bk (a m m' : Ms) : Prop := Kp 17 m m' ∧ Ms.fr m' = Ms.fr m ∧ ∀ j, j < 17 → Ms.s m' j = Ms.fr m j
theorem ef_tidesKnown_r {B : Nat} {m : Ms} {fact : Int32} {r : Int32 × Ms} (e : m_X12_tidesKnown m fact = r) (g : Gd B m) : Bk m m r.2 := by rw [← e]; exact ef_tidesKnown fact g
theorem back2 {m1 rk r2 x : Ms} {f : Fn} {a : Nat} (k1 : Kp 0 m1 rk ∧ ∀ j, j < 17 → Ms.fr rk j = Ms.s m1 j) (hf : ∀ i, a ≤ i → f i = Ms.s rk i) (ha : a ≤ 17) (q : Bk x (Ms.th rk, f, Ms.im rk, Ms.fr rk, Ms.hi rk, Ms.ac rk, Ms.sp rk, Ms.en rk, Ms.wr rk, Ms.op rk, Ms.bb rk, Ms.tr rk, Ms.su rk, Ms.lf rk, Ms.lk rk, Ms.nx rk, Ms.bo rk, Ms.ra rk, Ms.ki rk, Ms.nu rk, Ms.tv rk) r2) : Kp 0 m1 r2 := by
  have t := (k1.1.mono (by omega)).tr (((Kp.up f hf).mono ha).tr q.1)
  refine ⟨fun i _ => ?_, t.2⟩
  by_cases c : i < 17
  · rw [q.2.2 i c]; exact k1.2 i c
  · exact t.1 i (by omega)
def l_X12_tell_21 (m : Ms) (fact : Int32) (r2 : Ms) : Nat → Int32 → Int32 → Int32 → Ms → Int32 × Ms
  | 0, _, _, _, _ => (0, m)
  | n21 + 1, best, most, p, m1 => if (Ms.s m1 (nI 17).toNatClampNeg) ≤ p then (best, m1) else (if (Ms.s m1 (nI 7 + p).toNatClampNeg) = 0 then (bindv (m_X12_keeps m1) (fun r5 => bindv (m_X12_tidesKnown (Ms.th r5, (upd (Ms.s r5) (nI 1 + p).toNatClampNeg ((Ms.s r5 (nI 1 + p).toNatClampNeg) ||| (nI 1 <<< (fact &&& 31)))), Ms.im r5, Ms.fr r5, Ms.hi r5, Ms.ac r5, Ms.sp r5, Ms.en r5, Ms.wr r5, Ms.op r5, Ms.bb r5, Ms.tr r5, Ms.su r5, Ms.lf r5, Ms.lk r5, Ms.nx r5, Ms.bo r5, Ms.ra r5, Ms.ki r5, Ms.nu r5, Ms.tv r5) fact) (fun r6 => bindv (if r6.1 ≤ most then best else p) (fun x7_0 => bindv (if r6.1 ≤ most then most else r6.1) (fun x8_0 => l_X12_tell_21 m fact r2 n21 x7_0 x8_0 (p + nI 1) r6.2))))) else l_X12_tell_21 m fact r2 n21 best most (p + nI 1) m1)
theorem q_X12_tell_21 (m : Ms) (fact : Int32) (r2 : Ms) (n21 : Nat) (best : Int32) (most : Int32) (p : Int32) (m1 : Ms) : l_X12_tell_21 m fact r2 (n21 + 1) best most p m1 = (if (Ms.s m1 (nI 17).toNatClampNeg) ≤ p then (best, m1) else (if (Ms.s m1 (nI 7 + p).toNatClampNeg) = 0 then (bindv (m_X12_keeps m1) (fun r5 => bindv (m_X12_tidesKnown (Ms.th r5, (upd (Ms.s r5) (nI 1 + p).toNatClampNeg ((Ms.s r5 (nI 1 + p).toNatClampNeg) ||| (nI 1 <<< (fact &&& 31)))), Ms.im r5, Ms.fr r5, Ms.hi r5, Ms.ac r5, Ms.sp r5, Ms.en r5, Ms.wr r5, Ms.op r5, Ms.bb r5, Ms.tr r5, Ms.su r5, Ms.lf r5, Ms.lk r5, Ms.nx r5, Ms.bo r5, Ms.ra r5, Ms.ki r5, Ms.nu r5, Ms.tv r5) fact) (fun r6 => bindv (if r6.1 ≤ most then best else p) (fun x7_0 => bindv (if r6.1 ≤ most then most else r6.1) (fun x8_0 => l_X12_tell_21 m fact r2 n21 x7_0 x8_0 (p + nI 1) r6.2))))) else l_X12_tell_21 m fact r2 n21 best most (p + nI 1) m1)) := rfl
def m_X12_tell (m : Ms) (fact : Int32) : Int32 × Ms := if (m_X12_isFact fact) = 0 then ((-nI 1), m) else (bindv (m_X12_looksAnew m) (fun r2 => l_X12_tell_21 m fact r2 7 (-nI 5) (-nI 1) (nI 0) r2))
set_option maxRecDepth 100000 in
set_option maxHeartbeats 4000000 in
theorem c_X12_tell (l : Launch) {fv : Value} (hf : FV fv) (m : Ms) (fact : Int32) (hg : Gd 9999 m) : CT l fv 10 jX12_tell [.ref 0, .int fact] (hMs m) (DP (some (.int (m_X12_tell m fact).1)) (hMs ((m_X12_tell m fact).2))) := by
  refine CT_of [21, 84, 97] mt_X12_tell (by decide +kernel) (tab_X12 hf) okX12_tell (Nat.le_of_ble_eq_true rfl) ?_
  intro J hJ hD
  refine hJ 0 _ _ _ ?_
  refine CALL_sub (h' := hMs m) [] (by decide) (c_X12_isFact l hf fact) rfl rfl (by decide) (by decide) rfl ?_
  refine And.intro (fun c1 => ?_) (fun c1 => ?_)
  · skip
    refine hJ 9 _ _ _ ?_
    obtain ⟨r2, er2⟩ : ∃ z : Ms, m_X12_looksAnew m = z := ⟨_, rfl⟩
    have hr2 := c_X12_looksAnew l hf m
    rw [er2] at hr2
    have h1 := hg.k0 (ef_looksAnew m).1; rw [er2] at h1
    refine CALL_same (r := none) (h1 := hMs r2) (by decide) (hr2) ?_
    have L21 : ∀ (n21 : Nat) (best : Int32) (most : Int32) (p : Int32) (m1 : Ms), (∃ z9 : Nat, z9 ≤ 6 ∧ n21 + z9 = 7 ∧ p = nI z9 ∧ Gd 9999 m1) → m_X12_tell m fact = l_X12_tell_21 m fact r2 n21 best most p m1 → J 21 [(0, .ref 0), (1, .int fact), (2, .int best), (3, .int most), (4, .int p)] [] (hMs m1) := by
      intro n21
      induction n21 with
      | zero =>
        intro best most p m1 hv
        obtain ⟨z9, h1, h2, h3, h5⟩ := hv
        omega
      | succ n21 ih21 =>
        intro best most p m1 hv e21
        obtain ⟨z9, h1, h2, h3, h5⟩ := hv
        refine hJ 21 _ _ _ ?_
        refine And.intro (vp_in_nI (by decide) (by decide)) ?_
        refine And.intro (fun c3 => ?_) (fun c3 => ?_)
        · skip
          refine hJ 104 _ _ _ ?_
          exact And.intro True.intro (DPis (F := (fun z => hMs z)) (s' := m1) (e21.trans ((q_X12_tell_21 m fact r2 n21 best most p m1).trans (if_pos c3))))
        · skip
          have h4 := hU_lt h5.2.1 h3 h1 c3
          have hp := vp_nI h3 h4 (by decide)
          refine And.intro (vp_ad 7 hp (by decide) (by decide)) ?_
          refine And.intro (fun c4 => ?_) (fun c4 => ?_)
          · skip
            refine hJ 98 _ _ _ ?_
            exact hD _ _ [1, 2, 3, 4, 0] _ _ (ih21 _ _ _ _ ⟨z9 + 1, by omega, by omega, by rw [h3]; exact nI_add z9 1, by first | exact g3 | exact h5⟩ (e21.trans ((q_X12_tell_21 m fact r2 n21 best most p m1).trans ((if_neg c3).trans (if_neg c4)))))
          · skip
            obtain ⟨r5, er5⟩ : ∃ z : Ms, m_X12_keeps m1 = z := ⟨_, rfl⟩
            have hr5 := c_X12_keeps l hf m1
            rw [er5] at hr5
            have k1 := ef_keeps m1; rw [er5] at k1
            have g1 := h5.k0 k1.1
            refine CALL_same (r := none) (h1 := hMs r5) (by decide) (hr5) ?_
            refine And.intro (vp_ad 1 hp (by decide) (by decide)) ?_
            refine And.intro (vp_ad 1 hp (by decide) (by decide)) ?_
            obtain ⟨r6, er6⟩ : ∃ z : Int32 × Ms, m_X12_tidesKnown (Ms.th r5, (upd (Ms.s r5) (nI 1 + p).toNatClampNeg ((Ms.s r5 (nI 1 + p).toNatClampNeg) ||| (nI 1 <<< (fact &&& 31)))), Ms.im r5, Ms.fr r5, Ms.hi r5, Ms.ac r5, Ms.sp r5, Ms.en r5, Ms.wr r5, Ms.op r5, Ms.bb r5, Ms.tr r5, Ms.su r5, Ms.lf r5, Ms.lk r5, Ms.nx r5, Ms.bo r5, Ms.ra r5, Ms.ki r5, Ms.nu r5, Ms.tv r5) fact = z := ⟨_, rfl⟩
            have hr6 := c_X12_tidesKnown l hf (Ms.th r5, (upd (Ms.s r5) (nI 1 + p).toNatClampNeg ((Ms.s r5 (nI 1 + p).toNatClampNeg) ||| (nI 1 <<< (fact &&& 31)))), Ms.im r5, Ms.fr r5, Ms.hi r5, Ms.ac r5, Ms.sp r5, Ms.en r5, Ms.wr r5, Ms.op r5, Ms.bb r5, Ms.tr r5, Ms.su r5, Ms.lf r5, Ms.lk r5, Ms.nx r5, Ms.bo r5, Ms.ra r5, Ms.ki r5, Ms.nu r5, Ms.tv r5) fact (B := 9999) (Gd.fs (a := 7) g1 (up_lo hp (by decide) (by decide)) (up_0 hp (by decide) (by decide)) (by decide)) (by decide)
            rw [er6] at hr6
            have g3 := h5.k0 (back2 (a := 7) k1 (up_lo hp (by decide) (by decide)) (by decide) (ef_tidesKnown_r er6 (Gd.fs (a := 7) g1 (up_lo hp (by decide) (by decide)) (up_0 hp (by decide) (by decide)) (by decide))))
            refine CALL_same (r := some (.int r6.1)) (h1 := hMs r6.2) (by decide) (hr6) ?_
            have K7 : ∀ (x7_0 : Int32), (if r6.1 ≤ most then best else p) = x7_0 → J 84 [(0, .ref 0), (1, .int fact), (3, .int most), (4, .int p), (5, .int r6.1)] [.int x7_0] (hMs r6.2) := by
              intro x7_0 ex7_0
              refine hJ 84 _ _ _ ?_
              have K8 : ∀ (x8_0 : Int32), (if r6.1 ≤ most then most else r6.1) = x8_0 → J 97 [(0, .ref 0), (1, .int fact), (2, .int x7_0), (4, .int p)] [.int x8_0] (hMs r6.2) := by
                intro x8_0 ex8_0
                refine hJ 97 _ _ _ ?_
                exact hD _ _ [2, 3, 4, 1, 0] _ _ (ih21 _ _ _ _ ⟨z9 + 1, by omega, by omega, by rw [h3]; exact nI_add z9 1, by first | exact g3 | exact h5⟩ (e21.trans ((q_X12_tell_21 m fact r2 n21 best most p m1).trans ((if_neg c3).trans ((if_pos c4).trans ((bindv_eq er5).trans ((bindv_eq er6).trans ((bindv_eq ex7_0).trans (bindv_eq ex8_0)))))))))
              refine And.intro (fun c9 => ?_) (fun c9 => ?_)
              · skip
                refine hJ 96 _ _ _ ?_
                exact hD _ _ [1, 2, 0, 4] _ _ (K8 _ (if_pos c9))
              · skip
                exact hD _ _ [1, 2, 0, 4] _ _ (K8 _ (if_neg c9))
            refine And.intro (fun c10 => ?_) (fun c10 => ?_)
            · skip
              refine hJ 83 _ _ _ ?_
              exact hD _ _ [1, 2, 4, 5, 0] _ _ (K7 _ (if_pos c10))
            · skip
              exact hD _ _ [1, 2, 4, 5, 0] _ _ (K7 _ (if_neg c10))
    exact hD _ _ [3, 4, 2, 1, 0] _ _ (L21 7 _ _ _ _ ⟨0, by decide, by decide, rfl, h1⟩ ((if_neg c1).trans (bindv_eq er2)))
  · skip
    exact And.intro True.intro (DPis (F := (fun z => hMs z)) (s' := m) (if_pos c1))
def pw9 : Nat → Nat
  | 0 => 0
  | n + 1 => 9 ^ n
theorem pw9_pos {line : Int32} {j : Nat} (h1 : j ≤ 3) (h : line = nI (pw9 j)) (c : ¬ line ≤ 0) : ¬ line = 0 ∧ ∃ q, j = q + 1 ∧ line / nI 9 = nI (pw9 q) := by
  have : j = 0 ∨ j = 1 ∨ j = 2 ∨ j = 3 := by omega
  rcases this with rfl | rfl | rfl | rfl
  · exact absurd (by rw [h]; decide) c
  · rw [h]; exact ⟨by decide, 0, rfl, by decide⟩
  · rw [h]; exact ⟨by decide, 1, rfl, by decide⟩
  · rw [h]; exact ⟨by decide, 2, rfl, by decide⟩
theorem pw9_of {n x : Int32} (e : (if n = nI 1 then nI 1 else (if n = nI 2 then nI 9 else nI 81)) = x) : ∃ j, j ≤ 3 ∧ x = nI (pw9 j) := by
  rw [← e]
  by_cases c : n = nI 1
  · rw [if_pos c]; exact ⟨1, by decide, rfl⟩
  · rw [if_neg c]
    by_cases c : n = nI 2
    · rw [if_pos c]; exact ⟨2, by decide, rfl⟩
    · rw [if_neg c]; exact ⟨3, by decide, rfl⟩
def l_X12_heldBehind_29 (m : Ms) (n : Int32) (code : Int32) (r1 : Ms) (x2_0 : Int32) : Nat → Int32 → Int32 → Ms → Int32 × Ms
  | 0, _, _, _ => (0, m)
  | n29 + 1, line, rest, m1 => if line ≤ 0 then (bindv (m_X12_goesBack m1) (fun r4 => ((m_X12_heldByAll (Ms.s m1)), r4))) else (bindv (m_X12_goesBy m1 (rest / line)) (fun r5 => l_X12_heldBehind_29 m n code r1 x2_0 n29 (line / nI 9) (rest - rest / line * line) r5))
theorem q_X12_heldBehind_29 (m : Ms) (n : Int32) (code : Int32) (r1 : Ms) (x2_0 : Int32) (n29 : Nat) (line : Int32) (rest : Int32) (m1 : Ms) : l_X12_heldBehind_29 m n code r1 x2_0 (n29 + 1) line rest m1 = (if line ≤ 0 then (bindv (m_X12_goesBack m1) (fun r4 => ((m_X12_heldByAll (Ms.s m1)), r4))) else (bindv (m_X12_goesBy m1 (rest / line)) (fun r5 => l_X12_heldBehind_29 m n code r1 x2_0 n29 (line / nI 9) (rest - rest / line * line) r5))) := rfl
def m_X12_heldBehind (m : Ms) (n : Int32) (code : Int32) : Int32 × Ms := bindv (m_X12_keeps m) (fun r1 => bindv (if n = nI 1 then (nI 1) else (if n = nI 2 then (nI 9) else (nI 81))) (fun x2_0 => l_X12_heldBehind_29 m n code r1 x2_0 4 x2_0 code r1))
set_option maxRecDepth 100000 in
set_option maxHeartbeats 4000000 in
theorem c_X12_heldBehind (l : Launch) {fv : Value} (hf : FV fv) (m : Ms) (n : Int32) (code : Int32) {B : Nat} (hg : Gd B m) (hB : B + 4 ≤ 1000000) : CT l fv 8 jX12_heldBehind [.ref 0, .int n, .int code] (hMs m) (DP (some (.int (m_X12_heldBehind m n code).1)) (hMs ((m_X12_heldBehind m n code).2))) := by
  refine CT_of [25, 29] mt_X12_heldBehind (by decide +kernel) (tab_X12 hf) okX12_heldBehind (Nat.le_of_ble_eq_true rfl) ?_
  intro J hJ hD
  refine hJ 0 _ _ _ ?_
  obtain ⟨r1, er1⟩ : ∃ z : Ms, m_X12_keeps m = z := ⟨_, rfl⟩
  have hr1 := c_X12_keeps l hf m
  rw [er1] at hr1
  have h1 := hg.k0 (ef_keeps m).1; rw [er1] at h1
  refine CALL_same (r := none) (h1 := hMs r1) (by decide) (hr1) ?_
  have K2 : ∀ (x2_0 : Int32), (if n = nI 1 then (nI 1) else (if n = nI 2 then (nI 9) else (nI 81))) = x2_0 → J 25 [(0, .ref 0), (2, .int code)] [.int x2_0] (hMs r1) := by
    intro x2_0 ex2_0
    have hj := pw9_of ex2_0
    refine hJ 25 _ _ _ ?_
    have L29 : ∀ (n29 : Nat) (line : Int32) (rest : Int32) (m1 : Ms), (∃ j : Nat, j ≤ 3 ∧ j < n29 ∧ line = nI (pw9 j) ∧ Gd (B + (3 - j)) m1) → m_X12_heldBehind m n code = l_X12_heldBehind_29 m n code r1 x2_0 n29 line rest m1 → J 29 [(0, .ref 0), (3, .int line), (4, .int rest)] [] (hMs m1) := by
      intro n29
      induction n29 with
      | zero =>
        intro line rest m1 hv
        obtain ⟨j, g1, g2, g3, h5⟩ := hv
        omega
      | succ n29 ih29 =>
        intro line rest m1 hv e29
        obtain ⟨j, g1, g2, g3, h5⟩ := hv
        refine hJ 29 _ _ _ ?_
        refine And.intro (fun c3 => ?_) (fun c3 => ?_)
        · skip
          refine hJ 55 _ _ _ ?_
          refine CALL_same (r := some (.int (m_X12_heldByAll (Ms.s m1)))) (h1 := hMs m1) (by decide) (c_X12_heldByAll l hf m1 h5.2.1) ?_
          obtain ⟨r4, er4⟩ : ∃ z : Ms, m_X12_goesBack m1 = z := ⟨_, rfl⟩
          have hr4 := c_X12_goesBack l hf m1
          rw [er4] at hr4
          refine CALL_same (r := none) (h1 := hMs r4) (by decide) (hr4) ?_
          exact And.intro True.intro (DPis (F := (fun z => hMs z)) (s' := r4) (e29.trans ((q_X12_heldBehind_29 m n code r1 x2_0 n29 line rest m1).trans ((if_pos c3).trans (bindv_eq er4)))))
        · skip
          obtain ⟨hz, q, rfl, hq⟩ := pw9_pos g1 g3 c3
          refine And.intro (hz) ?_
          obtain ⟨r5, er5⟩ : ∃ z : Ms, m_X12_goesBy m1 (rest / line) = z := ⟨_, rfl⟩
          have hr5 := c_X12_goesBy l hf m1 (rest / line) h5.2.1 (h5.ht (by omega)) h5.2.2.1 h5.2.2.2
          rw [er5] at hr5
          have h6 := (ef_goesBy h5 (rest / line)).1; rw [er5] at h6
          refine CALL_same (r := none) (h1 := hMs r5) (by decide) (hr5) ?_
          refine And.intro (hz) ?_
          refine And.intro (by decide) ?_
          exact hD _ _ [2, 0, 1] _ _ (ih29 _ _ _ ⟨q, by omega, by omega, hq, h6.mono (by omega)⟩ (e29.trans ((q_X12_heldBehind_29 m n code r1 x2_0 n29 line rest m1).trans ((if_neg c3).trans (bindv_eq er5)))))
    exact hD _ _ [2, 1, 0] _ _ (L29 4 _ _ _ (by obtain ⟨j, g1, g3⟩ := hj; exact ⟨j, g1, by omega, g3, h1.mono (by omega)⟩) ((bindv_eq er1).trans (bindv_eq ex2_0)))
  refine And.intro (fun c6 => ?_) (fun c6 => ?_)
  · skip
    refine hJ 13 _ _ _ ?_
    refine And.intro (fun c7 => ?_) (fun c7 => ?_)
    · skip
      refine hJ 23 _ _ _ ?_
      exact hD _ _ [0, 2] _ _ (K2 _ ((if_neg c6).trans (if_neg c7)))
    · skip
      exact hD _ _ [0, 2] _ _ (K2 _ ((if_neg c6).trans (if_pos c7)))
  · skip
    exact hD _ _ [0, 2] _ _ (K2 _ (if_pos c6))
theorem ef_heldBehind_l (m : Ms) (x y : Int32) {B : Nat} (a : Ms) (z : Int32) : ∀ (n j : Nat) (line rest : Int32) (m1 : Ms), j ≤ 3 → j < n → line = nI (pw9 j) → Gd (B + (3 - j)) m1 → Kp 7 m m1 → (∀ j, j < 17 → Ms.fr m1 j = Ms.s m j) → Kp 0 m (l_X12_heldBehind_29 m x y a z n line rest m1).2 := by
  intro n
  induction n with
  | zero => intro j line rest m1 h1 h2; omega
  | succ n ih =>
    intro j line rest m1 h1 h2 h3 h4 h5 h6
    rw [q_X12_heldBehind_29]
    by_cases c : line ≤ 0
    · rw [if_pos c]
      exact kp_back (h5.mono (by omega)) h6
    · rw [if_neg c]
      obtain ⟨hz, q, rfl, hq⟩ := pw9_pos h1 h3 c
      have e := ef_goesBy h4 (rest / line)
      exact ih q _ _ _ (by omega) (by omega) hq (e.1.mono (by omega)) (h5.tr e.2.1) (fun j hj => by rw [e.2.2.1]; exact h6 j hj)
theorem ef_heldBehind {B : Nat} {m : Ms} (n code : Int32) (g : Gd B m) : Kp 0 m (m_X12_heldBehind m n code).2 := by
  obtain ⟨j, h1, h2⟩ := pw9_of (n := n) rfl
  have k := ef_keeps m
  exact ef_heldBehind_l (B := B) m n code (m_X12_keeps m) _ 4 j _ code (m_X12_keeps m) h1 (by omega) h2 ((g.k0 k.1).mono (by omega)) (k.1.mono (by omega)) k.2
theorem ef_heldBehind_r {B : Nat} {m : Ms} {n code : Int32} {r : Int32 × Ms} (e : m_X12_heldBehind m n code = r) (g : Gd B m) : Kp 0 m r.2 := by rw [← e]; exact ef_heldBehind n code g

theorem cod_of {n x : Int32} (e : (if n = nI 1 then nI 9 else (if n = nI 2 then nI 81 else nI 729)) = x) : ∃ N, N ≤ 729 ∧ x = nI N := by
  rw [← e]
  by_cases c : n = nI 1
  · rw [if_pos c]; exact ⟨9, by decide, rfl⟩
  · rw [if_neg c]
    by_cases c : n = nI 2
    · rw [if_pos c]; exact ⟨81, by decide, rfl⟩
    · rw [if_neg c]; exact ⟨729, by decide, rfl⟩
theorem ln_of {k a b x : Int32} (e : (if k = a then nI 1 else (if k = b then nI 9 else nI 81)) = x) : ¬ x = 0 := by
  rw [← e]
  by_cases c : k = a
  · rw [if_pos c]; decide
  · rw [if_neg c]
    by_cases c : k = b
    · rw [if_pos c]; decide
    · rw [if_neg c]; decide
def l_X12_teach_60 (m : Ms) (n : Int32) (k : Int32) (r3 : Ms) (x4_0 : Int32) : Nat → Int32 → Int32 → Int32 → Ms → Int32 × Ms
  | 0, _, _, _, _ => (0, m)
  | n60 + 1, best, most, code, m1 => if x4_0 ≤ code then (if k = (-nI 1) then (most, m1) else (bindv (if k = (n - nI 1) then (nI 1) else (if k = (n - nI 2) then (nI 9) else (nI 81))) (fun x7_0 => if n ≤ k then ((-nI 5), m1) else (((best / x7_0) - (best / x7_0) / nI 9 * nI 9), m1)))) else (bindv (m_X12_heldBehind m1 n code) (fun r11 => bindv (if r11.1 ≤ most then best else code) (fun x12_0 => bindv (if r11.1 ≤ most then most else r11.1) (fun x13_0 => l_X12_teach_60 m n k r3 x4_0 n60 x12_0 x13_0 (code + nI 1) r11.2))))
theorem q_X12_teach_60 (m : Ms) (n : Int32) (k : Int32) (r3 : Ms) (x4_0 : Int32) (n60 : Nat) (best : Int32) (most : Int32) (code : Int32) (m1 : Ms) : l_X12_teach_60 m n k r3 x4_0 (n60 + 1) best most code m1 = (if x4_0 ≤ code then (if k = (-nI 1) then (most, m1) else (bindv (if k = (n - nI 1) then (nI 1) else (if k = (n - nI 2) then (nI 9) else (nI 81))) (fun x7_0 => if n ≤ k then ((-nI 5), m1) else (((best / x7_0) - (best / x7_0) / nI 9 * nI 9), m1)))) else (bindv (m_X12_heldBehind m1 n code) (fun r11 => bindv (if r11.1 ≤ most then best else code) (fun x12_0 => bindv (if r11.1 ≤ most then most else r11.1) (fun x13_0 => l_X12_teach_60 m n k r3 x4_0 n60 x12_0 x13_0 (code + nI 1) r11.2))))) := rfl
def m_X12_teach (m : Ms) (n : Int32) (k : Int32) : Int32 × Ms := if (m_X12_in k (-nI 1) (nI 2)) = 0 then ((-nI 1), m) else (if (m_X12_in n (nI 1) (nI 3)) = 0 then ((-nI 2), m) else (bindv (m_X12_looksAnew m) (fun r3 => bindv (if n = nI 1 then (nI 9) else (if n = nI 2 then (nI 81) else (nI 729))) (fun x4_0 => l_X12_teach_60 m n k r3 x4_0 730 (nI 0) (-nI 1) (nI 0) r3))))
set_option maxRecDepth 100000 in
set_option maxHeartbeats 4000000 in
theorem c_X12_teach (l : Launch) {fv : Value} (hf : FV fv) (m : Ms) (n : Int32) (k : Int32) (hg : Gd 9999 m) : CT l fv 9 jX12_teach [.ref 0, .int n, .int k] (hMs m) (DP (some (.int (m_X12_teach m n k).1)) (hMs ((m_X12_teach m n k).2))) := by
  refine CT_of [50, 60, 89, 105, 146] mt_X12_teach (by decide +kernel) (tab_X12 hf) okX12_teach (Nat.le_of_ble_eq_true rfl) ?_
  intro J hJ hD
  refine hJ 0 _ _ _ ?_
  refine CALL_sub (h' := hMs m) [] (by decide) (c_X12_in l hf k (-nI 1) (nI 2)) rfl rfl (by decide) (by decide) rfl ?_
  refine And.intro (fun c1 => ?_) (fun c1 => ?_)
  · skip
    refine hJ 11 _ _ _ ?_
    refine CALL_sub (h' := hMs m) [] (by decide) (c_X12_in l hf n (nI 1) (nI 3)) rfl rfl (by decide) (by decide) rfl ?_
    refine And.intro (fun c2 => ?_) (fun c2 => ?_)
    · skip
      refine hJ 23 _ _ _ ?_
      obtain ⟨r3, er3⟩ : ∃ z : Ms, m_X12_looksAnew m = z := ⟨_, rfl⟩
      have hr3 := c_X12_looksAnew l hf m
      rw [er3] at hr3
      have h1 := hg.k0 (ef_looksAnew m).1; rw [er3] at h1
      refine CALL_same (r := none) (h1 := hMs r3) (by decide) (hr3) ?_
      have K4 : ∀ (x4_0 : Int32), (if n = nI 1 then (nI 9) else (if n = nI 2 then (nI 81) else (nI 729))) = x4_0 → J 50 [(0, .ref 0), (1, .int n), (2, .int k)] [.int x4_0] (hMs r3) := by
        intro x4_0 ex4_0
        obtain ⟨N, hN, hx⟩ := cod_of ex4_0
        refine hJ 50 _ _ _ ?_
        have L60 : ∀ (n60 : Nat) (best : Int32) (most : Int32) (code : Int32) (m1 : Ms), (∃ z9 : Nat, z9 ≤ N ∧ n60 + z9 = 730 ∧ code = nI z9 ∧ Gd 9999 m1) → m_X12_teach m n k = l_X12_teach_60 m n k r3 x4_0 n60 best most code m1 → J 60 [(0, .ref 0), (1, .int n), (2, .int k), (3, .int x4_0), (4, .int best), (5, .int most), (6, .int code)] [] (hMs m1) := by
          intro n60
          induction n60 with
          | zero =>
            intro best most code m1 hv
            obtain ⟨z9, h1, h2, h3, h5⟩ := hv
            omega
          | succ n60 ih60 =>
            intro best most code m1 hv e60
            obtain ⟨z9, h1, h2, h3, h5⟩ := hv
            refine hJ 60 _ _ _ ?_
            refine And.intro (fun c5 => ?_) (fun c5 => ?_)
            · skip
              refine hJ 113 _ _ _ ?_
              refine And.intro (fun c6 => ?_) (fun c6 => ?_)
              · skip
                refine hJ 121 _ _ _ ?_
                have K7 : ∀ (x7_0 : Int32), (if k = (n - nI 1) then (nI 1) else (if k = (n - nI 2) then (nI 9) else (nI 81))) = x7_0 → J 146 [(1, .int n), (2, .int k), (4, .int best)] [.int x7_0] (hMs m1) := by
                  intro x7_0 ex7_0
                  have hz := ln_of ex7_0
                  refine hJ 146 _ _ _ ?_
                  refine And.intro (fun c8 => ?_) (fun c8 => ?_)
                  · skip
                    refine hJ 164 _ _ _ ?_
                    exact And.intro True.intro (DPis (F := (fun z => hMs z)) (s' := m1) (e60.trans ((q_X12_teach_60 m n k r3 x4_0 n60 best most code m1).trans ((if_pos c5).trans ((if_neg c6).trans ((bindv_eq ex7_0).trans (if_pos c8)))))))
                  · skip
                    refine And.intro (hz) ?_
                    refine And.intro (by decide) ?_
                    refine hJ 166 _ _ _ ?_
                    exact And.intro True.intro (DPis (F := (fun z => hMs z)) (s' := m1) (e60.trans ((q_X12_teach_60 m n k r3 x4_0 n60 best most code m1).trans ((if_pos c5).trans ((if_neg c6).trans ((bindv_eq ex7_0).trans (if_neg c8)))))))
                refine And.intro (fun c9 => ?_) (fun c9 => ?_)
                · skip
                  refine hJ 132 _ _ _ ?_
                  refine And.intro (fun c10 => ?_) (fun c10 => ?_)
                  · skip
                    refine hJ 144 _ _ _ ?_
                    exact hD _ _ [1, 2, 4] _ _ (K7 _ ((if_neg c9).trans (if_neg c10)))
                  · skip
                    exact hD _ _ [1, 2, 4] _ _ (K7 _ ((if_neg c9).trans (if_pos c10)))
                · skip
                  exact hD _ _ [1, 2, 4] _ _ (K7 _ (if_pos c9))
              · skip
                exact And.intro True.intro (DPis (F := (fun z => hMs z)) (s' := m1) (e60.trans ((q_X12_teach_60 m n k r3 x4_0 n60 best most code m1).trans ((if_pos c5).trans (if_pos c6)))))
            · skip
              have h4 : z9 < N := cnt_lt h3 h1 (by omega) (by rw [← hx]; exact c5)
              obtain ⟨r11, er11⟩ : ∃ z : Int32 × Ms, m_X12_heldBehind m1 n code = z := ⟨_, rfl⟩
              have hr11 := c_X12_heldBehind l hf m1 n code (B := 9999) h5 (by decide)
              rw [er11] at hr11
              have h6 := h5.k0 (ef_heldBehind_r er11 h5)
              refine CALL_same (r := some (.int r11.1)) (h1 := hMs r11.2) (by decide) (hr11) ?_
              have K12 : ∀ (x12_0 : Int32), (if r11.1 ≤ most then best else code) = x12_0 → J 89 [(0, .ref 0), (1, .int n), (2, .int k), (3, .int x4_0), (5, .int most), (6, .int code), (7, .int r11.1)] [.int x12_0] (hMs r11.2) := by
                intro x12_0 ex12_0
                refine hJ 89 _ _ _ ?_
                have K13 : ∀ (x13_0 : Int32), (if r11.1 ≤ most then most else r11.1) = x13_0 → J 105 [(0, .ref 0), (1, .int n), (2, .int k), (3, .int x4_0), (4, .int x12_0), (6, .int code)] [.int x13_0] (hMs r11.2) := by
                  intro x13_0 ex13_0
                  refine hJ 105 _ _ _ ?_
                  exact hD _ _ [2, 3, 4, 5, 6, 1, 0] _ _ (ih60 _ _ _ _ ⟨z9 + 1, by omega, by omega, by rw [h3]; exact nI_add z9 1, h6⟩ (e60.trans ((q_X12_teach_60 m n k r3 x4_0 n60 best most code m1).trans ((if_neg c5).trans ((bindv_eq er11).trans ((bindv_eq ex12_0).trans (bindv_eq ex13_0)))))))
                refine And.intro (fun c14 => ?_) (fun c14 => ?_)
                · skip
                  refine hJ 103 _ _ _ ?_
                  exact hD _ _ [1, 2, 3, 4, 0, 6] _ _ (K13 _ (if_pos c14))
                · skip
                  exact hD _ _ [1, 2, 3, 4, 0, 6] _ _ (K13 _ (if_neg c14))
              refine And.intro (fun c15 => ?_) (fun c15 => ?_)
              · skip
                refine hJ 87 _ _ _ ?_
                exact hD _ _ [1, 2, 3, 4, 6, 7, 0] _ _ (K12 _ (if_pos c15))
              · skip
                exact hD _ _ [1, 2, 3, 4, 6, 7, 0] _ _ (K12 _ (if_neg c15))
        exact hD _ _ [4, 5, 6, 3, 2, 1, 0] _ _ (L60 730 _ _ _ _ ⟨0, by omega, by omega, rfl, h1⟩ ((if_neg c1).trans ((if_neg c2).trans ((bindv_eq er3).trans (bindv_eq ex4_0)))))
      refine And.intro (fun c16 => ?_) (fun c16 => ?_)
      · skip
        refine hJ 37 _ _ _ ?_
        refine And.intro (fun c17 => ?_) (fun c17 => ?_)
        · skip
          refine hJ 47 _ _ _ ?_
          exact hD _ _ [0, 1, 2] _ _ (K4 _ ((if_neg c16).trans (if_neg c17)))
        · skip
          exact hD _ _ [0, 1, 2] _ _ (K4 _ ((if_neg c16).trans (if_pos c17)))
      · skip
        exact hD _ _ [0, 1, 2] _ _ (K4 _ (if_pos c16))
    · skip
      exact And.intro True.intro (DPis (F := (fun z => hMs z)) (s' := m) ((if_neg c1).trans (if_pos c2)))
  · skip
    exact And.intro True.intro (DPis (F := (fun z => hMs z)) (s' := m) (if_pos c1))

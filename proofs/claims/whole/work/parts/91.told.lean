/-! what is told, counted, traced -/
theorem aw_s : ∀ x, x < 64 → ∀ k, k < 6 → nI (x % 2 ^ k) ||| (b2i (x.testBit k) <<< (nI k &&& 31)) = nI (x % 2 ^ (k + 1)) := by decide +kernel
theorem awayx_l {f : Fn} {U x : Nat} (hU : U ≤ 6) (h17 : f 17 = nI U) (hx : x < 2 ^ U) (ho : ∀ p, p < U → f (7 + p) = b2i (x.testBit p)) : ∀ (n k : Nat) (a i : Int32), k ≤ U → n + k = 7 → i = nI k → a = nI (x % 2 ^ k) → l_X12_awayOnes_4 f n a i = nI x := by
  have p64 := pw_64 U hU
  intro n
  induction n with
  | zero => intro k a i h1 h2; omega
  | succ n ih =>
    intro k a i h1 h2 h3 h4
    rw [q_X12_awayOnes_4, c17, h17]
    by_cases c : nI U ≤ i
    · rw [if_pos c, h4]
      rw [h3, nI_leI (by omega) (by omega)] at c
      have : k = U := by omega
      rw [this, Nat.mod_eq_of_lt hx]
    · rw [if_neg c]
      rw [h3, nI_leI (by omega) (by omega)] at c
      refine ih (k + 1) _ _ (by omega) (by omega) (by rw [h3]; exact nI_add k 1) ?_
      rw [h3, h4, ck2 (by omega), ho k (by omega)]
      exact aw_s x (by omega) k (by omega)
theorem away_eq {f : Fn} {U x : Nat} (hU : U ≤ 6) (h17 : f 17 = nI U) (hx : x < 2 ^ U) (ho : ∀ p, p < U → f (7 + p) = b2i (x.testBit p)) : m_X12_awayOnes f = nI x :=
  awayx_l hU h17 hx ho 7 0 _ _ (Nat.zero_le _) rfl rfl (by rw [Nat.pow_zero, Nat.mod_one])
theorem RelS.away {f : Fn} {sf : Sf} {A : Nat → Lg} {U T G : Nat} (h : RelS f sf A U T G) : ∃ x, x < 2 ^ U ∧ Sc.ou (Sf.c sf) = nI x ∧ m_X12_awayOnes f = nI x := by
  obtain ⟨u, t, g, kn, ro, le, tp, se, pl, bk, sq, ou, lr⟩ := h
  obtain ⟨-, x, x1, x2⟩ := ou
  have p64 := pw_64 U u.1
  have u6 := u.1
  refine ⟨x, x1, x2, away_eq u.1 u.2.2 x1 fun p hp => ?_⟩
  rw [(ro p hp).2.2.2.1, x2, ob_t x (by omega) p (by omega)]
theorem RelS.all {f : Fn} {sf : Sf} {A : Nat → Lg} {U T G : Nat} (h : RelS f sf A U T G) : m_X7_all (Sc.kn (Sf.c sf)) (Sc.sz (Sf.c sf)) (Sc.ou (Sf.c sf)) = m_X12_knownByAny f := by
  obtain ⟨u, t, g, kn, ro, -⟩ := h
  refine all_l (X := fun p => (Sc.kn (Sf.c sf) p).toNatClampNeg) u.1 u.2.1 u.2.2 (fun p hp => ?_) (fun p hp => (ro p hp).2.2.2.1) 7 0 _ _ (Nat.zero_le _) rfl rfl
  obtain ⟨x, x1, x2, x3⟩ := kn p hp
  have e : (Sc.kn (Sf.c sf) p).toNatClampNeg = x := by rw [x2, nI_clamp (by omega)]
  show Sc.kn (Sf.c sf) p = nI (Sc.kn (Sf.c sf) p).toNatClampNeg ∧ f (1 + p) = nI (Sc.kn (Sf.c sf) p).toNatClampNeg
  rw [e]; exact ⟨x2, x3⟩
theorem RelS.held {f : Fn} {sf : Sf} {A : Nat → Lg} {U T G : Nat} (h : RelS f sf A U T G) : m_X7_held (Sc.kn (Sf.c sf)) (Sc.sz (Sf.c sf)) (Sc.ou (Sf.c sf)) = m_X12_heldByAll f := by
  obtain ⟨u, t, g, kn, ro, -⟩ := h
  refine held_l2 (X := fun p => (Sc.kn (Sf.c sf) p).toNatClampNeg) u.1 u.2.1 u.2.2 (fun p hp => ?_) (fun p hp => (ro p hp).2.2.2.1) 7 0 _ _ (Nat.zero_le _) rfl rfl
  obtain ⟨x, x1, x2, x3⟩ := kn p hp
  have e : (Sc.kn (Sf.c sf) p).toNatClampNeg = x := by rw [x2, nI_clamp (by omega)]
  show (Sc.kn (Sf.c sf) p).toNatClampNeg < 256 ∧ Sc.kn (Sf.c sf) p = nI (Sc.kn (Sf.c sf) p).toNatClampNeg ∧ f (1 + p) = nI (Sc.kn (Sf.c sf) p).toNatClampNeg
  rw [e]; exact ⟨x1, x2, x3⟩
theorem kby_l {kn : Fn} {z : Int32} {f : Fn} {U : Nat} (hU : U ≤ 6) (u2 : z = nI U) (u3 : f 17 = nI U) (b : Int32) (hX : ∀ p, p < U → f (1 + p) = kn p) : ∀ (n k : Nat) (a i : Int32), k ≤ U → n + k = 7 → i = nI k → l_X7_knownBy_4 kn z b n a i = l_X12_knownBy_4 f b n a i := by
  intro n
  induction n with
  | zero => intro k a i h1 h2; omega
  | succ n ih =>
    intro k a i h1 h2 h3
    rw [q_X7_knownBy_4, q_X12_knownBy_4, u2, c17, u3]
    by_cases c : nI U ≤ i
    · rw [if_pos c, if_pos c]
    · rw [if_neg c, if_neg c]
      rw [h3, nI_leI (by omega) (by omega)] at c
      rw [if_neg (fun q => by rw [h3, nI_leI (by decide) (by omega)] at q; omega)]
      have e1 : (nI 1 + i).toNatClampNeg = 1 + k := by rw [h3, nI_add, nI_clamp (by omega)]
      have ei : i.toNatClampNeg = k := by rw [h3, nI_clamp (by omega)]
      rw [e1, ei, hX k (by omega)]
      unfold bindv
      rw [← u2]
      exact ih (k + 1) _ _ (by omega) (by omega) (by rw [h3]; exact nI_add k 1)
theorem kbz_f : ∀ U, U ≤ 6 → ∀ x, x < 64 → x < 2 ^ U → ∀ k, k < 6 → k < U → decide ((nI (2 ^ U - 1 - x) >>> (nI k &&& 31)) &&& nI 1 = nI 1) = decide (m_X7_isOut (nI x) (nI k) = 0) := by decide +kernel
theorem kbz_l {kn : Fn} {z : Int32} {U x : Nat} (hU : U ≤ 6) (u2 : z = nI U) (hx : x < 2 ^ U) : ∀ (n k : Nat) (a i : Int32), k ≤ U → n + k = 7 → i = nI k → l_X7_knownBy_4 kn z (nI (2 ^ U - 1 - x)) n a i = l_X7_all_4 kn z (nI x) n a i := by
  have p64 := pw_64 U hU
  intro n
  induction n with
  | zero => intro k a i h1 h2; omega
  | succ n ih =>
    intro k a i h1 h2 h3
    rw [q_X7_knownBy_4, q_X7_all_4, u2]
    by_cases c : nI U ≤ i
    · rw [if_pos c, if_pos c]
    · rw [if_neg c, if_neg c]
      rw [h3, nI_leI (by omega) (by omega)] at c
      have n6 : ¬ nI 6 ≤ i := fun q => by rw [h3, nI_leI (by decide) (by omega)] at q; omega
      rw [if_neg n6, if_neg n6]
      have key := decide_eq_decide.mp (kbz_f U hU x (by omega) hx k (by omega) (by omega))
      have e : (if (nI (2 ^ U - 1 - x) >>> (i &&& 31)) &&& nI 1 = nI 1 then kn i.toNatClampNeg else nI 0) = (if m_X7_isOut (nI x) i = 0 then kn i.toNatClampNeg else nI 0) := by
        rw [h3]
        by_cases y : m_X7_isOut (nI x) (nI k) = 0
        · rw [if_pos y, if_pos (key.mpr y)]
        · rw [if_neg y, if_neg (fun q => y (key.mp q))]
      rw [e]
      unfold bindv
      rw [← u2]
      exact ih (k + 1) _ _ (by omega) (by omega) (by rw [h3]; exact nI_add k 1)
theorem few_sh : ∀ U, U ≤ 6 → (nI 1 <<< (nI U &&& 31)) = nI (2 ^ U) := by decide +kernel
theorem few_z : ∀ U, U ≤ 6 → ∀ x, x < 64 → x < 2 ^ U → (nI (2 ^ U - 1 - x) &&& nI x) = 0 := by decide +kernel
theorem few_7 : ∀ k, k < 64 → ¬ nI 7 ≤ m_J6_bitCount_0f7a4 (nI k) := by decide +kernel
theorem few_l {f : Fn} {kn : Fn} {z o : Int32} {U x : Nat} (hU : U ≤ 6) (u2 : z = nI U) (u3 : f 17 = nI U) (hx : x < 2 ^ U) (hou : o = nI x) (haw : m_X12_awayOnes f = nI x) (hal : m_X7_all kn z o = m_X12_knownByAny f) (hX : ∀ p, p < U → f (1 + p) = kn p) : ∀ (n k : Nat) (a b be i : Int32), k ≤ 2 ^ U → n + k = 65 → i = nI k → ((a = nI 7 ∧ b = nI 0 ∧ be = (-nI 1) ∧ ∀ j, j < k → ¬ ((nI j &&& nI x) = 0 ∧ m_X7_knownBy kn z (nI j) = m_X7_all kn z o)) ∨ ∃ y, y < 64 ∧ b = nI y ∧ be = nI y ∧ a = m_J6_bitCount_0f7a4 (nI y)) → l_X7_few_13 kn z o n a b i = l_X12_fewest_4 f n be i := by
  have p64 := pw_64 U hU
  intro n
  induction n with
  | zero => intro k a b be i h1 h2; omega
  | succ n ih =>
    intro k a b be i h1 h2 h3 h4
    have ekb : m_X12_knownBy f i = m_X7_knownBy kn z i := (kby_l hU u2 u3 i hX 7 0 _ _ (Nat.zero_le _) rfl rfl).symm
    rw [q_X7_few_13, q_X12_fewest_4, c17, u3, haw, ekb, ← hal, hou, show (nI 1 <<< (z &&& 31)) = nI (2 ^ U) by rw [u2]; exact few_sh U hU, few_sh U hU]
    by_cases c : nI (2 ^ U) ≤ i
    · rw [if_pos c, if_pos c]
      rw [h3, nI_leI (by omega) (by omega)] at c
      rcases h4 with ⟨-, -, -, h4⟩ | ⟨y, y1, y2, y3, y4⟩
      · exfalso
        have hp : 0 < 2 ^ U := Nat.pow_pos (by decide)
        refine h4 (2 ^ U - 1 - x) (by omega) ⟨few_z U hU x (by omega) hx, ?_⟩
        rw [hou]
        exact kbz_l hU u2 hx 7 0 _ _ (Nat.zero_le _) rfl rfl
      · rw [y2, y3]
    · rw [if_neg c, if_neg c]
      rw [h3, nI_leI (by omega) (by omega)] at c
      rw [← hou]
      have h5 : i + nI 1 = nI (k + 1) := by rw [h3]; exact nI_add k 1
      have hk64 : k < 64 := by omega
      have ck : m_X12_countOf i = m_J6_bitCount_0f7a4 i := by rw [h3]; exact cnt_eq k (by omega)
      by_cases d : (i &&& o) = 0 ∧ m_X7_knownBy kn z i = m_X7_all kn z o
      · rw [if_pos d.1, if_pos d.2, if_pos d.1, if_pos d.2, if_pos d.1, if_pos d.2]
        dsimp only [bindv]
        rw [if_neg (show ¬ nI 1 = 0 by decide)]
        rcases h4 with ⟨a1, a2, a3, -⟩ | ⟨y, y1, y2, y3, y4⟩
        · rw [if_pos a3, a1, if_neg (by rw [h3]; exact few_7 k hk64), if_neg (by rw [h3]; exact few_7 k hk64)]
          exact ih (k + 1) _ _ _ _ (by omega) (by omega) h5 (Or.inr ⟨k, hk64, h3, h3, by rw [h3]⟩)
        · have nb : ¬ be = (-nI 1) := by
            rw [y3]
            intro q
            have := congrArg Int32.toInt q
            rw [nI_toInt (by omega), show (-nI 1 : Int32).toInt = -1 by decide] at this
            omega
          rw [if_neg nb, ck]
          have cy : m_X12_countOf be = a := by rw [y3, y4]; exact cnt_eq y (by omega)
          rw [cy]
          by_cases w : a ≤ m_J6_bitCount_0f7a4 i
          · rw [if_pos w, if_pos w, if_pos w]
            exact ih (k + 1) _ _ _ _ (by omega) (by omega) h5 (Or.inr ⟨y, y1, y2, y3, y4⟩)
          · rw [if_neg w, if_neg w, if_neg w]
            exact ih (k + 1) _ _ _ _ (by omega) (by omega) h5 (Or.inr ⟨k, hk64, h3, h3, by rw [h3]⟩)
      · have e1 : (if a ≤ m_J6_bitCount_0f7a4 i then a else (if (i &&& o) = 0 then (if m_X7_knownBy kn z i = m_X7_all kn z o then m_J6_bitCount_0f7a4 i else a) else a)) = a := by
          by_cases w1 : a ≤ m_J6_bitCount_0f7a4 i
          · rw [if_pos w1]
          · rw [if_neg w1]
            by_cases w2 : (i &&& o) = 0
            · rw [if_pos w2, if_neg (fun q => d ⟨w2, q⟩)]
            · rw [if_neg w2]
        have e2 : (if a ≤ m_J6_bitCount_0f7a4 i then b else (if (i &&& o) = 0 then (if m_X7_knownBy kn z i = m_X7_all kn z o then i else b) else b)) = b := by
          by_cases w1 : a ≤ m_J6_bitCount_0f7a4 i
          · rw [if_pos w1]
          · rw [if_neg w1]
            by_cases w2 : (i &&& o) = 0
            · rw [if_pos w2, if_neg (fun q => d ⟨w2, q⟩)]
            · rw [if_neg w2]
        have e3 : (if (i &&& o) = 0 then (if m_X7_knownBy kn z i = m_X7_all kn z o then nI 1 else nI 0) else nI 0) = nI 0 := by
          by_cases w2 : (i &&& o) = 0
          · rw [if_pos w2, if_neg (fun q => d ⟨w2, q⟩)]
          · rw [if_neg w2]
        rw [e1, e2, e3]
        dsimp only [bindv]
        rw [if_pos (show nI 0 = 0 from rfl)]
        refine ih (k + 1) _ _ _ _ (by omega) (by omega) h5 ?_
        rcases h4 with ⟨a1, a2, a3, a4⟩ | h4
        · refine Or.inl ⟨a1, a2, a3, fun j hj => ?_⟩
          by_cases y : j < k
          · exact a4 j y
          · have : j = k := by omega
            rw [this, ← h3, ← hou]; exact d
        · exact Or.inr h4
theorem RelS.few {f : Fn} {sf : Sf} {A : Nat → Lg} {U T G : Nat} (h : RelS f sf A U T G) : m_X7_few (Sc.kn (Sf.c sf)) (Sc.sz (Sf.c sf)) (Sc.ou (Sf.c sf)) = m_X12_fewest f := by
  obtain ⟨x, x1, x2, x3⟩ := h.away
  have al := h.all
  obtain ⟨u, t, g, kn, -⟩ := h
  refine few_l u.1 u.2.1 u.2.2 x1 x2 x3 al (fun p hp => ?_) 65 0 _ _ _ _ (Nat.zero_le _) rfl rfl (Or.inl ⟨rfl, rfl, rfl, fun j hj => by omega⟩)
  obtain ⟨y, y1, y2, y3⟩ := kn p hp
  exact y3.trans y2.symm
theorem told_chain {G : Nat} (hG : G ≤ 5) (a0 a1 a2 a3 a4 a5 : Int32) : (if nI G = nI 1 then a1 else (if nI G = nI 2 then a2 else (if nI G = nI 3 then a3 else (if nI G = nI 4 then a4 else (if nI G = nI 5 then a5 else a0))))) = (if G = 0 then a0 else if G = 1 then a1 else if G = 2 then a2 else if G = 3 then a3 else if G = 4 then a4 else a5) := by
  have : G = 0 ∨ G = 1 ∨ G = 2 ∨ G = 3 ∨ G = 4 ∨ G = 5 := by omega
  rcases this with rfl | rfl | rfl | rfl | rfl | rfl <;> rfl
theorem sub10 {w : Int32} {k : Nat} (hk : k < 100) (h : w - nI 10 = nI k) : w = nI (10 + k) := by
  have : w = (w - nI 10) + nI 10 := by rw [Int32.sub_add_cancel]
  rw [this, h, nI_add, Nat.add_comm]
theorem toldL {le : Fn} {f : Fn} {w : Int32} (h : ∀ k, k < 4 → ∃ j, j ≤ 8 ∧ le k = nI j ∧ f (13 + k) = if j = 8 then (-nI 5) else nI j) : m_X11_toldLesson le w = (if m_X12_in (w - nI 10) (nI 0) (nI 3) = 0 then (-nI 1) else f ((nI 13 + w) - nI 10).toNatClampNeg) := by
  unfold m_X11_toldLesson
  have t10 : (nI 10).toInt = 10 := rfl
  have t14 : (nI 14).toInt = 14 := rfl
  by_cases c : m_X12_in (w - nI 10) (nI 0) (nI 3) = 0
  · rw [if_pos c]
    by_cases c1 : w < nI 10
    · rw [if_pos c1]
    · rw [if_neg c1, if_neg]
      intro c2
      rw [Int32.lt_iff_toInt_lt, t10] at c1
      rw [Int32.lt_iff_toInt_lt, t14] at c2
      obtain ⟨k, hk, e⟩ : ∃ k, k < 4 ∧ w = nI (10 + k) := ⟨w.toInt.toNat - 10, by omega, by
        apply Int32.toInt_inj.mp
        rw [nI_toInt (by omega)]
        omega⟩
      rw [e, pk_sub (by omega), Nat.add_sub_cancel_left] at c
      unfold m_X12_in at c
      rw [if_neg (show ¬ nI k < nI 0 from Int32.not_lt.mpr (nI_le (Nat.zero_le _) (by omega))), if_neg (by rw [nI_ltI (by omega) (by omega)]; omega)] at c
      exact absurd c (by decide)
  · rw [if_neg c]
    obtain ⟨k, hk, e⟩ := in_ex (by decide) c
    have ew := sub10 (by omega) e
    obtain ⟨j, j1, j2, j3⟩ := h k (by omega)
    have e13 : ((nI 13 + w) - nI 10).toNatClampNeg = 13 + k := by rw [ew, nI_add, pk_sub (by omega), nI_clamp (by omega)]; omega
    have ek : (nI k).toNatClampNeg = k := nI_clamp (by omega)
    rw [e13, j3, e, ek, j2, if_neg (by rw [ew, nI_ltI (by omega) (by omega)]; omega), if_pos (by rw [ew, nI_ltI (by omega) (by omega)]; omega)]
    by_cases z : j = 8
    · subst z; rw [if_pos rfl, if_pos rfl]
    · rw [if_neg (fun q => z (nI_inj q (by omega) (by decide))), if_neg z]
theorem a_told {s : Us} {m : Ms} {K : Nat} (h : Rel s m K) (w : Int32) : m_X11_told (Sc.kn (Sf.c (Us.nw s))) (Sc.le (Sf.c (Us.nw s))) (Sc.sz (Sf.c (Us.nw s))) (Sc.ou (Sf.c (Us.nw s))) (Sc.ti (Sf.c (Us.nw s))) (Sc.lg (Sf.c (Us.nw s))) (Lg.ke (Us.l0 s)) (Lg.pa (Us.l0 s)) (Lg.ke (Us.l1 s)) (Lg.pa (Us.l1 s)) (Lg.ke (Us.l2 s)) (Lg.pa (Us.l2 s)) (Lg.ke (Us.l3 s)) (Lg.pa (Us.l3 s)) (Lg.ke (Us.l4 s)) (Lg.pa (Us.l4 s)) (Lg.ke (Us.l5 s)) (Lg.pa (Us.l5 s)) w = m_X12_told (Ms.s m) w := by
  obtain ⟨lk, U, T, G, hs, h0, ht, hi, ha⟩ := h
  have al := hs.all
  have he := hs.held
  have fw := hs.few
  obtain ⟨x, x1, x2, x3⟩ := hs.away
  obtain ⟨⟨r, r1, r2, r3⟩, ⟨q, q1, q2, q3⟩, -⟩ := LR.of hs h0
  obtain ⟨u, t, g, kn, ro, le, -⟩ := hs
  unfold m_X11_told m_X12_told
  rw [al, he, fw, x3, x2, toldL le, r3, q3, g.2.1, told_chain g.1, told_chain g.1, c0, t.2.1, t.2.2]
  have hk : (if G = 0 then Lg.ke (Us.l0 s) else if G = 1 then Lg.ke (Us.l1 s) else if G = 2 then Lg.ke (Us.l2 s) else if G = 3 then Lg.ke (Us.l3 s) else if G = 4 then Lg.ke (Us.l4 s) else Lg.ke (Us.l5 s)) = nI r := by
    rw [← r2]
    unfold hold
    (repeat' split) <;> rfl
  have hp : (if G = 0 then Lg.pa (Us.l0 s) else if G = 1 then Lg.pa (Us.l1 s) else if G = 2 then Lg.pa (Us.l2 s) else if G = 3 then Lg.pa (Us.l3 s) else if G = 4 then Lg.pa (Us.l4 s) else Lg.pa (Us.l5 s)) = nI q := by
    rw [← q2]
    unfold hold
    (repeat' split) <;> rfl
  rw [hk, hp]
/-! what is counted -/
theorem count_eq {s : Us} {m : Ms} {K : Nat} (h : Rel s m K) (ra w : Int32) : (if w = nI 0 then Sc.sz (Sf.c (Us.nw s)) else (if w = nI 1 then Sc.lg (Sf.c (Us.nw s)) else (if w = nI 2 then Tb.n (Sf.se (Us.nw s)) else (if w = nI 3 then Tb.n (Sf.pl (Us.nw s)) else (if w = nI 4 then Tb.n (Sf.bk (Us.nw s)) else (if w = nI 5 then Sc.sg (Sf.c (Us.nw s)) else (if w = nI 6 then ra else (-nI 1)))))))) = m_X12_count (Ms.s m) ra w := by
  obtain ⟨lk, U, T, G, ⟨u, t, g, kn, ro, le, tp, se, pl, bk, sq, ou, lr⟩, h0, ht, hi, ha⟩ := h
  obtain ⟨_, -, s2, s3, -⟩ := se
  obtain ⟨_, -, p2, p3, -⟩ := pl
  obtain ⟨_, -, b2, b3, -⟩ := bk
  obtain ⟨_, -, t2, t3, -⟩ := tp
  unfold m_X12_count
  rw [u.2.1, g.2.1, s2, p2, b2, t2]
  by_cases c6 : w = nI 6
  · subst c6
    rw [if_pos rfl]; rfl
  · rw [if_neg c6]
    by_cases c : m_X12_in w (nI 0) (nI 5) = 0
    · rw [if_pos c]
      have nn : ∀ k, k ≤ 5 → ¬ w = nI k := by
        intro k hk e
        rw [e] at c
        unfold m_X12_in at c
        rw [if_neg (show ¬ nI k < nI 0 from Int32.not_lt.mpr (nI_le (Nat.zero_le _) (by omega))), if_neg (by rw [nI_ltI (by omega) (by omega)]; omega)] at c
        exact absurd c (by decide)
      rw [if_neg (nn 0 (by decide)), if_neg (nn 1 (by decide)), if_neg (nn 2 (by decide)), if_neg (nn 3 (by decide)), if_neg (nn 4 (by decide)), if_neg (nn 5 (by decide)), if_neg c6]
    · rw [if_neg c]
      obtain ⟨k, hk, rfl⟩ := in_ex (by decide) c
      rw [ck2 (by omega)]
      have : k = 0 ∨ k = 1 ∨ k = 2 ∨ k = 3 ∨ k = 4 ∨ k = 5 := by omega
      rcases this with rfl | rfl | rfl | rfl | rfl | rfl
      · exact u.2.2.symm
      · exact g.2.2.1.symm
      · exact s3.symm
      · exact p3.symm
      · exact b3.symm
      · exact t3.symm
/-- whose acts ran last -/
theorem Rac.at {s : Us} {m : Ms} {j : Nat} (h : Rac s m) (e : Us.ac s = Value.ref (21 + j)) : ∃ r, r ≤ 1000 ∧ Uc.ra (kj s j) = nI r ∧ Ms.ra m = nI r ∧ ∀ i, i < 20 → i < r → bj s j i = Ms.bo m i := by
  rcases h with ⟨q, -⟩ | ⟨i, r, q1, q2, q3, q4, q5, q6⟩
  · rw [q] at e; cases e
  · rw [q3] at e
    have : 21 + i = 21 + j := by injection e
    have : i = j := Nat.add_left_cancel (n := 21) this
    subst this
    exact ⟨r, q2, q4, q5, q6⟩
theorem Rac.no {s : Us} {m : Ms} (h : Rac s m) (e : Us.ac s = Value.null) : Ms.ra m = nI 0 := by
  rcases h with ⟨-, q⟩ | ⟨i, r, q1, q2, q3, q4, q5, q6⟩
  · exact q
  · rw [q3] at e; cases e
theorem trace_eq {bo b : Fn} {r : Nat} (hr : r ≤ 1000) (hb : ∀ i, i < 20 → i < r → b i = bo i) (n : Int32) : (if n < 0 then (-nI 1) else (if nI r ≤ n then (-nI 1) else (if nI 20 ≤ n then (-nI 1) else b n.toNatClampNeg))) = m_X12_trace bo (nI r) n := by
  unfold m_X12_trace
  obtain ⟨q, q1, q2, q3⟩ : ∃ q, q ≤ 20 ∧ (if nI 20 ≤ nI r then nI 20 else nI r) = nI q ∧ (∀ i, i < q ↔ i < 20 ∧ i < r) := by
    by_cases c : nI 20 ≤ nI r
    · rw [if_pos c]
      rw [nI_leI (by decide) (by omega)] at c
      exact ⟨20, by decide, rfl, fun i => by omega⟩
    · rw [if_neg c]
      rw [nI_leI (by decide) (by omega)] at c
      exact ⟨r, by omega, rfl, fun i => by omega⟩
  rw [q2]
  dsimp only [bindv]
  have tq : (nI q - nI 1).toInt = (q : Int) - 1 := by
    have : ∀ q, q ≤ 20 → (nI q - nI 1).toInt = (q : Int) - 1 := by decide +kernel
    exact this q q1
  unfold m_X12_in
  by_cases c1 : n < 0
  · rw [if_pos c1, if_pos (show n < nI 0 from c1), if_pos (show nI 0 = 0 from rfl)]
  · rw [if_neg c1, if_neg (show ¬ n < nI 0 from c1)]
    have t0 : (0 : Int32).toInt = 0 := rfl
    rw [Int32.lt_iff_toInt_lt, t0] at c1
    by_cases c2 : nI q - nI 1 < n
    · rw [if_pos c2, if_pos (show nI 0 = 0 from rfl)]
      rw [Int32.lt_iff_toInt_lt, tq] at c2
      by_cases c3 : nI r ≤ n
      · rw [if_pos c3]
      · rw [if_neg c3, if_pos]
        rw [Int32.le_iff_toInt_le, nI_toInt (by omega)] at c3 ⊢
        have := q3 (q : Nat)
        omega
    · rw [if_neg c2, if_neg (show ¬ nI 1 = 0 by decide)]
      rw [Int32.lt_iff_toInt_lt, tq] at c2
      obtain ⟨i, e, hi⟩ : ∃ i, n = nI i ∧ i < q := ⟨n.toInt.toNat, by
        apply Int32.toInt_inj.mp
        rw [nI_toInt (by omega)]
        omega, by omega⟩
      have := (q3 i).mp hi
      rw [e, if_neg (by rw [nI_leI (by omega) (by omega)]; omega), if_neg (by rw [nI_leI (by omega) (by omega)]; omega), nI_clamp (by omega)]
      exact hb i this.1 this.2
theorem trace_no {bo : Fn} (n : Int32) : (-nI 1) = m_X12_trace bo (nI 0) n := by
  rw [← trace_eq (b := bo) (bo := bo) (r := 0) (by decide) (fun i _ hi => by omega) n]
  by_cases c1 : n < 0
  · rw [if_pos c1]
  · rw [if_neg c1, if_pos]
    exact Int32.not_lt.mp c1
theorem a_count_1 {s : Us} {m : Ms} {K : Nat} (h : Rel s m K) (e : Us.ac s = Value.ref 21) (w : Int32) : m_X11_count_a1 (Sc.sz (Sf.c (Us.nw s))) (Sc.sg (Sf.c (Us.nw s))) (Sc.lg (Sf.c (Us.nw s))) (Tb.n (Sf.se (Us.nw s))) (Tb.n (Sf.pl (Us.nw s))) (Tb.n (Sf.bk (Us.nw s))) (Uc.ra (Us.k0 s)) w = m_X12_count (Ms.s m) (Ms.ra m) w := by
  have hh := h
  obtain ⟨lk, U, T, G, hs, h0, ht, hi, ha⟩ := h
  obtain ⟨r, r1, r2, r3, r4⟩ := ha.at (j := 0) e
  have r2' : Uc.ra (Us.k0 s) = nI r := r2
  rw [r2', r3]
  exact count_eq hh _ _
theorem a_trace_1 {s : Us} {m : Ms} {K : Nat} (h : Rel s m K) (e : Us.ac s = Value.ref 21) (w : Int32) : m_X11_trace_a1 (Uc.ra (Us.k0 s)) (Us.b0 s) w = m_X12_trace (Ms.bo m) (Ms.ra m) w := by
  obtain ⟨lk, U, T, G, hs, h0, ht, hi, ha⟩ := h
  obtain ⟨r, r1, r2, r3, r4⟩ := ha.at (j := 0) e
  have r2' : Uc.ra (Us.k0 s) = nI r := r2
  rw [r2', r3]
  exact trace_eq r1 r4 w
theorem a_count_2 {s : Us} {m : Ms} {K : Nat} (h : Rel s m K) (e : Us.ac s = Value.ref 22) (w : Int32) : m_X11_count_a2 (Sc.sz (Sf.c (Us.nw s))) (Sc.sg (Sf.c (Us.nw s))) (Sc.lg (Sf.c (Us.nw s))) (Tb.n (Sf.se (Us.nw s))) (Tb.n (Sf.pl (Us.nw s))) (Tb.n (Sf.bk (Us.nw s))) (Uc.ra (Us.k1 s)) w = m_X12_count (Ms.s m) (Ms.ra m) w := by
  have hh := h
  obtain ⟨lk, U, T, G, hs, h0, ht, hi, ha⟩ := h
  obtain ⟨r, r1, r2, r3, r4⟩ := ha.at (j := 1) e
  have r2' : Uc.ra (Us.k1 s) = nI r := r2
  rw [r2', r3]
  exact count_eq hh _ _
theorem a_trace_2 {s : Us} {m : Ms} {K : Nat} (h : Rel s m K) (e : Us.ac s = Value.ref 22) (w : Int32) : m_X11_trace_a2 (Uc.ra (Us.k1 s)) (Us.b1 s) w = m_X12_trace (Ms.bo m) (Ms.ra m) w := by
  obtain ⟨lk, U, T, G, hs, h0, ht, hi, ha⟩ := h
  obtain ⟨r, r1, r2, r3, r4⟩ := ha.at (j := 1) e
  have r2' : Uc.ra (Us.k1 s) = nI r := r2
  rw [r2', r3]
  exact trace_eq r1 r4 w
theorem a_count_3 {s : Us} {m : Ms} {K : Nat} (h : Rel s m K) (e : Us.ac s = Value.ref 23) (w : Int32) : m_X11_count_a3 (Sc.sz (Sf.c (Us.nw s))) (Sc.sg (Sf.c (Us.nw s))) (Sc.lg (Sf.c (Us.nw s))) (Tb.n (Sf.se (Us.nw s))) (Tb.n (Sf.pl (Us.nw s))) (Tb.n (Sf.bk (Us.nw s))) (Uc.ra (Us.k2 s)) w = m_X12_count (Ms.s m) (Ms.ra m) w := by
  have hh := h
  obtain ⟨lk, U, T, G, hs, h0, ht, hi, ha⟩ := h
  obtain ⟨r, r1, r2, r3, r4⟩ := ha.at (j := 2) e
  have r2' : Uc.ra (Us.k2 s) = nI r := r2
  rw [r2', r3]
  exact count_eq hh _ _
theorem a_trace_3 {s : Us} {m : Ms} {K : Nat} (h : Rel s m K) (e : Us.ac s = Value.ref 23) (w : Int32) : m_X11_trace_a3 (Uc.ra (Us.k2 s)) (Us.b2 s) w = m_X12_trace (Ms.bo m) (Ms.ra m) w := by
  obtain ⟨lk, U, T, G, hs, h0, ht, hi, ha⟩ := h
  obtain ⟨r, r1, r2, r3, r4⟩ := ha.at (j := 2) e
  have r2' : Uc.ra (Us.k2 s) = nI r := r2
  rw [r2', r3]
  exact trace_eq r1 r4 w
theorem a_count_4 {s : Us} {m : Ms} {K : Nat} (h : Rel s m K) (e : Us.ac s = Value.ref 24) (w : Int32) : m_X11_count_a4 (Sc.sz (Sf.c (Us.nw s))) (Sc.sg (Sf.c (Us.nw s))) (Sc.lg (Sf.c (Us.nw s))) (Tb.n (Sf.se (Us.nw s))) (Tb.n (Sf.pl (Us.nw s))) (Tb.n (Sf.bk (Us.nw s))) (Uc.ra (Us.k3 s)) w = m_X12_count (Ms.s m) (Ms.ra m) w := by
  have hh := h
  obtain ⟨lk, U, T, G, hs, h0, ht, hi, ha⟩ := h
  obtain ⟨r, r1, r2, r3, r4⟩ := ha.at (j := 3) e
  have r2' : Uc.ra (Us.k3 s) = nI r := r2
  rw [r2', r3]
  exact count_eq hh _ _
theorem a_trace_4 {s : Us} {m : Ms} {K : Nat} (h : Rel s m K) (e : Us.ac s = Value.ref 24) (w : Int32) : m_X11_trace_a4 (Uc.ra (Us.k3 s)) (Us.b3 s) w = m_X12_trace (Ms.bo m) (Ms.ra m) w := by
  obtain ⟨lk, U, T, G, hs, h0, ht, hi, ha⟩ := h
  obtain ⟨r, r1, r2, r3, r4⟩ := ha.at (j := 3) e
  have r2' : Uc.ra (Us.k3 s) = nI r := r2
  rw [r2', r3]
  exact trace_eq r1 r4 w
theorem a_count_5 {s : Us} {m : Ms} {K : Nat} (h : Rel s m K) (e : Us.ac s = Value.ref 25) (w : Int32) : m_X11_count_a5 (Sc.sz (Sf.c (Us.nw s))) (Sc.sg (Sf.c (Us.nw s))) (Sc.lg (Sf.c (Us.nw s))) (Tb.n (Sf.se (Us.nw s))) (Tb.n (Sf.pl (Us.nw s))) (Tb.n (Sf.bk (Us.nw s))) (Uc.ra (Us.k4 s)) w = m_X12_count (Ms.s m) (Ms.ra m) w := by
  have hh := h
  obtain ⟨lk, U, T, G, hs, h0, ht, hi, ha⟩ := h
  obtain ⟨r, r1, r2, r3, r4⟩ := ha.at (j := 4) e
  have r2' : Uc.ra (Us.k4 s) = nI r := r2
  rw [r2', r3]
  exact count_eq hh _ _
theorem a_trace_5 {s : Us} {m : Ms} {K : Nat} (h : Rel s m K) (e : Us.ac s = Value.ref 25) (w : Int32) : m_X11_trace_a5 (Uc.ra (Us.k4 s)) (Us.b4 s) w = m_X12_trace (Ms.bo m) (Ms.ra m) w := by
  obtain ⟨lk, U, T, G, hs, h0, ht, hi, ha⟩ := h
  obtain ⟨r, r1, r2, r3, r4⟩ := ha.at (j := 4) e
  have r2' : Uc.ra (Us.k4 s) = nI r := r2
  rw [r2', r3]
  exact trace_eq r1 r4 w
theorem a_count_6 {s : Us} {m : Ms} {K : Nat} (h : Rel s m K) (e : Us.ac s = Value.ref 26) (w : Int32) : m_X11_count_a6 (Sc.sz (Sf.c (Us.nw s))) (Sc.sg (Sf.c (Us.nw s))) (Sc.lg (Sf.c (Us.nw s))) (Tb.n (Sf.se (Us.nw s))) (Tb.n (Sf.pl (Us.nw s))) (Tb.n (Sf.bk (Us.nw s))) (Uc.ra (Us.k5 s)) w = m_X12_count (Ms.s m) (Ms.ra m) w := by
  have hh := h
  obtain ⟨lk, U, T, G, hs, h0, ht, hi, ha⟩ := h
  obtain ⟨r, r1, r2, r3, r4⟩ := ha.at (j := 5) e
  have r2' : Uc.ra (Us.k5 s) = nI r := r2
  rw [r2', r3]
  exact count_eq hh _ _
theorem a_trace_6 {s : Us} {m : Ms} {K : Nat} (h : Rel s m K) (e : Us.ac s = Value.ref 26) (w : Int32) : m_X11_trace_a6 (Uc.ra (Us.k5 s)) (Us.b5 s) w = m_X12_trace (Ms.bo m) (Ms.ra m) w := by
  obtain ⟨lk, U, T, G, hs, h0, ht, hi, ha⟩ := h
  obtain ⟨r, r1, r2, r3, r4⟩ := ha.at (j := 5) e
  have r2' : Uc.ra (Us.k5 s) = nI r := r2
  rw [r2', r3]
  exact trace_eq r1 r4 w
theorem a_count_7 {s : Us} {m : Ms} {K : Nat} (h : Rel s m K) (e : Us.ac s = Value.ref 27) (w : Int32) : m_X11_count_a7 (Sc.sz (Sf.c (Us.nw s))) (Sc.sg (Sf.c (Us.nw s))) (Sc.lg (Sf.c (Us.nw s))) (Tb.n (Sf.se (Us.nw s))) (Tb.n (Sf.pl (Us.nw s))) (Tb.n (Sf.bk (Us.nw s))) (Uc.ra (Us.k6 s)) w = m_X12_count (Ms.s m) (Ms.ra m) w := by
  have hh := h
  obtain ⟨lk, U, T, G, hs, h0, ht, hi, ha⟩ := h
  obtain ⟨r, r1, r2, r3, r4⟩ := ha.at (j := 6) e
  have r2' : Uc.ra (Us.k6 s) = nI r := r2
  rw [r2', r3]
  exact count_eq hh _ _
theorem a_trace_7 {s : Us} {m : Ms} {K : Nat} (h : Rel s m K) (e : Us.ac s = Value.ref 27) (w : Int32) : m_X11_trace_a7 (Uc.ra (Us.k6 s)) (Us.b6 s) w = m_X12_trace (Ms.bo m) (Ms.ra m) w := by
  obtain ⟨lk, U, T, G, hs, h0, ht, hi, ha⟩ := h
  obtain ⟨r, r1, r2, r3, r4⟩ := ha.at (j := 6) e
  have r2' : Uc.ra (Us.k6 s) = nI r := r2
  rw [r2', r3]
  exact trace_eq r1 r4 w
theorem a_count_0 {s : Us} {m : Ms} {K : Nat} (h : Rel s m K) (e : Us.ac s = Value.null) (w : Int32) : m_X11_count_a0 (Sc.sz (Sf.c (Us.nw s))) (Sc.sg (Sf.c (Us.nw s))) (Sc.lg (Sf.c (Us.nw s))) (Tb.n (Sf.se (Us.nw s))) (Tb.n (Sf.pl (Us.nw s))) (Tb.n (Sf.bk (Us.nw s))) w = m_X12_count (Ms.s m) (Ms.ra m) w := by
  have hh := h
  obtain ⟨lk, U, T, G, hs, h0, ht, hi, ha⟩ := h
  rw [ha.no e]
  exact count_eq hh _ _
theorem a_trace_0 {s : Us} {m : Ms} {K : Nat} (h : Rel s m K) (e : Us.ac s = Value.null) (w : Int32) : m_X11_trace_a0 w = m_X12_trace (Ms.bo m) (Ms.ra m) w := by
  obtain ⟨lk, U, T, G, hs, h0, ht, hi, ha⟩ := h
  rw [ha.no e]
  exact trace_no w
theorem cell_at {ce : Fn} {N j r : Nat} (hj : j < N) (hN : N ≤ 8) (hr : r < 4) : m_X8_cell ce (nI N) (nI j) (nI r) = ce (4 * j + r) := by
  unfold m_X8_cell
  rw [if_neg (show ¬ nI j < 0 from Int32.not_lt.mpr (nI_le (Nat.zero_le _) (by omega))), if_neg (by rw [nI_leI (by omega) (by omega)]; omega), if_neg (show ¬ nI r < 0 from Int32.not_lt.mpr (nI_le (Nat.zero_le _) (by omega))), if_neg (by rw [nI_leI (by omega) (by omega)]; omega), pk_mul, nI_add, nI_clamp (by omega)]
  congr 1
  omega
/-! as whom one heeds; what is looked at -/
def asO (k : Int32) : Nat → Int32 → Int32 → Nat
  | 0, _, _ => 0
  | n + 1, kd, i => if nI 7 ≤ i then 1 else (if kd < 0 then 1 else (if nI 7 ≤ kd then 1 else (if kd = k then 2 else asO k n (sAb kd.toNatClampNeg) (i + nI 1))))
def asV (v : Int32) (x : Nat) : Int32 := if x = 0 then 0 else if x = 1 then (-nI 6) else v
theorem as_l (a b : Fn) (z u k : Int32) : ∀ (n : Nat) (kd i : Int32), l_X11_as_36 a b z u k n kd i = asV (b u.toNatClampNeg) (asO k n kd i) := by
  intro n
  induction n with
  | zero => intro kd i; rfl
  | succ n ih =>
    intro kd i
    rw [q_X11_as_36]
    unfold asO
    (repeat' split) <;> first | rfl | exact ih _ _
theorem as_f : ∀ d, d < 7 → ∀ c, c < 7 → asO (nI c) 8 (nI d) (nI 0) = if m_X12_isUnder (nI d) (nI c) = 0 then 1 else 2 := by decide +kernel
theorem a_as {s : Us} {m : Ms} {K : Nat} (h : Rel s m K) (p k : Int32) : m_X11_as (Sc.kd (Sf.c (Us.nw s))) (Sc.vv (Sf.c (Us.nw s))) (Sc.sz (Sf.c (Us.nw s))) p k = m_X12_as (Ms.s m) p k := by
  obtain ⟨lk, U, T, G, ⟨u, t, g, kn, ro, le, tp, se, pl, bk, sq, ou, lr⟩, h0, ht, hi, ha⟩ := h
  unfold m_X11_as m_X12_as
  rw [isU u.1 u.2.2, show m_X7_has (Sc.sz (Sf.c (Us.nw s))) p = m_X7_has (nI U) p by rw [u.2.1]]
  by_cases c1 : m_X7_has (nI U) p = 0
  · rw [if_pos c1, if_pos c1]
  rw [if_neg c1, if_neg c1]
  obtain ⟨i, hi2, rfl⟩ := has_ex c1 u.1
  have u6 := u.1
  by_cases c2 : m_X12_in k (nI 0) (nI 6) = 0
  · rw [if_pos c2]
    by_cases c3 : k < 0
    · rw [if_pos c3]
    · rw [if_neg c3, if_neg]
      intro c4
      unfold m_X12_in at c2
      rw [if_neg (show ¬ k < nI 0 from c3), if_neg] at c2
      · exact absurd c2 (by decide)
      · rw [Int32.lt_iff_toInt_lt] at c4 ⊢
        have t6 : (nI 6).toInt = 6 := rfl
        have t7 : (nI 7).toInt = 7 := rfl
        omega
  rw [if_neg c2]
  obtain ⟨c, hc, rfl⟩ := in_ex (by decide) c2
  obtain ⟨r1, r2, r3, r4, r5, r6, r7⟩ := ro i hi2
  obtain ⟨d, hd, hd2⟩ := vp_in_of r5 (by decide)
  rw [if_neg (show ¬ nI c < 0 from Int32.not_lt.mpr (nI_le (Nat.zero_le _) (by omega))), if_pos (nI_lt (by omega) (by decide)), as_l, ck2 (by omega), ck2 (by omega), r1, r2, nI_clamp (by omega), hd2, as_f d hd c (by omega)]
  by_cases z : m_X12_isUnder (nI d) (nI c) = 0
  · rw [if_pos z, if_pos z]; rfl
  · rw [if_neg z, if_neg z]; rfl
theorem looked_l {f : Fn} {c : Sc} {tb : Tb} {U : Nat} (hU : U ≤ 6) (u2 : Sc.sz c = nI U) (hk : ∀ p, p < U → f (1 + p) = Sc.kn c p) {N : Nat} (hN : N ≤ 8) (n2 : Tb.n tb = nI N) (n3 : f 21 = nI N) (hc : ∀ j, j < N → ∃ u x, u < U ∧ x < 256 ∧ Tb.ce tb (4 * j) = nI u ∧ Tb.ce tb (4 * j + 1) = nI x ∧ f (96 + j) = nI u ∧ f (104 + j) = nI x) : ∀ (n k : Nat) (i : Int32), k ≤ N → n + k = 9 → i = nI k → l_X11_looked_2 (Sc.kn c) (Sc.sz c) (Tb.ce tb) (Tb.n tb) n i = l_X12_looked_2 f n i := by
  intro n
  induction n with
  | zero => intro k i h1 h2; omega
  | succ n ih =>
    intro k i h1 h2 h3
    rw [q_X11_looked_2, q_X12_looked_2, c21, n3, n2]
    by_cases d : nI N ≤ i
    · rw [if_pos d, if_pos d]
    · rw [if_neg d, if_neg d]
      rw [h3, nI_leI (by omega) (by omega)] at d
      obtain ⟨u, x, a1, a2, a3, a4, a5, a6⟩ := hc k (by omega)
      have cl0 : m_X8_cell (Tb.ce tb) (nI N) i (nI 0) = nI u := by rw [h3, cell_at (by omega) (by omega) (by omega)]; exact a3
      have cl1 : m_X8_cell (Tb.ce tb) (nI N) i (nI 1) = nI x := by rw [h3, cell_at (by omega) (by omega) (by omega)]; exact a4
      have e96 : (nI 96 + i).toNatClampNeg = 96 + k := by rw [h3]; exact ck2 (by omega)
      have e104 : (nI 104 + i).toNatClampNeg = 104 + k := by rw [h3]; exact ck2 (by omega)
      rw [cl0, cl1, e96, e104, a5, a6, ck2 (by omega), hk u a1, nI_clamp (by omega), u2, if_neg (has_1 a1 hU), ← u2, ← n2]
      by_cases z : Sc.kn c u = nI x
      · rw [if_pos z, if_pos z]
        exact ih (k + 1) _ (by omega) (by omega) (by rw [h3]; exact nI_add k 1)
      · rw [if_neg z, if_neg z]
theorem a_looked {s : Us} {m : Ms} {K : Nat} (h : Rel s m K) : m_X11_looked (Sc.kn (Sf.c (Us.nw s))) (Sc.sz (Sf.c (Us.nw s))) (Tb.ce (Sf.bk (Us.nw s))) (Tb.n (Sf.bk (Us.nw s))) = m_X12_looked (Ms.s m) := by
  obtain ⟨lk, U, T, G, ⟨u, t, g, kn, ro, le, tp, se, pl, bk, sq, ou, lr⟩, h0, ht, hi, ha⟩ := h
  obtain ⟨N, s1, s2, s3, s4, s5⟩ := bk
  refine looked_l u.1 u.2.1 (fun p hp => ?_) s1 s2 s3 s5 9 0 _ (Nat.zero_le _) rfl rfl
  obtain ⟨x, x1, x2, x3⟩ := kn p hp
  exact x3.trans x2.symm

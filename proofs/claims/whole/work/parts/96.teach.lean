/-! what to teach -/
theorem tg_eq : ∀ R, R < 729 → ∀ N, N < 4 → ∀ j, j < 3 → j < N → m_X11_taughtAt (nI R) (nI N) (nI j) = nI (R / 9 ^ (N - 1 - j) % 9) := by decide +kernel
theorem LeR.n {d : Nat} (h : d ≤ 8) : LeR d (nI d) := ⟨h, fun f hf => ⟨fun e => (nI_inj e (by omega) (by omega)).symm, fun e => by rw [e]⟩⟩
def HX (A : Int32 × Us) (B : Int32 × Ms) (m : Ms) (L : Lg) (sb : Us) : Prop := A.1 = B.1 ∧ Uv sb A.2 ∧ SK (wtA A.2 L) ∧ ∃ m2, B.2 = m_X12_goesBack m2 ∧ CK m2 (Lg.st L) (Lg.sz L) ∧ Ru m m2
theorem HX.tr {A : Int32 × Us} {B : Int32 × Ms} {m m' : Ms} {L : Lg} {sb : Us} (r : Ru m m') (h : HX A B m' L sb) : HX A B m L sb := by
  obtain ⟨w1, w2, w3, m2, w4, w5, w6⟩ := h
  exact ⟨w1, w2, w3, m2, w4, w5, r.tr w6⟩
theorem p9 : ∀ q, q < 3 → 0 < 9 ^ q ∧ 9 ^ q < 1000 ∧ nI (9 ^ q) / nI 9 = nI (pw9 q) ∧ ¬ nI (9 ^ q) ≤ 0 := by decide +kernel
theorem hb_l {L : Lg} {R N : Nat} (hN : N ≤ 3) (hR : R < 729) (sa sb : Us) (mm aa : Ms) (code zz : Int32) : ∀ (x j : Nat) (k line rest : Int32) (s1 : Us) (m1 : Ms) (U T : Nat) (X : Nat → Nat), j ≤ N → x + j = 4 → k = nI j → line = nI (pw9 (N - j)) → rest = nI (R % 9 ^ (N - j)) → Sy (wtA s1 L) m1 U T X → Uv sb s1 → T + (N - j) ≤ 1000000 → HX (l_X11_heldIfTaught_19 sa (nI R) (nI N) L x k s1) (l_X12_heldBehind_29 mm (nI N) code aa zz x line rest m1) m1 L sb := by
  intro x
  induction x with
  | zero => intro j k line rest s1 m1 U T X h1 h2; omega
  | succ x ih =>
    intro j k line rest s1 m1 U T X h1 h2 h3 h4 h5 sy uv hT
    rw [q_X11_heldIfTaught_19, q_X12_heldBehind_29]
    by_cases c : nI N ≤ k
    · rw [if_pos c]
      rw [h3, nI_leI (by omega) (by omega)] at c
      have e0 : N - j = 0 := by omega
      rw [e0] at h4
      rw [if_pos (by rw [h4]; decide)]
      have he := sy.held
      have he' : m_X7_held (Sc.kn (Sf.c (Us.ah s1))) (Sc.sz (Sf.c (Us.ah s1))) (Sc.ou (Sf.c (Us.ah s1))) = m_X12_heldByAll (Ms.s m1) := he
      exact ⟨he', uv, sy.sk, m1, rfl, sy.ck, Ru.rf m1⟩
    · rw [if_neg c]
      rw [h3, nI_leI (by omega) (by omega)] at c
      obtain ⟨q, hq, hq3⟩ : ∃ q, N - j = q + 1 ∧ q < 3 := ⟨N - j - 1, by omega, by omega⟩
      obtain ⟨p1, p2, p3, p4⟩ := p9 q hq3
      have el : line = nI (9 ^ q) := by rw [h4, hq]; rfl
      have hd9 : R / 9 ^ q % 9 < 9 := Nat.mod_lt _ (by decide)
      have hr1 : R % 9 ^ (q + 1) < 1000 := Nat.lt_of_le_of_lt (Nat.mod_le _ _) (by omega)
      have eC : m_X11_taughtAt (nI R) (nI N) k = nI (R / 9 ^ q % 9) := by
        rw [h3, tg_eq R hR N (by omega) j (by omega) (by omega), show N - 1 - j = q by omega]
      have eM : rest / line = nI (R / 9 ^ q % 9) := by
        rw [h5, el, hq, pk_div (by omega) p1 (by omega), Nat.pow_succ, Nat.mod_mul_right_div_self]
      have eR : rest - rest / line * line = nI (R % 9 ^ q) := by
        rw [h5, el, hq, pk_rem (by omega) p1 (by omega), Nat.mod_mod_of_dvd _ (Nat.pow_dvd_pow 9 (Nat.le_succ q))]
      rw [if_neg (by rw [el]; exact p4), eC, eR, eM]
      have eL : line / nI 9 = nI (pw9 q) := by rw [el]; exact p3
      rw [eL]
      obtain ⟨X', gs⟩ := sy.step (LeR.n (d := R / 9 ^ q % 9) (by omega)) (by omega)
      have ru := sy.rby (nI (R / 9 ^ q % 9))
      have tw := gl_goTide (s := wtA s1 L) (le := nI (R / 9 ^ q % 9)) rfl
      rw [bindv, bindv]
      refine HX.tr ru (ih (j + 1) _ _ _ _ _ U (T + 1) X' (by omega) (by omega) (by rw [h3]; exact nI_add j 1) (by rw [show N - (j + 1) = q by omega]) (by rw [show N - (j + 1) = q by omega]) ?_ (Uv.g rfl uv) (by omega))
      have et := wt_eta tw.1
      rw [← et] at gs
      exact gs
theorem teach_l {s0 : Us} {m0 : Ms} {G U T : Nat} (hs : RelS (Ms.s m0) (Us.nw s0) (slots s0) U T G) (h0 : L0 (Us.l0 s0)) {N : Nat} (hN1 : 1 ≤ N) (hN : N ≤ 3) {kk : Int32} (hkk : kk = (-nI 1) ∨ ∃ j, j ≤ 2 ∧ kk = nI j) (ss : Us) (mm r3 : Ms) : ∀ (x c : Nat) (mo be row : Int32) (s1 : Us) (m1 : Ms), c ≤ 9 ^ N → x + c = 730 → row = nI c → Iv s0 m0 (hold s0 G) s1 m1 → (∃ b, b < 9 ^ N ∧ be = nI b) → ((kk < nI N → (l_X11_teach_73 ss (nI N) kk (nI (9 ^ N)) x mo be row s1).1 = (l_X12_teach_60 mm (nI N) kk r3 (nI (9 ^ N)) x be mo row m1).1) ∧ (¬ kk < nI N → (l_X12_teach_60 mm (nI N) kk r3 (nI (9 ^ N)) x be mo row m1).1 = (-nI 5))) ∧ Iv s0 m0 (hold s0 G) (l_X11_teach_73 ss (nI N) kk (nI (9 ^ N)) x mo be row s1).2 (l_X12_teach_60 mm (nI N) kk r3 (nI (9 ^ N)) x be mo row m1).2 := by
  have u6 := hs.1.1
  have t9 := hs.2.1.1
  have n9 : 9 ^ N ≤ 729 := by
    have : N = 1 ∨ N = 2 ∨ N = 3 := by omega
    rcases this with rfl | rfl | rfl <;> decide
  intro x
  induction x with
  | zero => intro c mo be row s1 m1 h1 h2; omega
  | succ x ih =>
    intro c mo be row s1 m1 h1 h2 h3 iv hbe
    rw [q_X11_teach_73, q_X12_teach_60]
    obtain ⟨b, hb, eb⟩ := hbe
    by_cases d : nI (9 ^ N) ≤ row
    · rw [if_pos d, if_pos d]
      by_cases k1 : kk = (-nI 1)
      · rw [if_pos k1, if_pos k1]
        refine ⟨⟨fun _ => rfl, fun q => absurd ?_ q⟩, iv⟩
        rw [k1, Int32.lt_iff_toInt_lt, nI_toInt (by omega), show (-nI 1 : Int32).toInt = -1 by decide]
        omega
      · rw [if_neg k1, if_neg k1]
        rcases hkk with q | ⟨j, hj, ej⟩
        · exact absurd q k1
        · by_cases lt : j < N
          · have key : (if kk = nI N - nI 1 then nI 1 else (if kk = nI N - nI 2 then nI 9 else nI 81)) = nI (9 ^ (N - 1 - j)) := by
              rw [ej]
              have : N = 1 ∨ N = 2 ∨ N = 3 := by omega
              rcases this with rfl | rfl | rfl
              · have : j = 0 := by omega
                subst this; decide
              · have : j = 0 ∨ j = 1 := by omega
                rcases this with rfl | rfl <;> decide
              · have : j = 0 ∨ j = 1 ∨ j = 2 := by omega
                rcases this with rfl | rfl | rfl <;> decide
            obtain ⟨p1, p2, p3, p4⟩ := p9 (N - 1 - j) (by omega)
            have hbd : b / 9 ^ (N - 1 - j) < 1000 := Nat.lt_of_le_of_lt (Nat.div_le_self _ _) (by omega)
            rw [key]
            dsimp only [bindv]
            rw [if_neg (by rw [ej, nI_leI (by omega) (by omega)]; omega), eb, pk_div (by omega) p1 (by omega), pk_rem (by omega) (by decide) (by decide), ej, tg_eq b (by omega) N (by omega) j (by omega) lt]
            exact ⟨⟨fun _ => rfl, fun q => absurd (nI_lt lt (by omega)) q⟩, iv⟩
          · dsimp only [bindv]
            rw [if_pos (by rw [ej]; exact nI_le (by omega) (by omega))]
            refine ⟨⟨fun q => ?_, fun _ => rfl⟩, iv⟩
            rw [ej, nI_ltI (by omega) (by omega)] at q
            exact absurd q lt
    · rw [if_neg d, if_neg d]
      rw [h3, nI_leI (by omega) (by omega)] at d
      have sy := Iv.sy hs h0 iv
      have eC : m_X11_heldIfTaught s1 row (nI N) = l_X11_heldIfTaught_19 s1 (nI c) (nI N) (hold s0 G) 4 (nI 0) (toldS s1 (becR (Sf.c (Us.ah s1)) (Sf.c (Us.nw s1)))) := by
        have hL : holdL (Sc.lg (Sf.c (Us.nw s1))) (Us.l0 s1) (Us.l1 s1) (Us.l2 s1) (Us.l3 s1) (Us.l4 s1) (Us.l5 s1) = hold s0 G := by
          rw [Uk.hL iv.1, hs.2.2.1.2.1]; exact holdL_eq hs.G5
        unfold m_X11_heldIfTaught
        rw [hL, h3]
        rfl
      have eM : m_X12_heldBehind m1 (nI N) row = l_X12_heldBehind_29 m1 (nI N) (nI c) (m_X12_keeps m1) (nI (pw9 N)) 4 (nI (pw9 N)) (nI c) (m_X12_keeps m1) := by
        unfold m_X12_heldBehind
        have key : (if nI N = nI 1 then nI 1 else (if nI N = nI 2 then nI 9 else nI 81)) = nI (pw9 N) := by
          have : N = 1 ∨ N = 2 ∨ N = 3 := by omega
          rcases this with rfl | rfl | rfl <;> decide
        rw [key, h3]
        rfl
      have hx := hb_l (L := hold s0 G) hN (R := c) (by omega) s1 (toldS s1 (becR (Sf.c (Us.ah s1)) (Sf.c (Us.nw s1)))) m1 (m_X12_keeps m1) (nI c) (nI (pw9 N)) 4 0 (nI 0) (nI (pw9 N)) (nI c) (toldS s1 (becR (Sf.c (Us.ah s1)) (Sf.c (Us.nw s1)))) (m_X12_keeps m1) U T _ (Nat.zero_le _) rfl rfl rfl (by rw [Nat.sub_zero, Nat.mod_eq_of_lt (by omega)]) sy (Uv.rf _) (by omega)
      rw [← eC, ← eM] at hx
      generalize m_X11_heldIfTaught s1 row (nI N) = r at hx ⊢
      generalize m_X12_heldBehind m1 (nI N) row = q at hx ⊢
      obtain ⟨t1, uv, t3, m2, t4, t5, t6⟩ := hx
      have iv2 := iv.on uv iv.sce t3 t6 t5
      rw [← t4] at iv2
      simp only [bindv]
      rw [← t1]
      by_cases lo : r.1 ≤ mo
      · rw [if_pos lo, if_pos lo]
        exact ih (c + 1) _ _ _ _ _ (by omega) (by omega) (by rw [h3]; exact nI_add c 1) iv2 ⟨b, hb, eb⟩
      · rw [if_neg lo, if_neg lo]
        exact ih (c + 1) _ _ _ _ _ (by omega) (by omega) (by rw [h3]; exact nI_add c 1) iv2 ⟨c, by omega, h3⟩
theorem a_teach {s : Us} {m : Ms} {K : Nat} (h : Rel s m K) (hK : K < 2 ^ 30) (n k : Int32) : Ans (m_X11_teach s n k).1 (m_X12_teach m n k).1 (m_X11_teach s n k).2 (m_X12_teach m n k).2 K := by
  have hh := h
  obtain ⟨lk, U, T, G, hs, h0, ht, hi, ha⟩ := h
  obtain ⟨e1, e2, e3, e4⟩ := hh.start hK (Lg.st (hold s G)) (Lg.sz (hold s G))
  unfold m_X11_teach m_X12_teach
  have inE : ∀ (v lo hi : Int32), m_X12_in v lo hi = 0 ↔ (v < lo ∨ hi < v) := by
    intro v lo hi
    unfold m_X12_in
    by_cases c1 : v < lo
    · rw [if_pos c1]; exact ⟨fun _ => Or.inl c1, fun _ => rfl⟩
    · rw [if_neg c1]
      by_cases c2 : hi < v
      · rw [if_pos c2]; exact ⟨fun _ => Or.inr c2, fun _ => rfl⟩
      · rw [if_neg c2]
        refine ⟨fun q => absurd q (by decide), fun q => ?_⟩
        rcases q with q | q
        · exact absurd q c1
        · exact absurd q c2
  have t1 : (-nI 1 : Int32).toInt = -1 := by decide
  have i1 : (nI 1).toInt = 1 := rfl
  have i2 : (nI 2).toInt = 2 := rfl
  have i3 : (nI 3).toInt = 3 := rfl
  by_cases c1 : m_X12_in k (-nI 1) (nI 2) = 0
  · rw [if_pos c1]
    have c1' := (inE _ _ _).mp c1
    by_cases d1 : k < (-nI 1)
    · rw [if_pos d1]; exact ⟨rfl, K, by omega, hh⟩
    · rw [if_neg d1, if_neg]
      · exact ⟨rfl, K, by omega, hh⟩
      · rcases c1' with q | q
        · exact absurd q d1
        · exact Int32.not_le.mpr q
  rw [if_neg c1]
  have c1' : ¬ (k < (-nI 1) ∨ nI 2 < k) := fun q => c1 ((inE _ _ _).mpr q)
  rw [if_neg (fun q => c1' (Or.inl q)), if_pos (Int32.not_lt.mp (fun q => c1' (Or.inr q)))]
  by_cases c2 : m_X12_in n (nI 1) (nI 3) = 0
  · rw [if_pos c2]
    have c2' := (inE _ _ _).mp c2
    by_cases d1 : n < nI 1
    · rw [if_pos d1]; exact ⟨rfl, K, by omega, hh⟩
    · rw [if_neg d1, if_neg]
      · exact ⟨rfl, K, by omega, hh⟩
      · rcases c2' with q | q
        · exact absurd q d1
        · exact Int32.not_le.mpr q
  rw [if_neg c2]
  have c2' : ¬ (n < nI 1 ∨ nI 3 < n) := fun q => c2 ((inE _ _ _).mpr q)
  rw [if_neg (fun q => c2' (Or.inl q)), if_pos (Int32.not_lt.mp (fun q => c2' (Or.inr q)))]
  obtain ⟨N, hN1, hN3, rfl⟩ : ∃ N, 1 ≤ N ∧ N ≤ 3 ∧ n = nI N := by
    have a1 : ¬ n < nI 1 := fun q => c2' (Or.inl q)
    have a2 : ¬ nI 3 < n := fun q => c2' (Or.inr q)
    rw [Int32.lt_iff_toInt_lt, i1] at a1
    rw [Int32.lt_iff_toInt_lt, i3] at a2
    refine ⟨n.toInt.toNat, by omega, by omega, ?_⟩
    apply Int32.toInt_inj.mp
    rw [nI_toInt (by omega)]
    omega
  have hkk : k = (-nI 1) ∨ ∃ j, j ≤ 2 ∧ k = nI j := by
    have a1 : ¬ k < (-nI 1) := fun q => c1' (Or.inl q)
    have a2 : ¬ nI 2 < k := fun q => c1' (Or.inr q)
    rw [Int32.lt_iff_toInt_lt, t1] at a1
    rw [Int32.lt_iff_toInt_lt, i2] at a2
    by_cases z : k.toInt = -1
    · exact Or.inl (Int32.toInt_inj.mp (by rw [z, t1]))
    · refine Or.inr ⟨k.toInt.toNat, by omega, ?_⟩
      apply Int32.toInt_inj.mp
      rw [nI_toInt (by omega)]
      omega
  have e9 : (if nI N = nI 1 then nI 9 else (if nI N = nI 2 then nI 81 else nI 729)) = nI (9 ^ N) := by
    have : N = 1 ∨ N = 2 ∨ N = 3 := by omega
    rcases this with rfl | rfl | rfl <;> decide
  rw [e9]
  generalize m_X12_looksAnew m = m1 at e1 e2 e3 e4 ⊢
  simp only [bindv]
  have hs1 : RelS (Ms.s m1) (Us.nw s) (slots s) U T G := by rw [e1]; exact hs
  have p9N : 0 < 9 ^ N := Nat.pow_pos (by decide)
  have key := teach_l hs1 h0 hN1 hN3 hkk s m m1 730 0 (-nI 1) (nI 0) (nI 0) (fgtS s) m1 (Nat.zero_le _) rfl rfl (Iv.start e2) ⟨0, p9N, rfl⟩
  obtain ⟨⟨k1, k2⟩, iv⟩ := key
  by_cases lt : k < nI N
  · rw [if_pos lt]
    have k1' := k1 lt
    exact ⟨k1', K + 1, by omega, iv.rel hh e4 e3⟩
  · rw [if_neg lt]
    have k2' := k2 lt
    exact ⟨k2'.symm, K + 1, by omega, hh.same (Uk.rf s) (e4.tr iv.2.2.1) (e3.lf iv.2.2.2.2)⟩

/-! words of both; who is out; calls that change one thing -/
theorem isF (x : Int32) : m_X11_isFact x.toInt64 = m_X12_isFact x := by
  unfold m_X11_isFact m_X12_isFact m_X12_in
  have t0 : (nI 0).toInt = 0 := rfl
  have t7 : (nI 7).toInt = 7 := rfl
  have l0 : (lN 0).toInt = 0 := rfl
  have l8 : (8 : Int64).toInt = 8 := rfl
  have tx : x.toInt64.toInt = x.toInt := Int32.toInt_toInt64 x
  by_cases c1 : x < nI 0
  · rw [if_pos c1, if_pos (by rw [lg_cmp_lt, Int64.lt_iff_toInt_lt, tx, l0]; rw [Int32.lt_iff_toInt_lt, t0] at c1; exact c1)]
  · rw [if_neg c1, if_neg (by rw [lg_cmp_lt, Int64.lt_iff_toInt_lt, tx, l0]; rw [Int32.lt_iff_toInt_lt, t0] at c1; exact c1)]
    by_cases c2 : nI 7 < x
    · rw [if_pos c2, if_pos (by rw [lg_cmp_ge, Int64.le_iff_toInt_le, tx, l8]; rw [Int32.lt_iff_toInt_lt, t7] at c2; omega)]
    · rw [if_neg c2, if_neg (by rw [lg_cmp_ge, Int64.le_iff_toInt_le, tx, l8]; rw [Int32.lt_iff_toInt_lt, t7] at c2; omega)]
theorem fact_ex {x : Int32} (h : ¬ m_X12_isFact x = 0) : ∃ k, k < 8 ∧ x = nI k := by
  obtain ⟨k, hk, e⟩ := in_ex (N := 7) (by decide) h
  exact ⟨k, by omega, e⟩
theorem ob_t : ∀ x, x < 64 → ∀ p, p < 6 → outB (nI x) p = x.testBit p := by decide +kernel
theorem po_0 : ∀ x, x < 64 → ∀ i, i < 6 → (nI x &&& ((nI 1 <<< (nI i &&& 31)) ^^^ (-nI 1))) = nI (if x.testBit i then x - 2 ^ i else x) := by decide +kernel
theorem po_1 : ∀ x, x < 64 → ∀ i, i < 6 → (nI x ||| (nI 1 <<< (nI i &&& 31))) = nI (if x.testBit i then x else x + 2 ^ i) := by decide +kernel
theorem po_l0 : ∀ U, U ≤ 6 → ∀ x, x < 64 → x < 2 ^ U → ∀ i, i < 6 → i < U → (if x.testBit i then x - 2 ^ i else x) < 2 ^ U := by decide +kernel
theorem po_l1 : ∀ U, U ≤ 6 → ∀ x, x < 64 → x < 2 ^ U → ∀ i, i < 6 → i < U → (if x.testBit i then x else x + 2 ^ i) < 2 ^ U := by decide +kernel
theorem po_t0 : ∀ x, x < 64 → ∀ i, i < 6 → ∀ p, p < 6 → (if x.testBit i then x - 2 ^ i else x).testBit p = if p = i then false else x.testBit p := by decide +kernel
theorem po_t1 : ∀ x, x < 64 → ∀ i, i < 6 → ∀ p, p < 6 → (if x.testBit i then x else x + 2 ^ i).testBit p = if p = i then true else x.testBit p := by decide +kernel
theorem po_n : ∀ U, U < 6 → ∀ x, x < 64 → x < 2 ^ U → x.testBit U = false := by decide +kernel
theorem pw_64 : ∀ U, U ≤ 6 → 2 ^ U ≤ 64 := by decide
/-- putting one out, or in -/
theorem putOut_eq {c : Sc} {U x i : Nat} {b : Int32} (hU : U ≤ 6) (hx : x < 2 ^ U) (hou : Sc.ou c = nI x) (hi : i < U) : ∃ y, y < 2 ^ U ∧ m_X7_putOut c (nI i) b = (Sc.kd c, Sc.vv c, Sc.kn c, Sc.rw c, Sc.le c, Sc.sz c, nI y, Sc.ti c, Sc.sg c, Sc.lg c) ∧ ∀ p, p < 6 → outB (nI y) p = if p = i then decide (¬ b = 0) else outB (nI x) p := by
  have p64 := pw_64 U hU
  unfold m_X7_putOut
  dsimp only [bindv]
  rw [hou]
  by_cases c : b = 0
  · have l := po_l0 U hU x (by omega) hx i (by omega) hi
    refine ⟨_, l, ?_, fun p hp => ?_⟩
    · rw [if_pos c, po_0 x (by omega) i (by omega)]
    · rw [ob_t _ (by omega) p hp, ob_t x (by omega) p hp, po_t0 x (by omega) i (by omega) p hp]
      simp [c]
  · have l := po_l1 U hU x (by omega) hx i (by omega) hi
    refine ⟨_, l, ?_, fun p hp => ?_⟩
    · rw [if_neg c, po_1 x (by omega) i (by omega)]
    · rw [ob_t _ (by omega) p hp, ob_t x (by omega) p hp, po_t1 x (by omega) i (by omega) p hp]
      simp [c]
theorem c19 : (nI 19).toNatClampNeg = 19 := nI_clamp (by decide)
theorem c21 : (nI 21).toNatClampNeg = 21 := nI_clamp (by decide)
theorem ck2 {a b : Nat} (h : a + b < 2 ^ 31) : (nI a + nI b).toNatClampNeg = a + b := by rw [nI_add, nI_clamp h]
theorem nar_k : ∀ k, k < 128 → vp_nar .byte (nI k).toInt8.toInt32 = nI k := by decide +kernel
theorem fit_k : ∀ k, k < 128 → fits .byte (.int (nI k)) = true := by decide +kernel
theorem plan_up {f f' : Fn} {U : Nat} (hU : U ≤ 6) (h : f 17 = nI U) (h' : f' 17 = nI (U + 1)) {w n : Int32} (q : ¬ m_X12_isPlan f w n = 0) : ¬ m_X12_isPlan f' w n = 0 := by
  have up : ∀ p, ¬ m_X12_isUrchin f p = 0 → ¬ m_X12_isUrchin f' p = 0 := by
    intro p a
    rw [isU hU h] at a
    obtain ⟨k, hk, rfl⟩ := has_ex a hU
    unfold m_X12_isUrchin m_X12_in
    rw [c17, h', if_neg (show ¬ nI k < nI 0 from Int32.not_lt.mpr (nI_le (Nat.zero_le _) (by omega))), pk_sub (by omega), if_neg]
    · decide
    · rw [nI_ltI (by omega) (by omega)]; omega
  have arm : ∀ n, ¬ (if n < 0 then nI 0 else (if m_X12_isUrchin f (n / nI 10) = 0 then nI 0 else (if m_X12_isFact (n - n / nI 10 * nI 10) = 0 then nI 0 else nI 1))) = 0 → ¬ (if n < 0 then nI 0 else (if m_X12_isUrchin f' (n / nI 10) = 0 then nI 0 else (if m_X12_isFact (n - n / nI 10 * nI 10) = 0 then nI 0 else nI 1))) = 0 := by
    intro n a
    by_cases b1 : n < 0
    · rw [if_pos b1] at a; exact absurd rfl a
    · rw [if_neg b1] at a ⊢
      by_cases b2 : m_X12_isUrchin f (n / nI 10) = 0
      · rw [if_pos b2] at a; exact absurd rfl a
      · rw [if_neg b2] at a
        rw [if_neg (up _ b2)]; exact a
  unfold m_X12_isPlan at q ⊢
  by_cases a1 : w = 0
  · rw [if_pos a1]; decide
  · rw [if_neg a1] at q ⊢
    by_cases a2 : m_X12_in w (nI 1) (nI 2) = 0
    · rw [if_pos a2] at q ⊢
      by_cases a3 : w = nI 3
      · rw [if_pos a3] at q ⊢; exact arm n q
      · rw [if_neg a3] at q; exact absurd rfl q
    · rw [if_neg a2] at q ⊢
      by_cases a4 : m_X12_isUrchin f' n = 0
      · rw [if_pos a4]
        have a5 : m_X12_isUrchin f n = 0 := by
          by_cases a6 : m_X12_isUrchin f n = 0
          · exact a6
          · exact absurd a4 (up n a6)
        rw [if_pos a5] at q
        by_cases a3 : w = nI 3
        · rw [if_pos a3] at q ⊢; exact arm n q
        · rw [if_neg a3] at q; exact absurd rfl q
      · rw [if_neg a4]; decide
theorem a_feed {s : Us} {m : Ms} {K : Nat} (h : Rel s m K) (x : Int32) : (m_X11_feed s x).1 = (m_X12_feed m x).1 ∧ Rel (m_X11_feed s x).2 (m_X12_feed m x).2 K := by
  have hh := h
  obtain ⟨lk, U, T, G, ⟨u, t, g, kn, ro, le, tp, se, pl, bk, sq, ou, lr⟩, h0, ht, hi, ha⟩ := h
  obtain ⟨n, n1, n2, n3, n4⟩ := tp
  unfold m_X11_feed m_X12_feed
  rw [c22, n2, n3]
  by_cases c1 : m_X12_in x (nI 0) (nI 127) = 0
  · rw [if_pos c1]
    by_cases c2 : x < 0
    · rw [if_pos c2]; exact ⟨rfl, hh⟩
    · rw [if_neg c2, if_neg]
      · exact ⟨rfl, hh⟩
      · intro c3
        unfold m_X12_in at c1
        rw [if_neg (show ¬ x < nI 0 from c2), if_neg (Int32.not_lt.mpr c3)] at c1
        exact absurd c1 (by decide)
  · rw [if_neg c1]
    obtain ⟨k, hk, rfl⟩ := in_ex (by decide) c1
    rw [if_neg (show ¬ nI k < 0 from Int32.not_lt.mpr (nI_le (Nat.zero_le _) (by omega))), if_pos (nI_le hk (by decide))]
    by_cases z : n = 100
    · subst z
      rw [if_neg (by decide), if_pos rfl]; exact ⟨rfl, hh⟩
    · rw [if_pos (nI_lt (by omega) (by decide)), if_neg (fun q => z (nI_inj q (by omega) (by decide)))]
      have e112 : (nI 112 + nI n).toNatClampNeg = 112 + n := ck2 (by omega)
      have en : (nI n).toNatClampNeg = n := nI_clamp (by omega)
      have ev : vp_nar .byte (nI k).toInt8.toInt32 = nI k := nar_k k (by omega)
      rw [e112, en, ev]
      have f22 : upd (Ms.s m) (112 + n) (nI k) 22 = nI n := by rw [pk_un (by omega)]; exact n3
      rw [f22, nI_add]
      refine ⟨by rw [pk_us], lk, Rq.nw (s := s) rfl rfl rfl rfl rfl rfl h0 ht hi ha (Nat.le_refl G) (U' := U) (T' := T) ?_⟩
      have e : ∀ j, (j ≠ 22 ∧ j ≠ 112 + n) → upd (upd (Ms.s m) (112 + n) (nI k)) 22 (nI (n + 1)) j = Ms.s m j := fun j hj => by rw [pk_un (by omega), pk_un (by omega)]
      show RelS (upd (upd (Ms.s m) (112 + n) (nI k)) 22 (nI (n + 1))) _ _ _ _ _
      refine ⟨⟨u.1, u.2.1, (e 17 (by omega)).trans u.2.2⟩, ⟨t.1, t.2.1, (e 0 (by omega)).trans t.2.2⟩, ⟨g.1, g.2.1, (e 18 (by omega)).trans g.2.2.1, (e 23 (by omega)).trans g.2.2.2⟩, r4_cf u.1 kn (fun j a b => e j (by omega)), r5_cf u.1 ro (fun j a b c => e j (by omega)), r6_cf le (fun j a b => e j (by omega)), ⟨n + 1, by omega, rfl, by exact pk_us, fun j hj => ?_⟩, r8_cf se (Nat.le_refl U) (e 19 (by omega)) (fun j a b => e j (by omega)), r9_cf pl (fun w n q => by rw [plan_cf (e 17 (by omega))]; exact q) (e 20 (by omega)) (fun j a b => e j (by omega)), r10_cf bk (Nat.le_refl U) (e 21 (by omega)) (fun j a b => e j (by omega)), sq, ⟨fun j => ?_, ou.2⟩, r13_cf g.1 lr (fun j a => e j (by omega))⟩
      · by_cases y : j = n
        · subst y
          refine ⟨k, by omega, pk_us, ?_⟩
          show upd (upd (Ms.s m) (112 + j) (nI k)) 22 (nI (j + 1)) (112 + j) = nI k
          rw [pk_un (by omega), pk_us]
        · obtain ⟨ch, a1, a2, a3⟩ := n4 j (by omega)
          refine ⟨ch, a1, ?_, ?_⟩
          · show upd (Sf.tp (Us.nw s)) n (nI k) j = nI ch
            rw [pk_un y]; exact a2
          · show upd (upd (Ms.s m) (112 + n) (nI k)) 22 (nI (n + 1)) (112 + j) = nI ch
            rw [e _ (by omega)]; exact a3
      · show fits .byte (.int (upd (Sf.tp (Us.nw s)) n (nI k) j)) = true
        by_cases y : j = n
        · rw [y, pk_us]; exact fit_k k (by omega)
        · rw [pk_un y]; exact ou.1 j
theorem a_row {s : Us} {m : Ms} {K : Nat} (h : Rel s m K) (p k n : Int32) : (m_X11_row s p k n).1 = (m_X12_row m p k n).1 ∧ Rel (m_X11_row s p k n).2 (m_X12_row m p k n).2 K := by
  have hh := h
  obtain ⟨lk, U, T, G, ⟨u, t, g, kn, ro, le, tp, se, pl, bk, sq, ou, lr⟩, h0, ht, hi, ha⟩ := h
  unfold m_X11_row m_X12_row
  rw [isU u.1 u.2.2, show m_X7_has (Sc.sz (Sf.c (Us.nw s))) p = m_X7_has (nI U) p by rw [u.2.1], isL, show m_X11_isNumber n = m_X12_in n (nI 0) (nI 9) from rfl]
  by_cases c1 : m_X7_has (nI U) p = 0
  · rw [if_pos c1, if_pos c1]; exact ⟨rfl, hh⟩
  · rw [if_neg c1, if_neg c1]
    obtain ⟨i, hi2, rfl⟩ := has_ex c1 u.1
    by_cases c2 : m_X12_in k (nI 0) (nI 3) = 0
    · rw [if_pos c2, if_pos c2]; exact ⟨rfl, hh⟩
    · rw [if_neg c2, if_neg c2]
      obtain ⟨q, hq, rfl⟩ := in_ex (by decide) c2
      by_cases c3 : m_X12_in n (nI 0) (nI 9) = 0
      · rw [if_pos c3, if_pos c3]; exact ⟨rfl, hh⟩
      · rw [if_neg c3, if_neg c3]
        obtain ⟨v, hv, rfl⟩ := in_ex (by decide) c3
        obtain ⟨r1, r2, r3, r4, r5, r6, r7⟩ := ro i hi2
        have u6 := u.1
        have e24 : (nI 24 + nI i).toNatClampNeg = 24 + i := ck2 (by omega)
        have ei : (nI i).toNatClampNeg = i := nI_clamp (by omega)
        have e36 : ((nI 36 + (nI 4 * nI i)) + nI q).toNatClampNeg = 36 + 4 * i + q := by rw [pk_mul, nI_add, nI_add, nI_clamp (by omega)]
        have e4 : ((nI i * nI 4) + nI q).toNatClampNeg = i * 4 + q := by rw [pk_mul, nI_add, nI_clamp (by omega)]
        rw [e24, ei, e4, r1]
        by_cases c4 : Sc.kd (Sf.c (Us.nw s)) i = nI 6
        · rw [if_pos c4, if_pos c4]
          unfold m_X12_becomes
          dsimp only [bindv]
          rw [e36]
          refine ⟨(r3 q (by omega)).symm, lk, Rq.nw (s := s) rfl rfl rfl rfl rfl rfl h0 ht hi ha (Nat.le_refl G) (U' := U) (T' := T) ?_⟩
          have e : ∀ j, j ≠ 36 + 4 * i + q → upd (Ms.s m) (36 + 4 * i + q) (nI v) j = Ms.s m j := fun j hj => pk_un hj
          show RelS (upd (Ms.s m) (36 + 4 * i + q) (nI v)) _ _ _ _ _
          refine ⟨⟨u.1, u.2.1, (e 17 (by omega)).trans u.2.2⟩, ⟨t.1, t.2.1, (e 0 (by omega)).trans t.2.2⟩, ⟨g.1, g.2.1, (e 18 (by omega)).trans g.2.2.1, (e 23 (by omega)).trans g.2.2.2⟩, r4_cf u.1 kn (fun j a b => e j (by omega)), fun p hp => ?_, r6_cf le (fun j a b => e j (by omega)), r7_cf tp (e 22 (by omega)) (fun j a b => e j (by omega)), r8_cf se (Nat.le_refl U) (e 19 (by omega)) (fun j a b => e j (by omega)), r9_cf pl (fun w n q => by rw [plan_cf (e 17 (by omega))]; exact q) (e 20 (by omega)) (fun j a b => e j (by omega)), r10_cf bk (Nat.le_refl U) (e 21 (by omega)) (fun j a b => e j (by omega)), sq, ou, r13_cf g.1 lr (fun j a => e j (by omega))⟩
          obtain ⟨s1, s2, s3, s4, s5, s6, s7⟩ := ro p hp
          refine ⟨(e _ (by omega)).trans s1, (e _ (by omega)).trans s2, fun k2 hk2 => ?_, (e _ (by omega)).trans s4, s5, s6, fun k2 hk2 => ?_⟩
          · show upd (Ms.s m) (36 + 4 * i + q) (nI v) (36 + 4 * p + k2) = upd (Sc.rw (Sf.c (Us.nw s))) (i * 4 + q) (nI v) (p * 4 + k2)
            by_cases z : p * 4 + k2 = i * 4 + q
            · rw [z, pk_us, show 36 + 4 * p + k2 = 36 + 4 * i + q by omega, pk_us]
            · rw [pk_un z, pk_un (by omega)]; exact s3 k2 hk2
          · show ∃ w, w ≤ 9 ∧ upd (Sc.rw (Sf.c (Us.nw s))) (i * 4 + q) (nI v) (p * 4 + k2) = nI w
            by_cases z : p * 4 + k2 = i * 4 + q
            · rw [z, pk_us]; exact ⟨v, hv, rfl⟩
            · rw [pk_un z]; exact s7 k2 hk2
        · rw [if_neg c4, if_neg c4]; exact ⟨rfl, hh⟩
theorem a_learn {s : Us} {m : Ms} {K : Nat} (h : Rel s m K) (p x : Int32) : (m_X11_learn s p x).1 = (m_X12_learn m p x).1 ∧ Rel (m_X11_learn s p x).2 (m_X12_learn m p x).2 K := by
  have hh := h
  obtain ⟨lk, U, T, G, ⟨u, t, g, kn, ro, le, tp, se, pl, bk, sq, ou, lr⟩, h0, ht, hi, ha⟩ := h
  unfold m_X11_learn m_X12_learn
  rw [isU u.1 u.2.2, show m_X7_has (Sc.sz (Sf.c (Us.nw s))) p = m_X7_has (nI U) p by rw [u.2.1], show m_X11_isSet x = m_X12_in x (nI 0) (nI 255) from rfl]
  by_cases c1 : m_X7_has (nI U) p = 0
  · rw [if_pos c1, if_pos c1]; exact ⟨rfl, hh⟩
  · rw [if_neg c1, if_neg c1]
    obtain ⟨i, hi2, rfl⟩ := has_ex c1 u.1
    have u6 := u.1
    by_cases c3 : m_X12_in x (nI 0) (nI 255) = 0
    · rw [if_pos c3, if_pos c3]; exact ⟨rfl, hh⟩
    · rw [if_neg c3, if_neg c3]
      obtain ⟨v, hv, rfl⟩ := in_ex (by decide) c3
      obtain ⟨y, y1, y2, y3⟩ := kn i hi2
      have e1 : (nI 1 + nI i).toNatClampNeg = 1 + i := ck2 (by omega)
      have ei : (nI i).toNatClampNeg = i := nI_clamp (by omega)
      unfold m_X12_becomes
      dsimp only [bindv]
      rw [ei, e1]
      refine ⟨y2.trans y3.symm, lk, Rq.nw (s := s) rfl rfl rfl rfl rfl rfl h0 ht hi ha (Nat.le_refl G) (U' := U) (T' := T) ?_⟩
      have e : ∀ j, j ≠ 1 + i → upd (Ms.s m) (1 + i) (nI v) j = Ms.s m j := fun j hj => pk_un hj
      show RelS (upd (Ms.s m) (1 + i) (nI v)) _ _ _ _ _
      refine ⟨⟨u.1, u.2.1, (e 17 (by omega)).trans u.2.2⟩, ⟨t.1, t.2.1, (e 0 (by omega)).trans t.2.2⟩, ⟨g.1, g.2.1, (e 18 (by omega)).trans g.2.2.1, (e 23 (by omega)).trans g.2.2.2⟩, fun p hp => ?_, r5_cf u.1 ro (fun j a b c => e j (by omega)), r6_cf le (fun j a b => e j (by omega)), r7_cf tp (e 22 (by omega)) (fun j a b => e j (by omega)), r8_cf se (Nat.le_refl U) (e 19 (by omega)) (fun j a b => e j (by omega)), r9_cf pl (fun w n q => by rw [plan_cf (e 17 (by omega))]; exact q) (e 20 (by omega)) (fun j a b => e j (by omega)), r10_cf bk (Nat.le_refl U) (e 21 (by omega)) (fun j a b => e j (by omega)), sq, ou, r13_cf g.1 lr (fun j a => e j (by omega))⟩
      by_cases z : p = i
      · subst z
        exact ⟨v, by omega, by exact pk_us, by exact pk_us⟩
      · obtain ⟨w, w1, w2, w3⟩ := kn p hp
        exact ⟨w, w1, by refine Eq.trans ?_ w2; exact pk_un z, (e _ (by omega)).trans w3⟩
theorem a_beach {s : Us} {m : Ms} {K : Nat} (h : Rel s m K) (p b : Int32) : (m_X11_beach s p b).1 = (m_X12_beach m p b).1 ∧ Rel (m_X11_beach s p b).2 (m_X12_beach m p b).2 K := by
  have hh := h
  obtain ⟨lk, U, T, G, ⟨u, t, g, kn, ro, le, tp, se, pl, bk, sq, ou, lr⟩, h0, ht, hi, ha⟩ := h
  unfold m_X11_beach m_X12_beach
  rw [isU u.1 u.2.2, show m_X7_has (Sc.sz (Sf.c (Us.nw s))) p = m_X7_has (nI U) p by rw [u.2.1]]
  by_cases c1 : m_X7_has (nI U) p = 0
  · rw [if_pos c1, if_pos c1]; exact ⟨rfl, hh⟩
  · rw [if_neg c1, if_neg c1]
    obtain ⟨i, hi2, rfl⟩ := has_ex c1 u.1
    have u6 := u.1
    obtain ⟨of, x, x1, x2⟩ := ou
    obtain ⟨y, y1, y2, y3⟩ := putOut_eq (b := b) u.1 x1 x2 hi2
    obtain ⟨r1, r2, r3, r4, r5⟩ := ro i hi2
    have e7 : (nI 7 + nI i).toNatClampNeg = 7 + i := ck2 (by omega)
    unfold m_X12_becomes
    dsimp only [bindv]
    rw [y2, e7, outB_b]
    refine ⟨?_, lk, Rq.nw (s := s) rfl rfl rfl rfl rfl rfl h0 ht hi ha (Nat.le_refl G) (U' := U) (T' := T) ?_⟩
    · rw [r4]
      cases outB (Sc.ou (Sf.c (Us.nw s))) i <;> rfl
    · have e : ∀ j, j ≠ 7 + i → upd (Ms.s m) (7 + i) (if b = 0 then nI 0 else nI 1) j = Ms.s m j := fun j hj => pk_un hj
      show RelS (upd (Ms.s m) (7 + i) (if b = 0 then nI 0 else nI 1)) _ _ _ _ _
      refine ⟨⟨u.1, u.2.1, (e 17 (by omega)).trans u.2.2⟩, ⟨t.1, t.2.1, (e 0 (by omega)).trans t.2.2⟩, ⟨g.1, g.2.1, (e 18 (by omega)).trans g.2.2.1, (e 23 (by omega)).trans g.2.2.2⟩, r4_cf u.1 kn (fun j a b => e j (by omega)), fun p hp => ?_, r6_cf le (fun j a b => e j (by omega)), r7_cf tp (e 22 (by omega)) (fun j a b => e j (by omega)), r8_cf se (Nat.le_refl U) (e 19 (by omega)) (fun j a b => e j (by omega)), r9_cf pl (fun w n q => by rw [plan_cf (e 17 (by omega))]; exact q) (e 20 (by omega)) (fun j a b => e j (by omega)), r10_cf bk (Nat.le_refl U) (e 21 (by omega)) (fun j a b => e j (by omega)), sq, ⟨of, y, y1, rfl⟩, r13_cf g.1 lr (fun j a => e j (by omega))⟩
      obtain ⟨s1, s2, s3, s4, s5⟩ := ro p hp
      refine ⟨(e _ (by omega)).trans s1, (e _ (by omega)).trans s2, fun k2 hk2 => (e _ (by omega)).trans (s3 k2 hk2), ?_, s5⟩
      show upd (Ms.s m) (7 + i) (if b = 0 then nI 0 else nI 1) (7 + p) = b2i (outB (nI y) p)
      rw [y3 p (by omega)]
      by_cases z : p = i
      · subst z
        rw [pk_us, if_pos rfl]
        by_cases w : b = 0
        · rw [if_pos w]; simp [w, b2i]
        · rw [if_neg w]; simp [w, b2i]
      · rw [pk_un (by omega), if_neg z, s4, x2]
theorem a_lesson {s : Us} {m : Ms} {K : Nat} (h : Rel s m K) (k f : Int32) : (m_X11_lesson s k f).1 = (m_X12_lesson m k f).1 ∧ Rel (m_X11_lesson s k f).2 (m_X12_lesson m k f).2 K := by
  have hh := h
  obtain ⟨lk, U, T, G, ⟨u, t, g, kn, ro, le, tp, se, pl, bk, sq, ou, lr⟩, h0, ht, hi, ha⟩ := h
  unfold m_X11_lesson m_X12_lesson
  rw [isL, isF]
  by_cases c1 : m_X12_in k (nI 0) (nI 3) = 0
  · rw [if_pos c1, if_pos c1]; exact ⟨rfl, hh⟩
  · rw [if_neg c1, if_neg c1]
    obtain ⟨q, hq, rfl⟩ := in_ex (by decide) c1
    have e13 : (nI 13 + nI q).toNatClampNeg = 13 + q := ck2 (by omega)
    have eq : (nI q).toNatClampNeg = q := nI_clamp (by omega)
    obtain ⟨j0, j1, j2, j3⟩ := le q (by omega)
    by_cases c2 : f = (-nI 1)
    · rw [if_pos c2, if_pos c2, if_pos c2, if_pos c2]
      unfold m_X12_becomes
      dsimp only [bindv]
      rw [e13, eq]
      have key : ∀ (a : Int32) (st : Us), (if Sc.le (Sf.c (Us.nw s)) q = nI 8 then ((-nI 5), st) else (Sc.le (Sf.c (Us.nw s)) q, st)) = ((if j0 = 8 then (-nI 5) else nI j0), st) := by
        intro a st
        rw [j2]
        by_cases z : j0 = 8
        · subst z; rw [if_pos rfl, if_pos rfl]
        · rw [if_neg (fun w => z (nI_inj w (by omega) (by decide))), if_neg z]
      rw [key 0]
      refine ⟨j3.symm, lk, Rq.nw (s := s) rfl rfl rfl rfl rfl rfl h0 ht hi ha (Nat.le_refl G) (U' := U) (T' := T) ?_⟩
      have e : ∀ j, j ≠ 13 + q → upd (Ms.s m) (13 + q) (-nI 5) j = Ms.s m j := fun j hj => pk_un hj
      show RelS (upd (Ms.s m) (13 + q) (-nI 5)) _ _ _ _ _
      refine ⟨⟨u.1, u.2.1, (e 17 (by omega)).trans u.2.2⟩, ⟨t.1, t.2.1, (e 0 (by omega)).trans t.2.2⟩, ⟨g.1, g.2.1, (e 18 (by omega)).trans g.2.2.1, (e 23 (by omega)).trans g.2.2.2⟩, r4_cf u.1 kn (fun j a b => e j (by omega)), r5_cf u.1 ro (fun j a b c => e j (by omega)), fun k hk => ?_, r7_cf tp (e 22 (by omega)) (fun j a b => e j (by omega)), r8_cf se (Nat.le_refl U) (e 19 (by omega)) (fun j a b => e j (by omega)), r9_cf pl (fun w n q => by rw [plan_cf (e 17 (by omega))]; exact q) (e 20 (by omega)) (fun j a b => e j (by omega)), r10_cf bk (Nat.le_refl U) (e 21 (by omega)) (fun j a b => e j (by omega)), sq, ou, r13_cf g.1 lr (fun j a => e j (by omega))⟩
      by_cases z : k = q
      · subst z
        exact ⟨8, by omega, by exact pk_us, by refine Eq.trans pk_us ?_; rfl⟩
      · obtain ⟨w, w1, w2, w3⟩ := le k hk
        exact ⟨w, w1, by refine Eq.trans ?_ w2; exact pk_un z, (e _ (by omega)).trans w3⟩
    · simp only [if_neg c2]
      by_cases c3 : m_X12_isFact f = 0
      · rw [if_pos c3, if_pos c3]; exact ⟨rfl, hh⟩
      rw [if_neg c3, if_neg c3]
      obtain ⟨x, hx, rfl⟩ := fact_ex c3
      unfold m_X12_becomes
      dsimp only [bindv]
      rw [e13, eq]
      have key : ∀ (a : Int32) (st : Us), (if Sc.le (Sf.c (Us.nw s)) q = nI 8 then ((-nI 5), st) else (Sc.le (Sf.c (Us.nw s)) q, st)) = ((if j0 = 8 then (-nI 5) else nI j0), st) := by
        intro a st
        rw [j2]
        by_cases z : j0 = 8
        · subst z; rw [if_pos rfl, if_pos rfl]
        · rw [if_neg (fun w => z (nI_inj w (by omega) (by decide))), if_neg z]
      rw [key 0]
      refine ⟨j3.symm, lk, Rq.nw (s := s) rfl rfl rfl rfl rfl rfl h0 ht hi ha (Nat.le_refl G) (U' := U) (T' := T) ?_⟩
      have e : ∀ j, j ≠ 13 + q → upd (Ms.s m) (13 + q) (nI x) j = Ms.s m j := fun j hj => pk_un hj
      show RelS (upd (Ms.s m) (13 + q) (nI x)) _ _ _ _ _
      refine ⟨⟨u.1, u.2.1, (e 17 (by omega)).trans u.2.2⟩, ⟨t.1, t.2.1, (e 0 (by omega)).trans t.2.2⟩, ⟨g.1, g.2.1, (e 18 (by omega)).trans g.2.2.1, (e 23 (by omega)).trans g.2.2.2⟩, r4_cf u.1 kn (fun j a b => e j (by omega)), r5_cf u.1 ro (fun j a b c => e j (by omega)), fun k hk => ?_, r7_cf tp (e 22 (by omega)) (fun j a b => e j (by omega)), r8_cf se (Nat.le_refl U) (e 19 (by omega)) (fun j a b => e j (by omega)), r9_cf pl (fun w n q => by rw [plan_cf (e 17 (by omega))]; exact q) (e 20 (by omega)) (fun j a b => e j (by omega)), r10_cf bk (Nat.le_refl U) (e 21 (by omega)) (fun j a b => e j (by omega)), sq, ou, r13_cf g.1 lr (fun j a => e j (by omega))⟩
      by_cases z : k = q
      · subst z
        exact ⟨x, by omega, by exact pk_us, by refine Eq.trans pk_us ?_; rw [if_neg (by omega)]⟩
      · obtain ⟨w, w1, w2, w3⟩ := le k hk
        exact ⟨w, w1, by refine Eq.trans ?_ w2; exact pk_un z, (e _ (by omega)).trans w3⟩
theorem join_eq (c : Sc) (kd v : Int32) {U x : Nat} (hU : U < 6) (hz : Sc.sz c = nI U) (hx : x < 2 ^ U) (hou : Sc.ou c = nI x) : m_X7_join c kd v = (nI U, (upd (Sc.kd c) U kd, upd (Sc.vv c) U v, upd (Sc.kn c) U (nI 0), upd (upd (upd (upd (Sc.rw c) (U * 4) (nI 0)) (U * 4 + 1) (nI 0)) (U * 4 + 2) (nI 0)) (U * 4 + 3) (nI 0), Sc.le c, nI (U + 1), nI x, Sc.ti c, Sc.sg c, Sc.lg c)) := by
  have i0 : ((nI U * nI 4) + nI 0).toNatClampNeg = U * 4 := by rw [pk_mul, nI_add, nI_clamp (by omega)]; rfl
  have i1 : ((nI U * nI 4) + (nI 0 + nI 1)).toNatClampNeg = U * 4 + 1 := by rw [pk_mul, nI_add, nI_add, nI_clamp (by omega)]
  have i2 : ((nI U * nI 4) + (nI 0 + nI 1 + nI 1)).toNatClampNeg = U * 4 + 2 := by rw [pk_mul, nI_add, nI_add, nI_add, nI_clamp (by omega)]
  have i3 : ((nI U * nI 4) + (nI 0 + nI 1 + nI 1 + nI 1)).toNatClampNeg = U * 4 + 3 := by rw [pk_mul, nI_add, nI_add, nI_add, nI_add, nI_clamp (by omega)]
  have eU : (nI U).toNatClampNeg = U := nI_clamp (by omega)
  unfold m_X7_join
  rw [hz, if_neg (show ¬ nI U < 0 from Int32.not_lt.mpr (nI_le (Nat.zero_le _) (by omega))), if_pos (nI_lt hU (by decide))]
  rw [q_X7_join_51, if_neg (by decide), q_X7_join_51, if_neg (by decide), q_X7_join_51, if_neg (by decide), q_X7_join_51, if_neg (by decide), q_X7_join_51, if_pos (by decide)]
  rw [hz, i0, i1, i2, i3, eU]
  have p64 := pw_64 U (by omega)
  have eo : (nI x &&& ((nI 1 <<< (nI U &&& 31)) ^^^ (-nI 1))) = nI x := by
    rw [po_0 x (by omega) U hU, po_n U hU x (by omega) hx]
    rfl
  have po : ∀ c1 : Sc, Sc.ou c1 = nI x → m_X7_putOut c1 (nI U) (nI 0) = (Sc.kd c1, Sc.vv c1, Sc.kn c1, Sc.rw c1, Sc.le c1, Sc.sz c1, nI x, Sc.ti c1, Sc.sg c1, Sc.lg c1) := by
    intro c1 h
    unfold m_X7_putOut
    dsimp only [bindv]
    rw [if_pos (show nI 0 = 0 from rfl), h, eo]
  have es : nI U + nI 1 - nI 1 = nI U := by rw [nI_add, pk_sub (by omega), Nat.add_sub_cancel]
  rw [po, bindv]
  · show (nI U + nI 1 - nI 1, (upd (Sc.kd c) U kd, upd (Sc.vv c) U v, upd (Sc.kn c) U (nI 0), upd (upd (upd (upd (Sc.rw c) (U * 4) (nI 0)) (U * 4 + 1) (nI 0)) (U * 4 + 2) (nI 0)) (U * 4 + 3) (nI 0), Sc.le c, nI U + nI 1, nI x, Sc.ti c, Sc.sg c, Sc.lg c)) = _
    rw [es, nI_add]
  · exact hou
theorem a_urchin {s : Us} {m : Ms} {K : Nat} (h : Rel s m K) (kd v : Int32) : (m_X11_urchin s kd v).1 = (m_X12_urchin m kd v).1 ∧ Rel (m_X11_urchin s kd v).2 (m_X12_urchin m kd v).2 K := by
  have hh := h
  obtain ⟨lk, U, T, G, ⟨u, t, g, kn, ro, le, tp, se, pl, bk, sq, ou, lr⟩, h0, ht, hi, ha⟩ := h
  have u6 := u.1
  unfold m_X11_urchin m_X12_urchin
  rw [show m_X11_isNumber v = m_X12_in v (nI 0) (nI 9) from rfl]
  by_cases c1 : m_X12_in kd (nI 0) (nI 6) = 0
  · rw [if_pos c1]
    by_cases c2 : kd < 0
    · rw [if_pos c2]; exact ⟨rfl, hh⟩
    · rw [if_neg c2, if_neg]
      · exact ⟨rfl, hh⟩
      · intro c3
        unfold m_X12_in at c1
        rw [if_neg (show ¬ kd < nI 0 from c2), if_neg] at c1
        · exact absurd c1 (by decide)
        · rw [Int32.lt_iff_toInt_lt] at c3 ⊢
          have t6 : (nI 6).toInt = 6 := rfl
          have t7 : (nI 7).toInt = 7 := rfl
          omega
  · rw [if_neg c1]
    obtain ⟨d, hd, rfl⟩ := in_ex (by decide) c1
    rw [if_neg (show ¬ nI d < 0 from Int32.not_lt.mpr (nI_le (Nat.zero_le _) (by omega))), if_pos (nI_lt (by omega) (by decide))]
    by_cases c3 : m_X12_in v (nI 0) (nI 9) = 0
    · rw [if_pos c3, if_pos c3]; exact ⟨rfl, hh⟩
    rw [if_neg c3, if_neg c3]
    obtain ⟨w, hw, rfl⟩ := in_ex (by decide) c3
    by_cases z : U = 6
    · subst z
      rw [c17, u.2.2, if_pos rfl]
      unfold m_X7_join
      rw [u.2.1, if_neg (by decide), if_neg (by decide)]
      exact ⟨rfl, hh⟩
    · obtain ⟨of, x, x1, x2⟩ := ou
      rw [join_eq _ _ _ (by omega) u.2.1 x1 x2, c17, u.2.2, if_neg (fun q => z (nI_inj q (by omega) (by decide)))]
      have e24 : (nI 24 + nI U).toNatClampNeg = 24 + U := ck2 (by omega)
      have e30 : (nI 30 + nI U).toNatClampNeg = 30 + U := ck2 (by omega)
      have e1 : (nI 1 + nI U).toNatClampNeg = 1 + U := ck2 (by omega)
      have e7 : (nI 7 + nI U).toNatClampNeg = 7 + U := ck2 (by omega)
      have i0 : ((nI 36 + (nI 4 * nI U)) + nI 0).toNatClampNeg = 36 + 4 * U := by rw [pk_mul, nI_add, nI_add, nI_clamp (by omega)]; rfl
      have i1 : ((nI 36 + (nI 4 * nI U)) + (nI 0 + nI 1)).toNatClampNeg = 36 + 4 * U + 1 := by rw [pk_mul, nI_add, nI_add, nI_add, nI_clamp (by omega)]
      have i2 : ((nI 36 + (nI 4 * nI U)) + (nI 0 + nI 1 + nI 1)).toNatClampNeg = 36 + 4 * U + 2 := by rw [pk_mul, nI_add, nI_add, nI_add, nI_add, nI_clamp (by omega)]
      have i3 : ((nI 36 + (nI 4 * nI U)) + (nI 0 + nI 1 + nI 1 + nI 1)).toNatClampNeg = 36 + 4 * U + 3 := by rw [pk_mul, nI_add, nI_add, nI_add, nI_add, nI_add, nI_clamp (by omega)]
      rw [q_X12_urchin_90, if_neg (by decide), q_X12_urchin_90, if_neg (by decide), q_X12_urchin_90, if_neg (by decide), q_X12_urchin_90, if_neg (by decide), q_X12_urchin_90, if_pos (by decide)]
      rw [c17, u.2.2, i0, i1, i2, i3, e24, e30, e1, e7]
      generalize hf : upd (upd (upd (upd (upd (upd (upd (upd (Ms.s m) (24 + U) (nI d)) (30 + U) (nI w)) (1 + U) (nI 0)) (7 + U) (nI 0)) (36 + 4 * U) (nI 0)) (36 + 4 * U + 1) (nI 0)) (36 + 4 * U + 2) (nI 0)) (36 + 4 * U + 3) (nI 0) = g1
      have k17 : g1 17 = nI U := by rw [← hf]; (iterate 8 rw [pk_un (by omega)]); exact u.2.2
      rw [k17, nI_add]
      refine ⟨rfl, lk, Rq.nw (s := s) rfl rfl rfl rfl rfl rfl h0 ht hi ha (Nat.le_refl G) (U' := U + 1) (T' := T) ?_⟩
      have e : ∀ j, (j ≠ 17 ∧ j ≠ 24 + U ∧ j ≠ 30 + U ∧ j ≠ 1 + U ∧ j ≠ 7 + U ∧ (j < 36 + 4 * U ∨ 36 + 4 * U + 4 ≤ j)) → upd g1 17 (nI (U + 1)) j = Ms.s m j := by
        intro j hj
        rw [pk_un (by omega), ← hf]
        iterate 8 rw [pk_un (by omega)]
      have a24 : upd g1 17 (nI (U + 1)) (24 + U) = nI d := by
        rw [pk_un (by omega), ← hf]; (iterate 7 rw [pk_un (by omega)])
        rw [pk_us]
      have a30 : upd g1 17 (nI (U + 1)) (30 + U) = nI w := by
        rw [pk_un (by omega), ← hf]; (iterate 6 rw [pk_un (by omega)])
        rw [pk_us]
      have a1 : upd g1 17 (nI (U + 1)) (1 + U) = nI 0 := by
        rw [pk_un (by omega), ← hf]; (iterate 5 rw [pk_un (by omega)])
        rw [pk_us]
      have a7 : upd g1 17 (nI (U + 1)) (7 + U) = nI 0 := by
        rw [pk_un (by omega), ← hf]; (iterate 4 rw [pk_un (by omega)])
        rw [pk_us]
      have a36 : ∀ k, k < 4 → upd g1 17 (nI (U + 1)) (36 + 4 * U + k) = nI 0 := by
        intro k hk
        rw [pk_un (by omega), ← hf]
        have : k = 0 ∨ k = 1 ∨ k = 2 ∨ k = 3 := by omega
        rcases this with rfl | rfl | rfl | rfl
        · rw [pk_un (by omega), pk_un (by omega), pk_un (by omega)]; exact pk_us
        · rw [pk_un (by omega), pk_un (by omega), pk_us]
        · rw [pk_un (by omega), pk_us]
        · rw [pk_us]
      have b36 : ∀ p k, k < 4 → upd (upd (upd (upd (Sc.rw (Sf.c (Us.nw s))) (U * 4) (nI 0)) (U * 4 + 1) (nI 0)) (U * 4 + 2) (nI 0)) (U * 4 + 3) (nI 0) (p * 4 + k) = if p = U then nI 0 else Sc.rw (Sf.c (Us.nw s)) (p * 4 + k) := by
        intro p k hk
        by_cases y : p = U
        · subst y
          rw [if_pos rfl]
          have : k = 0 ∨ k = 1 ∨ k = 2 ∨ k = 3 := by omega
          rcases this with rfl | rfl | rfl | rfl
          · rw [pk_un (by omega), pk_un (by omega), pk_un (by omega)]; exact pk_us
          · rw [pk_un (by omega), pk_un (by omega), pk_us]
          · rw [pk_un (by omega), pk_us]
          · rw [pk_us]
        · rw [if_neg y, pk_un (by omega), pk_un (by omega), pk_un (by omega), pk_un (by omega)]
      have p64 := pw_64 U u6
      show RelS (upd g1 17 (nI (U + 1))) _ _ _ _ _
      refine ⟨⟨by omega, rfl, by exact pk_us⟩, ⟨t.1, t.2.1, (e 0 (by omega)).trans t.2.2⟩, ⟨g.1, g.2.1, (e 18 (by omega)).trans g.2.2.1, (e 23 (by omega)).trans g.2.2.2⟩, fun p hp => ?_, fun p hp => ?_, r6_cf le (fun j a b => e j (by omega)), r7_cf tp (e 22 (by omega)) (fun j a b => e j (by omega)), r8_cf se (Nat.le_succ U) (e 19 (by omega)) (fun j a b => e j (by omega)), r9_cf pl (fun w n q => plan_up u6 u.2.2 (by exact pk_us) q) (e 20 (by omega)) (fun j a b => e j (by omega)), r10_cf bk (Nat.le_succ U) (e 21 (by omega)) (fun j a b => e j (by omega)), sq, ⟨of, x, by rw [Nat.pow_succ]; omega, rfl⟩, r13_cf g.1 lr (fun j a => e j (by omega))⟩
      · by_cases y : p = U
        · subst y
          exact ⟨0, by decide, by exact pk_us, a1⟩
        · obtain ⟨y0, y1, y2, y3⟩ := kn p (by omega)
          exact ⟨y0, y1, by refine Eq.trans ?_ y2; exact pk_un y, (e _ (by omega)).trans y3⟩
      · show _ = upd (Sc.kd (Sf.c (Us.nw s))) U (nI d) p ∧ _ = upd (Sc.vv (Sf.c (Us.nw s))) U (nI w) p ∧ (∀ k, k < 4 → _ = upd (upd (upd (upd (Sc.rw (Sf.c (Us.nw s))) (U * 4) (nI 0)) (U * 4 + 1) (nI 0)) (U * 4 + 2) (nI 0)) (U * 4 + 3) (nI 0) (p * 4 + k)) ∧ _ = b2i (outB (nI x) p) ∧ vp_in (upd (Sc.kd (Sf.c (Us.nw s))) U (nI d) p) 7 ∧ (∃ v, v ≤ 9 ∧ upd (Sc.vv (Sf.c (Us.nw s))) U (nI w) p = nI v) ∧ ∀ k, k < 4 → ∃ v, v ≤ 9 ∧ upd (upd (upd (upd (Sc.rw (Sf.c (Us.nw s))) (U * 4) (nI 0)) (U * 4 + 1) (nI 0)) (U * 4 + 2) (nI 0)) (U * 4 + 3) (nI 0) (p * 4 + k) = nI v
        by_cases y : p = U
        · subst y
          rw [pk_us, pk_us]
          refine ⟨a24, a30, fun k hk => by rw [b36 _ _ hk, if_pos rfl]; exact a36 k hk, ?_, vp_in_nI (by omega) (by decide), ⟨w, hw, rfl⟩, fun k hk => ⟨0, by decide, by rw [b36 _ _ hk, if_pos rfl]⟩⟩
          refine a7.trans ?_
          rw [ob_t x (by omega) p (by omega), po_n p (by omega) x (by omega) x1]
          rfl
        · obtain ⟨s1, s2, s3, s4, s5, s6, s7⟩ := ro p (by omega)
          rw [pk_un y, pk_un y]
          refine ⟨(e _ (by omega)).trans s1, (e _ (by omega)).trans s2, fun k hk => by rw [b36 _ _ hk, if_neg y]; exact (e _ (by omega)).trans (s3 k hk), ?_, s5, s6, fun k hk => by rw [b36 _ _ hk, if_neg y]; exact s7 k hk⟩
          rw [← x2]
          exact (e _ (by omega)).trans s4

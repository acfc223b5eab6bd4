/-! ledge: both alike -/
def ldS (m : Ms) (G N : Nat) : Ms := (Ms.th m, (upd (upd (upd (upd (Ms.s m) 22 (nI 0)) (212 + G) (nI 4)) (217 + G) (nI 6)) (222 + G) (nI 0)), Ms.im m, Ms.fr m, Ms.hi m, (nI G), (nI 0), (nI N), (nI 0), (nI 0), Ms.bb m, Ms.tr m, Ms.su m, Ms.lf m, Ms.lk m, Ms.nx m, Ms.bo m, Ms.ra m, Ms.ki m, Ms.nu m, Ms.tv m)
def ldIn (L : Lg) (ta : Fn) (x : Int32) : Lr := (Lg.st L, nI 0, nI 4, nI 6, x, (-nI 1), Lg.si L, Lg.te L, Lg.nu L, ta)
set_option maxHeartbeats 200000 in
theorem ld_ps (L : Lg) {m : Ms} {G N : Nat} {ta : Fn} (hG : G < 5) (hN : N ≤ 100) (ht : ∀ j, j < N → ∃ ch, ch < 128 ∧ ta j = nI ch ∧ Ms.s m (112 + j) = nI ch) : PS (ldS m G N) G N ta (m_X4_advance (ldIn L ta (nI N))) (ldS m G N) 0 0 (fun _ => 0) := by
  have gs : ∀ j, Ms.s (ldS m G N) j = upd (upd (upd (upd (Ms.s m) 22 (nI 0)) (212 + G) (nI 4)) (217 + G) (nI 6)) (222 + G) (nI 0) j := fun j => rfl
  refine ⟨⟨rfl, hN, rfl, Nat.zero_le _, rfl, hG, rfl⟩, ⟨by show ((-nI 1) + nI 1 : Int32) = nI 0; decide, rfl, rfl, ?_, rfl⟩, fun j hj => ?_, ⟨Nat.le_refl 0, ?_, rfl, fun j hj => by omega⟩, ⟨⟨4, by decide, rfl, ?_⟩, ⟨6, by decide, rfl, ?_⟩⟩, ⟨fun j _ _ _ _ => rfl, rfl, rfl, rfl, rfl, rfl, rfl⟩⟩
  · have ats : Lr.at (ldIn L ta (nI N)) + nI 1 = nI 0 := by
      show ((-nI 1) + nI 1 : Int32) = nI 0
      decide
    have e2 : ¬ nI 0 < 0 := by decide
    have e3 : ¬ nI 100 ≤ nI 0 := by decide
    unfold m_X4_advance
    rw [ats, if_neg e2, c0]
    show (if nI N ≤ nI 0 then (-nI 1) else (if nI 100 ≤ nI 0 then (-nI 1) else ta 0)) = _
    rw [if_neg e3]
    by_cases z : 0 < N
    · rw [if_pos z, if_neg (by rw [nI_leI (by omega) (by omega)]; omega)]
    · rw [if_neg z, if_pos (nI_le (by omega) (by omega))]
  · obtain ⟨ch, h1, h2, h3⟩ := ht j hj
    rw [gs, pk_un (by omega), pk_un (by omega), pk_un (by omega), pk_un (by omega)]
    exact ⟨h3.trans h2.symm, ch, h1, h2⟩
  · rw [gs, pk_us]
  · rw [gs, pk_un (by omega), pk_un (by omega), pk_us]
  · rw [gs, pk_un (by omega), pk_us]
set_option maxHeartbeats 200000 in
theorem ld_x (L : Lg) {m : Ms} {G N : Nat} {ta : Fn} (hG : G < 5) (hN : N ≤ 100) (ht : ∀ j, j < N → ∃ ch, ch < 128 ∧ ta j = nI ch ∧ Ms.s m (112 + j) = nI ch) : LX (ldS m G N) G N ta (m_X4_read (L, ta) (nI N)) (l_X12_ledge_108 m (m_X12_clauseHere (ldS m G N)) 10 (nI 1) (m_X12_clauseHere (ldS m G N))) := by
  have r := read_l (L, ta) (nI N) (m_X4_advance (ldIn L ta (nI N))) m (m_X12_clauseHere (ldS m G N)) 10 1 (nI 1) _ _ 0 0 _ (by decide) (by decide) rfl (ld_ps L hG hN ht) rfl rfl (by decide)
  rw [bindv] at r
  unfold m_X4_read
  exact r
set_option maxHeartbeats 200000 in
theorem led_m {m : Ms} {G N : Nat} (hG : G < 5) (h18 : Ms.s m 18 = nI G) (h22 : Ms.s m 22 = nI N) : m_X12_ledge m = l_X12_ledge_108 m (m_X12_clauseHere (ldS m G N)) 10 (nI 1) (m_X12_clauseHere (ldS m G N)) := by
  unfold m_X12_ledge
  rw [c18, c22, h18, h22, if_neg (fun q => by have := nI_inj q (by omega) (by decide); omega), ck2 (by omega), ck2 (by omega), ck2 (by omega)]
  rfl
set_option maxHeartbeats 200000 in
theorem LR.ps {m0 : Ms} {G e : Nat} {T0 : Fn} {t : Lr} {mm : Ms} {n : Nat} {dp : Nat → Nat} {v : Value} (h : PS m0 G e T0 t mm n e dp) : LR (Lr.st t, Lr.sz t, Lr.ke t, Lr.pa t, v, Lr.sg t, Lr.at t, Lr.si t, Lr.te t, Lr.nu t) (Ms.s (accS mm)) G := by
  obtain ⟨⟨a1, a2, a3, a4, a5, a6, a7⟩, ⟨b1, b2, b3, b4, b5⟩, c, ⟨d1, d2, d3⟩, ⟨⟨r, k1, k2, k3⟩, ⟨r2, k4, k5, k6⟩⟩, f⟩ := h
  have g : ∀ j, ¬ j = 18 → ¬ j = 23 → Ms.s (accS mm) j = Ms.s mm j := fun j u v => by
    show upd (upd (Ms.s mm) (nI 18).toNatClampNeg _) (nI 23).toNatClampNeg _ j = _
    rw [c18, c23, pk_un v, pk_un u]
  refine ⟨⟨r, k1, k2, by rw [g _ (by omega) (by omega)]; exact k3⟩, ⟨r2, k4, k5, by rw [g _ (by omega) (by omega)]; exact k6⟩, n, dp, by omega, b5, by rw [g _ (by omega) (by omega)]; exact d2, d3.1, fun j hj => ?_⟩
  show StpR (Lr.st t j) (Ms.s (accS mm) (227 + 140 * G + j)) _ _
  rw [g _ (by omega) (by omega)]; exact d3.2 j hj
set_option maxHeartbeats 200000 in
theorem led_ok {s s' : Us} {m m' : Ms} {K U T G G' : Nat} (hs : RelS (Ms.s m) (Us.nw s) (slots s) U T G) (lk : LK m K) (h0 : L0 (Us.l0 s)) (hi : Rim s m G) (ha : Rac s m) (hG : G < 5)
    (n0 : Us.nw s' = ((Sc.kd (Sf.c (Us.nw s)), Sc.vv (Sf.c (Us.nw s)), Sc.kn (Sf.c (Us.nw s)), Sc.rw (Sf.c (Us.nw s)), Sc.le (Sf.c (Us.nw s)), Sc.sz (Sf.c (Us.nw s)), Sc.ou (Sf.c (Us.nw s)), Sc.ti (Sf.c (Us.nw s)), nI 0, nI G'), Sf.tp (Us.nw s), Sf.se (Us.nw s), Sf.pl (Us.nw s), Sf.bk (Us.nw s))) (k1 : Us.kp s' = Us.kp s) (k2 : Us.it s' = Us.it s) (k3 : Us.ac s' = Us.ac s) (k4 : ∀ j, kj s' j = kj s j) (k5 : ∀ j, bj s' j = bj s j) (k6 : Us.l0 s' = Us.l0 s) (tps : TPs s') (sl : ∀ k, k < G → slots s' k = slots s k)
    (f : ∀ j, ¬ j = 18 → ¬ j = 22 → ¬ j = 23 → ¬ j = 212 + G → ¬ j = 217 + G → ¬ j = 222 + G → (j < 227 + 140 * G ∨ 227 + 140 * G + 140 ≤ j) → Ms.s m' j = Ms.s m j) (f22 : Ms.s m' 22 = nI 0) (gg : G' ≤ 5 ∧ G ≤ G' ∧ Ms.s m' 18 = nI G' ∧ Ms.s m' 23 = (if G' = 0 then (-nI 1) else nI (G' - 1)))
    (lr' : ∀ k, k < G' → k < G ∨ LR (slots s' k) (Ms.s m') k) (i1 : Ms.im m' = Ms.im m) (i2 : Ms.hi m' = Ms.hi m) (i3 : Ms.bo m' = Ms.bo m) (i4 : Ms.ra m' = Ms.ra m) (i5 : Ms.lf m' = Ms.lf m) (i6 : Ms.lk m' = Ms.lk m) : Rel s' m' K := by
  refine ⟨⟨i6.trans lk.1, fun j hj => by rw [i5]; exact lk.2 j hj⟩, U, T, G', ?_, by rw [k6]; exact h0, tps, ?_, ?_⟩
  · obtain ⟨u, t, g, kn, ro, le, tp, se, pl, bk, sq, ou, lr⟩ := hs
    have u6 := u.1
    have e : ∀ j, (¬ j = 18 ∧ ¬ j = 22 ∧ ¬ j = 23 ∧ j < 212) → Ms.s m' j = Ms.s m j := fun j hj => f j hj.1 hj.2.1 hj.2.2.1 (by omega) (by omega) (by omega) (by omega)
    rw [n0]
    exact ⟨⟨u.1, u.2.1, (e 17 (by omega)).trans u.2.2⟩, ⟨t.1, t.2.1, (e 0 (by omega)).trans t.2.2⟩, ⟨gg.1, rfl, gg.2.2.1, gg.2.2.2⟩, r4_cf u.1 kn (fun j a b => e j (by omega)), r5_cf u.1 ro (fun j a b c => e j (by omega)), r6_cf le (fun j a b => e j (by omega)), ⟨0, by decide, rfl, f22, fun j hj => by omega⟩, r8_cf se (Nat.le_refl U) (e 19 (by omega)) (fun j a b => e j (by omega)), r9_cf pl (fun w n q => by rw [plan_cf (e 17 (by omega))]; exact q) (e 20 (by omega)) (fun j a b => e j (by omega)), r10_cf bk (Nat.le_refl U) (e 21 (by omega)) (fun j a b => e j (by omega)), sq, ou, fun k hk => (lr' k hk).elim (fun hk2 => by rw [sl k hk2]; exact (lr k hk2).cf (by omega) (fun j a b c d => f j (by omega) (by omega) (by omega) (by omega) (by omega) (by omega) (by omega))) id⟩
  · unfold Rim at *
    rw [k2, k1, i1, i2]
    refine ⟨?_, hi.2⟩
    rcases hi.1 with q | ⟨q1, q2, U2, T2, G2, q3, q4⟩
    · exact Or.inl q
    · exact Or.inr ⟨q1, q2, U2, T2, G2, by omega, q4.sl (fun k hk => sl k (by omega))⟩
  · unfold Rac at *
    rw [k3, i3, i4]
    rcases ha with q | ⟨j, r, q1, q2, q3, q4, q5, q6⟩
    · exact Or.inl q
    · exact Or.inr ⟨j, r, q1, q2, q3, by rw [k4]; exact q4, q5, fun i hi hr => by rw [k5]; exact q6 i hi hr⟩
set_option maxHeartbeats 200000 in
theorem ldS_out (m : Ms) (G N : Nat) : ∀ j, ¬ j = 22 → ¬ j = 212 + G → ¬ j = 217 + G → ¬ j = 222 + G → Ms.s (ldS m G N) j = Ms.s m j := fun j u v w x => by
  show upd (upd (upd (upd (Ms.s m) 22 (nI 0)) (212 + G) (nI 4)) (217 + G) (nI 6)) (222 + G) (nI 0) j = _
  rw [pk_un x, pk_un w, pk_un v, pk_un u]
set_option maxHeartbeats 200000 in
theorem ldS_22 (m : Ms) {G : Nat} (N : Nat) : Ms.s (ldS m G N) 22 = nI 0 := by
  show upd (upd (upd (upd (Ms.s m) 22 (nI 0)) (212 + G) (nI 4)) (217 + G) (nI 6)) (222 + G) (nI 0) 22 = _
  rw [pk_un (by omega), pk_un (by omega), pk_un (by omega), pk_us]
set_option maxHeartbeats 200000 in
theorem led_0 {s : Us} {m : Ms} {K U T : Nat} (hs : RelS (Ms.s m) (Us.nw s) (slots s) U T 0) (lk : LK m K) (h0 : L0 (Us.l0 s)) (ht : TPs s) (hi : Rim s m 0) (ha : Rac s m) : (m_X11_ledge s).1 = (m_X12_ledge m).1 ∧ Rel (m_X11_ledge s).2 (m_X12_ledge m).2 K := by
  obtain ⟨N, n1, n2, n3, n4⟩ := hs.2.2.2.2.2.2.1
  have h18 : Ms.s m 18 = nI 0 := hs.2.2.1.2.2.1
  have hlg : Sc.lg (Sf.c (Us.nw s)) = nI 0 := hs.2.2.1.2.1
  have h23 : Ms.s m 23 = (if 0 = 0 then (-nI 1) else nI (0 - 1)) := hs.2.2.1.2.2.2
  have x := ld_x (Us.l1 s) (m := m) (G := 0) (ta := Sf.tp (Us.nw s)) (by decide) n1 n4
  rw [led_m (by decide) h18 n3]
  unfold m_X11_ledge
  rw [hlg, if_neg (show ¬ nI 0 < 0 by decide), if_pos (show nI 0 < nI 5 by decide), if_pos rfl, n2]
  generalize l_X12_ledge_108 m (m_X12_clauseHere (ldS m 0 N)) 10 (nI 1) (m_X12_clauseHere (ldS m 0 N)) = B at x ⊢
  generalize m_X4_read (Us.l1 s, Sf.tp (Us.nw s)) (nI N) = A at x ⊢
  obtain ⟨A1, r⟩ := A
  rw [bindv]
  dsimp only
  have out := ldS_out m 0 N
  rcases x with ⟨x1, x2, t, mm, n, dp, x3, x4, x5⟩ | ⟨p, x0, x1, x3, x4, x5⟩
  · have x1' : A1 = (-nI 1) := x1
    have x4' : r = (lgOf t, Lr.tp t) := x4
    have etp : Lr.tp t = Sf.tp (Us.nw s) := x3.2.1.2.2.1
    have fm := x3.2.2.2.2.2
    have lrp := LR.ps (v := Value.ref 42) x3
    have ac := x3.1.2.2.2.2.1
    subst x4'
    rw [x1', if_pos (show (-nI 1 : Int32) < 0 by decide), x5, x2]
    refine ⟨by show (nI 0 + nI 1 - nI 1 : Int32) = nI 0; decide, ?_⟩
    have g : ∀ j, ¬ j = 18 → ¬ j = 23 → Ms.s (accS mm) j = Ms.s mm j := fun j u v => by
      show upd (upd (Ms.s mm) (nI 18).toNatClampNeg _) (nI 23).toNatClampNeg _ j = _
      rw [c18, c23, pk_un v, pk_un u]
    refine led_ok (G' := 1) hs lk h0 hi ha (by decide) ?_ rfl rfl rfl (fun j => rfl) (fun j => rfl) rfl ?_ (fun k hk => by omega) ?_ ?_ ⟨by decide, by decide, ?_, ?_⟩ (fun k hk => ?_) fm.2.1 fm.2.2.1 fm.2.2.2.1 fm.2.2.2.2.1 fm.2.2.2.2.2.1 fm.2.2.2.2.2.2
    · rw [← etp]; rfl
    · obtain ⟨t0, t1, t2, t3, t4, t5⟩ := ht
      exact ⟨t0, TPok.tape, t2, t3, t4, t5⟩
    · intro j a b c d e f h
      rw [g j a c, fm.1 j d e f h, out j b d e f]
    · rw [g 22 (by decide) (by decide), fm.1 22 (by decide) (by decide) (by decide) (by decide), ldS_22]
    · show upd (upd (Ms.s mm) (nI 18).toNatClampNeg ((Ms.s mm (nI 18).toNatClampNeg) + nI 1)) (nI 23).toNatClampNeg (Ms.ac mm) 18 = _
      rw [c18, c23, pk_un (by decide), pk_us, fm.1 18 (by decide) (by decide) (by decide) (by decide), out 18 (by decide) (by decide) (by decide) (by decide), h18]
      decide
    · show upd (upd (Ms.s mm) (nI 18).toNatClampNeg ((Ms.s mm (nI 18).toNatClampNeg) + nI 1)) (nI 23).toNatClampNeg (Ms.ac mm) 23 = _
      rw [c18, c23, pk_us, ac]
      rfl
    · by_cases z : k < 0
      · exact Or.inl z
      · have : k = 0 := by omega
        subst this
        exact Or.inr lrp
  · have x1' : A1 = nI p := x1
    have x4' : Ld.ta r = Sf.tp (Us.nw s) := x4
    rw [x1', if_neg (show ¬ nI p < 0 from Int32.not_lt.mpr (nI_le (Nat.zero_le _) (by omega)))]
    refine ⟨x3.symm, ?_⟩
    refine led_ok (G' := 0) hs lk h0 hi ha (by decide) ?_ rfl rfl rfl (fun j => rfl) (fun j => rfl) rfl ?_ (fun k hk => by omega) ?_ ?_ ⟨by decide, by decide, ?_, ?_⟩ (fun k hk => Or.inl hk) x5.2.1 x5.2.2.1 x5.2.2.2.1 x5.2.2.2.2.1 x5.2.2.2.2.2.1 x5.2.2.2.2.2.2
    · rw [← x4']; rfl
    · obtain ⟨t0, t1, t2, t3, t4, t5⟩ := ht
      exact ⟨t0, TPok.tape, t2, t3, t4, t5⟩
    · intro j a b c d e f h
      rw [x5.1 j d e f h, out j b d e f]
    · rw [x5.1 22 (by decide) (by decide) (by decide) (by decide), ldS_22]
    · rw [x5.1 18 (by decide) (by decide) (by decide) (by decide), out 18 (by decide) (by decide) (by decide) (by decide), h18]
    · rw [x5.1 23 (by decide) (by decide) (by decide) (by decide), out 23 (by decide) (by decide) (by decide) (by decide), h23]
set_option maxHeartbeats 200000 in
theorem led_1 {s : Us} {m : Ms} {K U T : Nat} (hs : RelS (Ms.s m) (Us.nw s) (slots s) U T 1) (lk : LK m K) (h0 : L0 (Us.l0 s)) (ht : TPs s) (hi : Rim s m 1) (ha : Rac s m) : (m_X11_ledge s).1 = (m_X12_ledge m).1 ∧ Rel (m_X11_ledge s).2 (m_X12_ledge m).2 K := by
  obtain ⟨N, n1, n2, n3, n4⟩ := hs.2.2.2.2.2.2.1
  have h18 : Ms.s m 18 = nI 1 := hs.2.2.1.2.2.1
  have hlg : Sc.lg (Sf.c (Us.nw s)) = nI 1 := hs.2.2.1.2.1
  have h23 : Ms.s m 23 = (if 1 = 0 then (-nI 1) else nI (1 - 1)) := hs.2.2.1.2.2.2
  have x := ld_x (Us.l2 s) (m := m) (G := 1) (ta := Sf.tp (Us.nw s)) (by decide) n1 n4
  rw [led_m (by decide) h18 n3]
  unfold m_X11_ledge
  rw [hlg, if_neg (show ¬ nI 1 < 0 by decide), if_pos (show nI 1 < nI 5 by decide), if_neg (show ¬ nI 1 = nI 0 by decide), if_pos rfl, n2]
  generalize l_X12_ledge_108 m (m_X12_clauseHere (ldS m 1 N)) 10 (nI 1) (m_X12_clauseHere (ldS m 1 N)) = B at x ⊢
  generalize m_X4_read (Us.l2 s, Sf.tp (Us.nw s)) (nI N) = A at x ⊢
  obtain ⟨A1, r⟩ := A
  rw [bindv]
  dsimp only
  have out := ldS_out m 1 N
  rcases x with ⟨x1, x2, t, mm, n, dp, x3, x4, x5⟩ | ⟨p, x0, x1, x3, x4, x5⟩
  · have x1' : A1 = (-nI 1) := x1
    have x4' : r = (lgOf t, Lr.tp t) := x4
    have etp : Lr.tp t = Sf.tp (Us.nw s) := x3.2.1.2.2.1
    have fm := x3.2.2.2.2.2
    have lrp := LR.ps (v := Value.ref 42) x3
    have ac := x3.1.2.2.2.2.1
    subst x4'
    rw [x1', if_pos (show (-nI 1 : Int32) < 0 by decide), x5, x2]
    refine ⟨by show (nI 1 + nI 1 - nI 1 : Int32) = nI 1; decide, ?_⟩
    have g : ∀ j, ¬ j = 18 → ¬ j = 23 → Ms.s (accS mm) j = Ms.s mm j := fun j u v => by
      show upd (upd (Ms.s mm) (nI 18).toNatClampNeg _) (nI 23).toNatClampNeg _ j = _
      rw [c18, c23, pk_un v, pk_un u]
    refine led_ok (G' := 2) hs lk h0 hi ha (by decide) ?_ rfl rfl rfl (fun j => rfl) (fun j => rfl) rfl ?_ (fun k hk => by
      have : k = 0 := by omega
      rcases this with rfl <;> rfl) ?_ ?_ ⟨by decide, by decide, ?_, ?_⟩ (fun k hk => ?_) fm.2.1 fm.2.2.1 fm.2.2.2.1 fm.2.2.2.2.1 fm.2.2.2.2.2.1 fm.2.2.2.2.2.2
    · rw [← etp]; rfl
    · obtain ⟨t0, t1, t2, t3, t4, t5⟩ := ht
      exact ⟨t0, t1, TPok.tape, t3, t4, t5⟩
    · intro j a b c d e f h
      rw [g j a c, fm.1 j d e f h, out j b d e f]
    · rw [g 22 (by decide) (by decide), fm.1 22 (by decide) (by decide) (by decide) (by decide), ldS_22]
    · show upd (upd (Ms.s mm) (nI 18).toNatClampNeg ((Ms.s mm (nI 18).toNatClampNeg) + nI 1)) (nI 23).toNatClampNeg (Ms.ac mm) 18 = _
      rw [c18, c23, pk_un (by decide), pk_us, fm.1 18 (by decide) (by decide) (by decide) (by decide), out 18 (by decide) (by decide) (by decide) (by decide), h18]
      decide
    · show upd (upd (Ms.s mm) (nI 18).toNatClampNeg ((Ms.s mm (nI 18).toNatClampNeg) + nI 1)) (nI 23).toNatClampNeg (Ms.ac mm) 23 = _
      rw [c18, c23, pk_us, ac]
      rfl
    · by_cases z : k < 1
      · exact Or.inl z
      · have : k = 1 := by omega
        subst this
        exact Or.inr lrp
  · have x1' : A1 = nI p := x1
    have x4' : Ld.ta r = Sf.tp (Us.nw s) := x4
    rw [x1', if_neg (show ¬ nI p < 0 from Int32.not_lt.mpr (nI_le (Nat.zero_le _) (by omega)))]
    refine ⟨x3.symm, ?_⟩
    refine led_ok (G' := 1) hs lk h0 hi ha (by decide) ?_ rfl rfl rfl (fun j => rfl) (fun j => rfl) rfl ?_ (fun k hk => by
      have : k = 0 := by omega
      rcases this with rfl <;> rfl) ?_ ?_ ⟨by decide, by decide, ?_, ?_⟩ (fun k hk => Or.inl hk) x5.2.1 x5.2.2.1 x5.2.2.2.1 x5.2.2.2.2.1 x5.2.2.2.2.2.1 x5.2.2.2.2.2.2
    · rw [← x4']; rfl
    · obtain ⟨t0, t1, t2, t3, t4, t5⟩ := ht
      exact ⟨t0, t1, TPok.tape, t3, t4, t5⟩
    · intro j a b c d e f h
      rw [x5.1 j d e f h, out j b d e f]
    · rw [x5.1 22 (by decide) (by decide) (by decide) (by decide), ldS_22]
    · rw [x5.1 18 (by decide) (by decide) (by decide) (by decide), out 18 (by decide) (by decide) (by decide) (by decide), h18]
    · rw [x5.1 23 (by decide) (by decide) (by decide) (by decide), out 23 (by decide) (by decide) (by decide) (by decide), h23]
set_option maxHeartbeats 200000 in
theorem led_2 {s : Us} {m : Ms} {K U T : Nat} (hs : RelS (Ms.s m) (Us.nw s) (slots s) U T 2) (lk : LK m K) (h0 : L0 (Us.l0 s)) (ht : TPs s) (hi : Rim s m 2) (ha : Rac s m) : (m_X11_ledge s).1 = (m_X12_ledge m).1 ∧ Rel (m_X11_ledge s).2 (m_X12_ledge m).2 K := by
  obtain ⟨N, n1, n2, n3, n4⟩ := hs.2.2.2.2.2.2.1
  have h18 : Ms.s m 18 = nI 2 := hs.2.2.1.2.2.1
  have hlg : Sc.lg (Sf.c (Us.nw s)) = nI 2 := hs.2.2.1.2.1
  have h23 : Ms.s m 23 = (if 2 = 0 then (-nI 1) else nI (2 - 1)) := hs.2.2.1.2.2.2
  have x := ld_x (Us.l3 s) (m := m) (G := 2) (ta := Sf.tp (Us.nw s)) (by decide) n1 n4
  rw [led_m (by decide) h18 n3]
  unfold m_X11_ledge
  rw [hlg, if_neg (show ¬ nI 2 < 0 by decide), if_pos (show nI 2 < nI 5 by decide), if_neg (show ¬ nI 2 = nI 0 by decide), if_neg (show ¬ nI 2 = nI 1 by decide), if_pos rfl, n2]
  generalize l_X12_ledge_108 m (m_X12_clauseHere (ldS m 2 N)) 10 (nI 1) (m_X12_clauseHere (ldS m 2 N)) = B at x ⊢
  generalize m_X4_read (Us.l3 s, Sf.tp (Us.nw s)) (nI N) = A at x ⊢
  obtain ⟨A1, r⟩ := A
  rw [bindv]
  dsimp only
  have out := ldS_out m 2 N
  rcases x with ⟨x1, x2, t, mm, n, dp, x3, x4, x5⟩ | ⟨p, x0, x1, x3, x4, x5⟩
  · have x1' : A1 = (-nI 1) := x1
    have x4' : r = (lgOf t, Lr.tp t) := x4
    have etp : Lr.tp t = Sf.tp (Us.nw s) := x3.2.1.2.2.1
    have fm := x3.2.2.2.2.2
    have lrp := LR.ps (v := Value.ref 42) x3
    have ac := x3.1.2.2.2.2.1
    subst x4'
    rw [x1', if_pos (show (-nI 1 : Int32) < 0 by decide), x5, x2]
    refine ⟨by show (nI 2 + nI 1 - nI 1 : Int32) = nI 2; decide, ?_⟩
    have g : ∀ j, ¬ j = 18 → ¬ j = 23 → Ms.s (accS mm) j = Ms.s mm j := fun j u v => by
      show upd (upd (Ms.s mm) (nI 18).toNatClampNeg _) (nI 23).toNatClampNeg _ j = _
      rw [c18, c23, pk_un v, pk_un u]
    refine led_ok (G' := 3) hs lk h0 hi ha (by decide) ?_ rfl rfl rfl (fun j => rfl) (fun j => rfl) rfl ?_ (fun k hk => by
      have : k = 0 ∨ k = 1 := by omega
      rcases this with rfl | rfl <;> rfl) ?_ ?_ ⟨by decide, by decide, ?_, ?_⟩ (fun k hk => ?_) fm.2.1 fm.2.2.1 fm.2.2.2.1 fm.2.2.2.2.1 fm.2.2.2.2.2.1 fm.2.2.2.2.2.2
    · rw [← etp]; rfl
    · obtain ⟨t0, t1, t2, t3, t4, t5⟩ := ht
      exact ⟨t0, t1, t2, TPok.tape, t4, t5⟩
    · intro j a b c d e f h
      rw [g j a c, fm.1 j d e f h, out j b d e f]
    · rw [g 22 (by decide) (by decide), fm.1 22 (by decide) (by decide) (by decide) (by decide), ldS_22]
    · show upd (upd (Ms.s mm) (nI 18).toNatClampNeg ((Ms.s mm (nI 18).toNatClampNeg) + nI 1)) (nI 23).toNatClampNeg (Ms.ac mm) 18 = _
      rw [c18, c23, pk_un (by decide), pk_us, fm.1 18 (by decide) (by decide) (by decide) (by decide), out 18 (by decide) (by decide) (by decide) (by decide), h18]
      decide
    · show upd (upd (Ms.s mm) (nI 18).toNatClampNeg ((Ms.s mm (nI 18).toNatClampNeg) + nI 1)) (nI 23).toNatClampNeg (Ms.ac mm) 23 = _
      rw [c18, c23, pk_us, ac]
      rfl
    · by_cases z : k < 2
      · exact Or.inl z
      · have : k = 2 := by omega
        subst this
        exact Or.inr lrp
  · have x1' : A1 = nI p := x1
    have x4' : Ld.ta r = Sf.tp (Us.nw s) := x4
    rw [x1', if_neg (show ¬ nI p < 0 from Int32.not_lt.mpr (nI_le (Nat.zero_le _) (by omega)))]
    refine ⟨x3.symm, ?_⟩
    refine led_ok (G' := 2) hs lk h0 hi ha (by decide) ?_ rfl rfl rfl (fun j => rfl) (fun j => rfl) rfl ?_ (fun k hk => by
      have : k = 0 ∨ k = 1 := by omega
      rcases this with rfl | rfl <;> rfl) ?_ ?_ ⟨by decide, by decide, ?_, ?_⟩ (fun k hk => Or.inl hk) x5.2.1 x5.2.2.1 x5.2.2.2.1 x5.2.2.2.2.1 x5.2.2.2.2.2.1 x5.2.2.2.2.2.2
    · rw [← x4']; rfl
    · obtain ⟨t0, t1, t2, t3, t4, t5⟩ := ht
      exact ⟨t0, t1, t2, TPok.tape, t4, t5⟩
    · intro j a b c d e f h
      rw [x5.1 j d e f h, out j b d e f]
    · rw [x5.1 22 (by decide) (by decide) (by decide) (by decide), ldS_22]
    · rw [x5.1 18 (by decide) (by decide) (by decide) (by decide), out 18 (by decide) (by decide) (by decide) (by decide), h18]
    · rw [x5.1 23 (by decide) (by decide) (by decide) (by decide), out 23 (by decide) (by decide) (by decide) (by decide), h23]
set_option maxHeartbeats 200000 in
theorem led_3 {s : Us} {m : Ms} {K U T : Nat} (hs : RelS (Ms.s m) (Us.nw s) (slots s) U T 3) (lk : LK m K) (h0 : L0 (Us.l0 s)) (ht : TPs s) (hi : Rim s m 3) (ha : Rac s m) : (m_X11_ledge s).1 = (m_X12_ledge m).1 ∧ Rel (m_X11_ledge s).2 (m_X12_ledge m).2 K := by
  obtain ⟨N, n1, n2, n3, n4⟩ := hs.2.2.2.2.2.2.1
  have h18 : Ms.s m 18 = nI 3 := hs.2.2.1.2.2.1
  have hlg : Sc.lg (Sf.c (Us.nw s)) = nI 3 := hs.2.2.1.2.1
  have h23 : Ms.s m 23 = (if 3 = 0 then (-nI 1) else nI (3 - 1)) := hs.2.2.1.2.2.2
  have x := ld_x (Us.l4 s) (m := m) (G := 3) (ta := Sf.tp (Us.nw s)) (by decide) n1 n4
  rw [led_m (by decide) h18 n3]
  unfold m_X11_ledge
  rw [hlg, if_neg (show ¬ nI 3 < 0 by decide), if_pos (show nI 3 < nI 5 by decide), if_neg (show ¬ nI 3 = nI 0 by decide), if_neg (show ¬ nI 3 = nI 1 by decide), if_neg (show ¬ nI 3 = nI 2 by decide), if_pos rfl, n2]
  generalize l_X12_ledge_108 m (m_X12_clauseHere (ldS m 3 N)) 10 (nI 1) (m_X12_clauseHere (ldS m 3 N)) = B at x ⊢
  generalize m_X4_read (Us.l4 s, Sf.tp (Us.nw s)) (nI N) = A at x ⊢
  obtain ⟨A1, r⟩ := A
  rw [bindv]
  dsimp only
  have out := ldS_out m 3 N
  rcases x with ⟨x1, x2, t, mm, n, dp, x3, x4, x5⟩ | ⟨p, x0, x1, x3, x4, x5⟩
  · have x1' : A1 = (-nI 1) := x1
    have x4' : r = (lgOf t, Lr.tp t) := x4
    have etp : Lr.tp t = Sf.tp (Us.nw s) := x3.2.1.2.2.1
    have fm := x3.2.2.2.2.2
    have lrp := LR.ps (v := Value.ref 42) x3
    have ac := x3.1.2.2.2.2.1
    subst x4'
    rw [x1', if_pos (show (-nI 1 : Int32) < 0 by decide), x5, x2]
    refine ⟨by show (nI 3 + nI 1 - nI 1 : Int32) = nI 3; decide, ?_⟩
    have g : ∀ j, ¬ j = 18 → ¬ j = 23 → Ms.s (accS mm) j = Ms.s mm j := fun j u v => by
      show upd (upd (Ms.s mm) (nI 18).toNatClampNeg _) (nI 23).toNatClampNeg _ j = _
      rw [c18, c23, pk_un v, pk_un u]
    refine led_ok (G' := 4) hs lk h0 hi ha (by decide) ?_ rfl rfl rfl (fun j => rfl) (fun j => rfl) rfl ?_ (fun k hk => by
      have : k = 0 ∨ k = 1 ∨ k = 2 := by omega
      rcases this with rfl | rfl | rfl <;> rfl) ?_ ?_ ⟨by decide, by decide, ?_, ?_⟩ (fun k hk => ?_) fm.2.1 fm.2.2.1 fm.2.2.2.1 fm.2.2.2.2.1 fm.2.2.2.2.2.1 fm.2.2.2.2.2.2
    · rw [← etp]; rfl
    · obtain ⟨t0, t1, t2, t3, t4, t5⟩ := ht
      exact ⟨t0, t1, t2, t3, TPok.tape, t5⟩
    · intro j a b c d e f h
      rw [g j a c, fm.1 j d e f h, out j b d e f]
    · rw [g 22 (by decide) (by decide), fm.1 22 (by decide) (by decide) (by decide) (by decide), ldS_22]
    · show upd (upd (Ms.s mm) (nI 18).toNatClampNeg ((Ms.s mm (nI 18).toNatClampNeg) + nI 1)) (nI 23).toNatClampNeg (Ms.ac mm) 18 = _
      rw [c18, c23, pk_un (by decide), pk_us, fm.1 18 (by decide) (by decide) (by decide) (by decide), out 18 (by decide) (by decide) (by decide) (by decide), h18]
      decide
    · show upd (upd (Ms.s mm) (nI 18).toNatClampNeg ((Ms.s mm (nI 18).toNatClampNeg) + nI 1)) (nI 23).toNatClampNeg (Ms.ac mm) 23 = _
      rw [c18, c23, pk_us, ac]
      rfl
    · by_cases z : k < 3
      · exact Or.inl z
      · have : k = 3 := by omega
        subst this
        exact Or.inr lrp
  · have x1' : A1 = nI p := x1
    have x4' : Ld.ta r = Sf.tp (Us.nw s) := x4
    rw [x1', if_neg (show ¬ nI p < 0 from Int32.not_lt.mpr (nI_le (Nat.zero_le _) (by omega)))]
    refine ⟨x3.symm, ?_⟩
    refine led_ok (G' := 3) hs lk h0 hi ha (by decide) ?_ rfl rfl rfl (fun j => rfl) (fun j => rfl) rfl ?_ (fun k hk => by
      have : k = 0 ∨ k = 1 ∨ k = 2 := by omega
      rcases this with rfl | rfl | rfl <;> rfl) ?_ ?_ ⟨by decide, by decide, ?_, ?_⟩ (fun k hk => Or.inl hk) x5.2.1 x5.2.2.1 x5.2.2.2.1 x5.2.2.2.2.1 x5.2.2.2.2.2.1 x5.2.2.2.2.2.2
    · rw [← x4']; rfl
    · obtain ⟨t0, t1, t2, t3, t4, t5⟩ := ht
      exact ⟨t0, t1, t2, t3, TPok.tape, t5⟩
    · intro j a b c d e f h
      rw [x5.1 j d e f h, out j b d e f]
    · rw [x5.1 22 (by decide) (by decide) (by decide) (by decide), ldS_22]
    · rw [x5.1 18 (by decide) (by decide) (by decide) (by decide), out 18 (by decide) (by decide) (by decide) (by decide), h18]
    · rw [x5.1 23 (by decide) (by decide) (by decide) (by decide), out 23 (by decide) (by decide) (by decide) (by decide), h23]
set_option maxHeartbeats 200000 in
theorem led_4 {s : Us} {m : Ms} {K U T : Nat} (hs : RelS (Ms.s m) (Us.nw s) (slots s) U T 4) (lk : LK m K) (h0 : L0 (Us.l0 s)) (ht : TPs s) (hi : Rim s m 4) (ha : Rac s m) : (m_X11_ledge s).1 = (m_X12_ledge m).1 ∧ Rel (m_X11_ledge s).2 (m_X12_ledge m).2 K := by
  obtain ⟨N, n1, n2, n3, n4⟩ := hs.2.2.2.2.2.2.1
  have h18 : Ms.s m 18 = nI 4 := hs.2.2.1.2.2.1
  have hlg : Sc.lg (Sf.c (Us.nw s)) = nI 4 := hs.2.2.1.2.1
  have h23 : Ms.s m 23 = (if 4 = 0 then (-nI 1) else nI (4 - 1)) := hs.2.2.1.2.2.2
  have x := ld_x (Us.l5 s) (m := m) (G := 4) (ta := Sf.tp (Us.nw s)) (by decide) n1 n4
  rw [led_m (by decide) h18 n3]
  unfold m_X11_ledge
  rw [hlg, if_neg (show ¬ nI 4 < 0 by decide), if_pos (show nI 4 < nI 5 by decide), if_neg (show ¬ nI 4 = nI 0 by decide), if_neg (show ¬ nI 4 = nI 1 by decide), if_neg (show ¬ nI 4 = nI 2 by decide), if_neg (show ¬ nI 4 = nI 3 by decide), n2]
  generalize l_X12_ledge_108 m (m_X12_clauseHere (ldS m 4 N)) 10 (nI 1) (m_X12_clauseHere (ldS m 4 N)) = B at x ⊢
  generalize m_X4_read (Us.l5 s, Sf.tp (Us.nw s)) (nI N) = A at x ⊢
  obtain ⟨A1, r⟩ := A
  rw [bindv]
  dsimp only
  have out := ldS_out m 4 N
  rcases x with ⟨x1, x2, t, mm, n, dp, x3, x4, x5⟩ | ⟨p, x0, x1, x3, x4, x5⟩
  · have x1' : A1 = (-nI 1) := x1
    have x4' : r = (lgOf t, Lr.tp t) := x4
    have etp : Lr.tp t = Sf.tp (Us.nw s) := x3.2.1.2.2.1
    have fm := x3.2.2.2.2.2
    have lrp := LR.ps (v := Value.ref 42) x3
    have ac := x3.1.2.2.2.2.1
    subst x4'
    rw [x1', if_pos (show (-nI 1 : Int32) < 0 by decide), x5, x2]
    refine ⟨by show (nI 4 + nI 1 - nI 1 : Int32) = nI 4; decide, ?_⟩
    have g : ∀ j, ¬ j = 18 → ¬ j = 23 → Ms.s (accS mm) j = Ms.s mm j := fun j u v => by
      show upd (upd (Ms.s mm) (nI 18).toNatClampNeg _) (nI 23).toNatClampNeg _ j = _
      rw [c18, c23, pk_un v, pk_un u]
    refine led_ok (G' := 5) hs lk h0 hi ha (by decide) ?_ rfl rfl rfl (fun j => rfl) (fun j => rfl) rfl ?_ (fun k hk => by
      have : k = 0 ∨ k = 1 ∨ k = 2 ∨ k = 3 := by omega
      rcases this with rfl | rfl | rfl | rfl <;> rfl) ?_ ?_ ⟨by decide, by decide, ?_, ?_⟩ (fun k hk => ?_) fm.2.1 fm.2.2.1 fm.2.2.2.1 fm.2.2.2.2.1 fm.2.2.2.2.2.1 fm.2.2.2.2.2.2
    · rw [← etp]; rfl
    · obtain ⟨t0, t1, t2, t3, t4, t5⟩ := ht
      exact ⟨t0, t1, t2, t3, t4, TPok.tape⟩
    · intro j a b c d e f h
      rw [g j a c, fm.1 j d e f h, out j b d e f]
    · rw [g 22 (by decide) (by decide), fm.1 22 (by decide) (by decide) (by decide) (by decide), ldS_22]
    · show upd (upd (Ms.s mm) (nI 18).toNatClampNeg ((Ms.s mm (nI 18).toNatClampNeg) + nI 1)) (nI 23).toNatClampNeg (Ms.ac mm) 18 = _
      rw [c18, c23, pk_un (by decide), pk_us, fm.1 18 (by decide) (by decide) (by decide) (by decide), out 18 (by decide) (by decide) (by decide) (by decide), h18]
      decide
    · show upd (upd (Ms.s mm) (nI 18).toNatClampNeg ((Ms.s mm (nI 18).toNatClampNeg) + nI 1)) (nI 23).toNatClampNeg (Ms.ac mm) 23 = _
      rw [c18, c23, pk_us, ac]
      rfl
    · by_cases z : k < 4
      · exact Or.inl z
      · have : k = 4 := by omega
        subst this
        exact Or.inr lrp
  · have x1' : A1 = nI p := x1
    have x4' : Ld.ta r = Sf.tp (Us.nw s) := x4
    rw [x1', if_neg (show ¬ nI p < 0 from Int32.not_lt.mpr (nI_le (Nat.zero_le _) (by omega)))]
    refine ⟨x3.symm, ?_⟩
    refine led_ok (G' := 4) hs lk h0 hi ha (by decide) ?_ rfl rfl rfl (fun j => rfl) (fun j => rfl) rfl ?_ (fun k hk => by
      have : k = 0 ∨ k = 1 ∨ k = 2 ∨ k = 3 := by omega
      rcases this with rfl | rfl | rfl | rfl <;> rfl) ?_ ?_ ⟨by decide, by decide, ?_, ?_⟩ (fun k hk => Or.inl hk) x5.2.1 x5.2.2.1 x5.2.2.2.1 x5.2.2.2.2.1 x5.2.2.2.2.2.1 x5.2.2.2.2.2.2
    · rw [← x4']; rfl
    · obtain ⟨t0, t1, t2, t3, t4, t5⟩ := ht
      exact ⟨t0, t1, t2, t3, t4, TPok.tape⟩
    · intro j a b c d e f h
      rw [x5.1 j d e f h, out j b d e f]
    · rw [x5.1 22 (by decide) (by decide) (by decide) (by decide), ldS_22]
    · rw [x5.1 18 (by decide) (by decide) (by decide) (by decide), out 18 (by decide) (by decide) (by decide) (by decide), h18]
    · rw [x5.1 23 (by decide) (by decide) (by decide) (by decide), out 23 (by decide) (by decide) (by decide) (by decide), h23]
set_option maxHeartbeats 200000 in
theorem a_ledge {s : Us} {m : Ms} {K : Nat} (h : Rel s m K) : (m_X11_ledge s).1 = (m_X12_ledge m).1 ∧ Rel (m_X11_ledge s).2 (m_X12_ledge m).2 K := by
  have hh := h
  obtain ⟨lk, U, T, G, hs, h0, ht, hi, ha⟩ := h
  have g5 := hs.G5
  have : G = 0 ∨ G = 1 ∨ G = 2 ∨ G = 3 ∨ G = 4 ∨ G = 5 := by omega
  rcases this with rfl | rfl | rfl | rfl | rfl | rfl
  · exact led_0 hs lk h0 ht hi ha
  · exact led_1 hs lk h0 ht hi ha
  · exact led_2 hs lk h0 ht hi ha
  · exact led_3 hs lk h0 ht hi ha
  · exact led_4 hs lk h0 ht hi ha
  · have hlg : Sc.lg (Sf.c (Us.nw s)) = nI 5 := hs.2.2.1.2.1
    have h18 : Ms.s m 18 = nI 5 := hs.2.2.1.2.2.1
    unfold m_X11_ledge m_X12_ledge
    rw [hlg, if_neg (show ¬ nI 5 < 0 by decide), if_neg (show ¬ nI 5 < nI 5 by decide), c18, h18, if_pos rfl]
    exact ⟨rfl, hh⟩

/-! the whole relation of the class's state and the check's -/
def kj (s : Us) (j : Nat) : Uc := if j = 0 then Us.k0 s else if j = 1 then Us.k1 s else if j = 2 then Us.k2 s else if j = 3 then Us.k3 s else if j = 4 then Us.k4 s else if j = 5 then Us.k5 s else Us.k6 s
def bj (s : Us) (j : Nat) : Fn := if j = 0 then Us.b0 s else if j = 1 then Us.b1 s else if j = 2 then Us.b2 s else if j = 3 then Us.b3 s else if j = 4 then Us.b4 s else if j = 5 then Us.b5 s else Us.b6 s
def Rim (s : Us) (m : Ms) (G : Nat) : Prop := ((Us.it s = nI 0 ∧ Ms.hi m = nI 0) ∨ (Us.it s = nI 1 ∧ Ms.hi m = nI 1 ∧ ∃ U T G', G' ≤ G ∧ RelS (Ms.im m) (Us.kp s) (slots s) U T G')) ∧ Tb.li (Sf.se (Us.kp s)) = nI 5 ∧ Tb.li (Sf.pl (Us.kp s)) = nI 8 ∧ Tb.li (Sf.bk (Us.kp s)) = nI 8 ∧ ∀ j, fits .byte (.int (Sf.tp (Us.kp s) j)) = true
def Rac (s : Us) (m : Ms) : Prop := (Us.ac s = Value.null ∧ Ms.ra m = nI 0) ∨ ∃ j r, j < 7 ∧ r ≤ 1000 ∧ Us.ac s = Value.ref (21 + j) ∧ Uc.ra (kj s j) = nI r ∧ Ms.ra m = nI r ∧ ∀ i, i < 20 → i < r → bj s j i = Ms.bo m i
def Rq (s : Us) (m : Ms) : Prop := ∃ U T G, RelS (Ms.s m) (Us.nw s) (slots s) U T G ∧ L0 (Us.l0 s) ∧ TPs s ∧ Rim s m G ∧ Rac s m
def Rel (s : Us) (m : Ms) (K : Nat) : Prop := LK m K ∧ Rq s m
theorem RelS.sl {f : Fn} {sf : Sf} {A B : Nat → Lg} {U T G : Nat} (h : RelS f sf A U T G) (e : ∀ k, k < G → B k = A k) : RelS f sf B U T G := by
  obtain ⟨h1, h2, h3, h4, h5, h6, h7, h8, h9, h10, h11, h12, h13⟩ := h
  exact ⟨h1, h2, h3, h4, h5, h6, h7, h8, h9, h10, h11, h12, fun k hk => by rw [e k hk]; exact h13 k hk⟩
theorem RelS.G5 {f : Fn} {sf : Sf} {A : Nat → Lg} {U T G : Nat} (h : RelS f sf A U T G) : G ≤ 5 := h.2.2.1.1
/-- another now -/
theorem Rq.nw {s s' : Us} {m m' : Ms} {G U' T' G' : Nat} (e1 : (uq s').1.2 = (uq s).1.2) (e2 : (uq s').2 = (uq s).2) (m1 : Ms.im m' = Ms.im m) (m2 : Ms.hi m' = Ms.hi m) (m3 : Ms.bo m' = Ms.bo m) (m4 : Ms.ra m' = Ms.ra m) (h0 : L0 (Us.l0 s)) (ht : TPs s) (hi : Rim s m G) (ha : Rac s m) (hG : G ≤ G') (h : RelS (Ms.s m') (Us.nw s') (slots s) U' T' G') : Rq s' m' := by
  have kp : Us.kp s' = Us.kp s := e1
  have k0 : Us.k0 s' = Us.k0 s := congrArg (fun q => q.1.1) e2
  have k1 : Us.k1 s' = Us.k1 s := congrArg (fun q => q.1.2.1) e2
  have k2 : Us.k2 s' = Us.k2 s := congrArg (fun q => q.1.2.2.1) e2
  have k3 : Us.k3 s' = Us.k3 s := congrArg (fun q => q.1.2.2.2.1) e2
  have k4 : Us.k4 s' = Us.k4 s := congrArg (fun q => q.1.2.2.2.2.1) e2
  have k5 : Us.k5 s' = Us.k5 s := congrArg (fun q => q.1.2.2.2.2.2.1) e2
  have k6 : Us.k6 s' = Us.k6 s := congrArg (fun q => q.1.2.2.2.2.2.2) e2
  have l0 : Us.l0 s' = Us.l0 s := congrArg (fun q => q.2.1.1) e2
  have l1 : Us.l1 s' = Us.l1 s := congrArg (fun q => q.2.1.2.1) e2
  have l2 : Us.l2 s' = Us.l2 s := congrArg (fun q => q.2.1.2.2.1) e2
  have l3 : Us.l3 s' = Us.l3 s := congrArg (fun q => q.2.1.2.2.2.1) e2
  have l4 : Us.l4 s' = Us.l4 s := congrArg (fun q => q.2.1.2.2.2.2.1) e2
  have l5 : Us.l5 s' = Us.l5 s := congrArg (fun q => q.2.1.2.2.2.2.2) e2
  have b0 : Us.b0 s' = Us.b0 s := congrArg (fun q => q.2.2.1.1) e2
  have b1 : Us.b1 s' = Us.b1 s := congrArg (fun q => q.2.2.1.2.1) e2
  have b2 : Us.b2 s' = Us.b2 s := congrArg (fun q => q.2.2.1.2.2.1) e2
  have b3 : Us.b3 s' = Us.b3 s := congrArg (fun q => q.2.2.1.2.2.2.1) e2
  have b4 : Us.b4 s' = Us.b4 s := congrArg (fun q => q.2.2.1.2.2.2.2.1) e2
  have b5 : Us.b5 s' = Us.b5 s := congrArg (fun q => q.2.2.1.2.2.2.2.2.1) e2
  have b6 : Us.b6 s' = Us.b6 s := congrArg (fun q => q.2.2.1.2.2.2.2.2.2) e2
  have it : Us.it s' = Us.it s := congrArg (fun q => q.2.2.2.1) e2
  have ac : Us.ac s' = Us.ac s := congrArg (fun q => q.2.2.2.2) e2
  have sl : slots s' = slots s := funext fun k => by
    show hold s' (k + 1) = hold s (k + 1)
    unfold hold
    rw [l0, l1, l2, l3, l4, l5]
  have kk : ∀ j, kj s' j = kj s j := fun j => by unfold kj; rw [k0, k1, k2, k3, k4, k5, k6]
  have bb : ∀ j, bj s' j = bj s j := fun j => by unfold bj; rw [b0, b1, b2, b3, b4, b5, b6]
  refine ⟨U', T', G', by rw [sl]; exact h, by rw [l0]; exact h0, ?_, ?_, ?_⟩
  · unfold TPs at *
    rw [l0, l1, l2, l3, l4, l5]; exact ht
  · unfold Rim at *
    rw [it, kp, m1, m2, sl]
    refine ⟨?_, hi.2⟩
    rcases hi.1 with q | ⟨q1, q2, U, T, G2, q3, q4⟩
    · exact Or.inl q
    · exact Or.inr ⟨q1, q2, U, T, G2, by omega, q4⟩
  · unfold Rac at *
    rw [ac, m3, m4]
    rcases ha with q | ⟨j, r, q1, q2, q3, q4, q5, q6⟩
    · exact Or.inl q
    · exact Or.inr ⟨j, r, q1, q2, q3, by rw [kk]; exact q4, q5, fun i hi hr => by rw [bb]; exact q6 i hi hr⟩
theorem Rq.same {s s' : Us} {m m' : Ms} (h : Rq s m) (u : Uk s s') (k : Kp 0 m m') : Rq s' m' := by
  obtain ⟨U, T, G, h1, h2, h3, h4, h5⟩ := h
  obtain ⟨k1, k2, k3, k4, k5⟩ := k
  have es : Ms.s m' = Ms.s m := funext fun i => k1 i (Nat.zero_le i)
  refine Rq.nw (congrArg (fun q => q.1.2) u) (congrArg (fun q => q.2) u) k2 k3 k4 k5 h2 h3 h4 h5 (Nat.le_refl G) ?_ (U' := U) (T' := T)
  rw [es, u.nw]; exact h1
theorem Rel.same {s s' : Us} {m m' : Ms} {K K' : Nat} (h : Rel s m K) (u : Uk s s') (k : Kp 0 m m') (l : LK m' K') : Rel s' m' K' := ⟨l, h.2.same u k⟩
/-! what the numbers of a school need of the check's cells -/
theorem r4_cf {f f' : Fn} {c : Sc} {U : Nat} (hU : U ≤ 6) (h : ∀ p, p < U → ∃ x, x < 256 ∧ Sc.kn c p = nI x ∧ f (1 + p) = nI x) (e : ∀ j, 1 ≤ j → j < 7 → f' j = f j) : ∀ p, p < U → ∃ x, x < 256 ∧ Sc.kn c p = nI x ∧ f' (1 + p) = nI x := by
  intro p hp
  rw [e (1 + p) (by omega) (by omega)]
  exact h p hp
theorem r5_cf {f f' : Fn} {c : Sc} {U : Nat} (hU : U ≤ 6) (h : ∀ p, p < U → f (24 + p) = Sc.kd c p ∧ f (30 + p) = Sc.vv c p ∧ (∀ k, k < 4 → f (36 + 4 * p + k) = Sc.rw c (p * 4 + k)) ∧ f (7 + p) = b2i (outB (Sc.ou c) p) ∧ vp_in (Sc.kd c p) 7 ∧ (∃ v, v ≤ 9 ∧ Sc.vv c p = nI v) ∧ ∀ k, k < 4 → ∃ v, v ≤ 9 ∧ Sc.rw c (p * 4 + k) = nI v) (e : ∀ j, 7 ≤ j → j < 60 → (j < 13 ∨ 24 ≤ j) → f' j = f j) : ∀ p, p < U → f' (24 + p) = Sc.kd c p ∧ f' (30 + p) = Sc.vv c p ∧ (∀ k, k < 4 → f' (36 + 4 * p + k) = Sc.rw c (p * 4 + k)) ∧ f' (7 + p) = b2i (outB (Sc.ou c) p) ∧ vp_in (Sc.kd c p) 7 ∧ (∃ v, v ≤ 9 ∧ Sc.vv c p = nI v) ∧ ∀ k, k < 4 → ∃ v, v ≤ 9 ∧ Sc.rw c (p * 4 + k) = nI v := by
  intro p hp
  obtain ⟨a1, a2, a3, a4, a5⟩ := h p hp
  exact ⟨by rw [e _ (by omega) (by omega) (by omega)]; exact a1, by rw [e _ (by omega) (by omega) (by omega)]; exact a2, fun k hk => by rw [e _ (by omega) (by omega) (by omega)]; exact a3 k hk, by rw [e _ (by omega) (by omega) (by omega)]; exact a4, a5⟩
theorem r6_cf {f f' : Fn} {c : Sc} (h : ∀ k, k < 4 → ∃ j, j ≤ 8 ∧ Sc.le c k = nI j ∧ f (13 + k) = if j = 8 then (-nI 5) else nI j) (e : ∀ j, 13 ≤ j → j < 17 → f' j = f j) : ∀ k, k < 4 → ∃ j, j ≤ 8 ∧ Sc.le c k = nI j ∧ f' (13 + k) = if j = 8 then (-nI 5) else nI j := by
  intro k hk
  rw [e _ (by omega) (by omega)]
  exact h k hk
theorem r7_cf {f f' : Fn} {sf : Sf} (h : ∃ n, n ≤ 100 ∧ Sc.sg (Sf.c sf) = nI n ∧ f 22 = nI n ∧ ∀ j, j < n → ∃ ch, ch < 128 ∧ Sf.tp sf j = nI ch ∧ f (112 + j) = nI ch) (e1 : f' 22 = f 22) (e : ∀ j, 112 ≤ j → j < 212 → f' j = f j) : ∃ n, n ≤ 100 ∧ Sc.sg (Sf.c sf) = nI n ∧ f' 22 = nI n ∧ ∀ j, j < n → ∃ ch, ch < 128 ∧ Sf.tp sf j = nI ch ∧ f' (112 + j) = nI ch := by
  obtain ⟨n, n1, n2, n3, n4⟩ := h
  refine ⟨n, n1, n2, by rw [e1]; exact n3, fun j hj => ?_⟩
  rw [e _ (by omega) (by omega)]
  exact n4 j hj
theorem r8_cf {f f' : Fn} {tb : Tb} {U U' : Nat} (h : TbR f 19 tb 5 (fun j => (∃ u t g b, u < U ∧ t ≤ 12 ∧ g < 8 ∧ b ≤ 1 ∧ Tb.ce tb (4 * j) = nI u ∧ Tb.ce tb (4 * j + 1) = nI t ∧ Tb.ce tb (4 * j + 2) = nI g ∧ Tb.ce tb (4 * j + 3) = nI b ∧ f (60 + j) = nI u ∧ f (65 + j) = nI t ∧ f (70 + j) = nI g ∧ f (75 + j) = nI b))) (hU : U ≤ U') (e1 : f' 19 = f 19) (e : ∀ j, 60 ≤ j → j < 80 → f' j = f j) : TbR f' 19 tb 5 (fun j => (∃ u t g b, u < U' ∧ t ≤ 12 ∧ g < 8 ∧ b ≤ 1 ∧ Tb.ce tb (4 * j) = nI u ∧ Tb.ce tb (4 * j + 1) = nI t ∧ Tb.ce tb (4 * j + 2) = nI g ∧ Tb.ce tb (4 * j + 3) = nI b ∧ f' (60 + j) = nI u ∧ f' (65 + j) = nI t ∧ f' (70 + j) = nI g ∧ f' (75 + j) = nI b)) := by
  obtain ⟨n, n1, n2, n3, n4, n5⟩ := h
  refine ⟨n, n1, n2, by rw [e1]; exact n3, n4, fun j hj => ?_⟩
  obtain ⟨u, t, g, b, a1, a2⟩ := n5 j hj
  refine ⟨u, t, g, b, by omega, ?_⟩
  rw [e (60 + j) (by omega) (by omega), e (65 + j) (by omega) (by omega), e (70 + j) (by omega) (by omega), e (75 + j) (by omega) (by omega)]
  exact a2
theorem plan_cf {f f' : Fn} (e : f' 17 = f 17) (w n : Int32) : m_X12_isPlan f' w n = m_X12_isPlan f w n := by
  unfold m_X12_isPlan m_X12_isUrchin
  rw [c17, e]
theorem r9_cf {f f' : Fn} {tb : Tb} (h : TbR f 20 tb 8 (fun j => ∃ w n, Tb.ce tb (4 * j) = w ∧ Tb.ce tb (4 * j + 1) = n ∧ f (80 + j) = w ∧ f (88 + j) = n ∧ ¬ m_X12_isPlan f w n = 0)) (e0 : ∀ w n, ¬ m_X12_isPlan f w n = 0 → ¬ m_X12_isPlan f' w n = 0) (e1 : f' 20 = f 20) (e : ∀ j, 80 ≤ j → j < 96 → f' j = f j) : TbR f' 20 tb 8 (fun j => ∃ w n, Tb.ce tb (4 * j) = w ∧ Tb.ce tb (4 * j + 1) = n ∧ f' (80 + j) = w ∧ f' (88 + j) = n ∧ ¬ m_X12_isPlan f' w n = 0) := by
  obtain ⟨n, n1, n2, n3, n4, n5⟩ := h
  refine ⟨n, n1, n2, by rw [e1]; exact n3, n4, fun j hj => ?_⟩
  obtain ⟨w, p, a1, a2, a3, a4, a5⟩ := n5 j hj
  refine ⟨w, p, a1, a2, ?_, ?_, e0 _ _ a5⟩
  · rw [e (80 + j) (by omega) (by omega)]; exact a3
  · rw [e (88 + j) (by omega) (by omega)]; exact a4
theorem r10_cf {f f' : Fn} {tb : Tb} {U U' : Nat} (h : TbR f 21 tb 8 (fun j => ∃ u x, u < U ∧ x < 256 ∧ Tb.ce tb (4 * j) = nI u ∧ Tb.ce tb (4 * j + 1) = nI x ∧ f (96 + j) = nI u ∧ f (104 + j) = nI x)) (hU : U ≤ U') (e1 : f' 21 = f 21) (e : ∀ j, 96 ≤ j → j < 112 → f' j = f j) : TbR f' 21 tb 8 (fun j => ∃ u x, u < U' ∧ x < 256 ∧ Tb.ce tb (4 * j) = nI u ∧ Tb.ce tb (4 * j + 1) = nI x ∧ f' (96 + j) = nI u ∧ f' (104 + j) = nI x) := by
  obtain ⟨n, n1, n2, n3, n4, n5⟩ := h
  refine ⟨n, n1, n2, by rw [e1]; exact n3, n4, fun j hj => ?_⟩
  obtain ⟨u, x, a1, a2⟩ := n5 j hj
  refine ⟨u, x, by omega, ?_⟩
  rw [e (96 + j) (by omega) (by omega), e (104 + j) (by omega) (by omega)]
  exact a2
theorem LR.cf {f f' : Fn} {L : Lg} {k : Nat} (hk : k < 5) (h : LR L f k) (e : ∀ j, 212 ≤ j → j < 927 → (j < 227 ∨ 227 + 140 * k ≤ j ∧ j < 227 + 140 * k + 140) → (j < 227 → j = 212 + k ∨ j = 217 + k ∨ j = 222 + k) → f' j = f j) : LR L f' k := by
  obtain ⟨⟨r, r1, r2, r3⟩, ⟨q, q1, q2, q3⟩, n, dp, n1, n2, n3, n4⟩ := h
  refine ⟨⟨r, r1, r2, by rw [e _ (by omega) (by omega) (by omega) (by omega)]; exact r3⟩, ⟨q, q1, q2, by rw [e _ (by omega) (by omega) (by omega) (by omega)]; exact q3⟩, n, dp, n1, n2, by rw [e _ (by omega) (by omega) (by omega) (by omega)]; exact n3, n4.1, fun j hj => ?_⟩
  show StpR _ (f' (227 + 140 * k + j)) _ _
  rw [e _ (by omega) (by omega) (by omega) (by omega)]
  exact n4.2 j hj
theorem r13_cf {f f' : Fn} {A : Nat → Lg} {G : Nat} (hG : G ≤ 5) (h : ∀ k, k < G → LR (A k) f k) (e : ∀ j, 212 ≤ j → f' j = f j) : ∀ k, k < G → LR (A k) f' k :=
  fun k hk => (h k hk).cf (by omega) (fun j hj _ _ _ => e j hj)
/-! the same words of both -/
theorem negsub_toInt2 (U : Nat) (hU : U ≤ 6) : (nI U - nI 1).toInt = (U : Int) - 1 := by
  have : ∀ U, U ≤ 6 → (nI U - nI 1).toInt = (U : Int) - 1 := by decide +kernel
  exact this U hU
theorem isU {f : Fn} {U : Nat} (hU : U ≤ 6) (h : f 17 = nI U) (p : Int32) : m_X12_isUrchin f p = m_X7_has (nI U) p := by
  unfold m_X12_isUrchin m_X12_in m_X7_has
  rw [c17, h]
  have t0 : (0 : Int32).toInt = 0 := rfl
  have tU : (nI U).toInt = (U : Int) := nI_toInt (by omega)
  have t6 : (nI 6).toInt = 6 := rfl
  have tm : (nI U - nI 1).toInt = (U : Int) - 1 := negsub_toInt2 U hU
  by_cases c1 : p < 0
  · rw [if_pos c1, if_pos (show p < nI 0 from c1)]
  · rw [if_neg c1, if_neg (show ¬ p < nI 0 from c1)]
    by_cases c2 : nI U ≤ p
    · rw [if_pos c2, if_pos (by rw [Int32.lt_iff_toInt_lt, tm]; rw [Int32.le_iff_toInt_le, tU] at c2; omega)]
    · rw [if_neg c2, if_neg (by rw [Int32.lt_iff_toInt_lt, tm]; rw [Int32.le_iff_toInt_le, tU] at c2; omega)]
      rw [if_neg (by rw [Int32.le_iff_toInt_le, t6]; rw [Int32.le_iff_toInt_le, tU] at c2; omega)]
theorem has_ex {U : Nat} {i : Int32} (h : ¬ m_X7_has (nI U) i = 0) (hU : U ≤ 6) : ∃ k, k < U ∧ i = nI k := by
  obtain ⟨k, hk, rfl⟩ := vp_in_of (has_of h) (by decide)
  refine ⟨k, ?_, rfl⟩
  by_cases z : k < U
  · exact z
  · exact absurd (has_0 (by omega) (by omega)) h
theorem isL (k : Int32) : m_X11_isLesson k = m_X12_in k (nI 0) (nI 3) := by
  unfold m_X11_isLesson m_X12_in
  have t3 : (nI 3).toInt = 3 := rfl
  have t4 : (nI 4).toInt = 4 := rfl
  by_cases c1 : k < 0
  · rw [if_pos c1, if_pos (show k < nI 0 from c1)]
  · rw [if_neg c1, if_neg (show ¬ k < nI 0 from c1)]
    by_cases c2 : nI 4 ≤ k
    · rw [if_pos c2, if_pos (by rw [Int32.lt_iff_toInt_lt, t3]; rw [Int32.le_iff_toInt_le, t4] at c2; omega)]
    · rw [if_neg c2, if_neg (by rw [Int32.lt_iff_toInt_lt, t3]; rw [Int32.le_iff_toInt_le, t4] at c2; omega)]
theorem isP (x : Int32) : m_X11_isPart x = m_X12_in x (nI 0) (nI 1) := by
  unfold m_X11_isPart m_X12_in
  have t0 : (0 : Int32).toInt = 0 := rfl
  have u0 : (nI 0).toInt = 0 := rfl
  have t1 : (nI 1).toInt = 1 := rfl
  by_cases c1 : x = 0
  · subst c1; rfl
  · rw [if_neg c1]
    by_cases c2 : x = nI 1
    · subst c2; rfl
    · rw [if_neg c2]
      by_cases c3 : x < nI 0
      · rw [if_pos c3]
      · rw [if_neg c3, if_pos]
        rw [Int32.lt_iff_toInt_lt, t1]
        rw [Int32.lt_iff_toInt_lt, u0] at c3
        have a1 : x.toInt ≠ 0 := fun q => c1 (Int32.toInt_inj.mp (by rw [q, t0]))
        have a2 : x.toInt ≠ 1 := fun q => c2 (Int32.toInt_inj.mp (by rw [q, t1]))
        omega
theorem in_ex {x : Int32} {N : Nat} (hN : N < 2 ^ 30) (h : ¬ m_X12_in x (nI 0) (nI N) = 0) : ∃ k, k ≤ N ∧ x = nI k := by
  unfold m_X12_in at h
  by_cases c1 : x < nI 0
  · rw [if_pos c1] at h; exact absurd rfl h
  · rw [if_neg c1] at h
    by_cases c2 : nI N < x
    · rw [if_pos c2] at h; exact absurd rfl h
    · rw [Int32.lt_iff_toInt_lt, nI_toInt (by decide)] at c1
      rw [Int32.lt_iff_toInt_lt, nI_toInt (by omega)] at c2
      refine ⟨x.toInt.toNat, by omega, ?_⟩
      apply Int32.toInt_inj.mp
      rw [nI_toInt (by omega)]
      omega

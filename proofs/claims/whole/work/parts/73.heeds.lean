/-! the check's sums and heeds, and what it keeps of them -/
/-- the ledge that holds, of both -/
def SO (m : Ms) (st : Fn) (sz : Int32) : Prop := ∃ (F n : Nat) (dp : Nat → Nat), HE m F n ∧ F + n ≤ 927 ∧ (nI 227 + (nI 140 * (Ms.s m (nI 23).toNatClampNeg))) = nI F ∧ sz = nI n ∧ n ≤ 100 ∧ 17 ≤ F ∧ Sts st (fun j => Ms.s m (F + j)) n dp
theorem SO.kp {a : Nat} {m m' : Ms} {st : Fn} {sz : Int32} (h : SO m st sz) (hh : hH m) (k : ∀ i, a ≤ i → Ms.s m' i = Ms.s m i) (ha : a ≤ 17) : SO m' st sz := by
  obtain ⟨F, n, dp, h1, h2, h3, h4, h5, h6, h7⟩ := h
  have e23 : Ms.s m' (nI 23).toNatClampNeg = Ms.s m (nI 23).toNatClampNeg := k _ (by rw [c23]; omega)
  have et : m_X12_tellsOf (Ms.s m') (nI 222) (nI 0) = m_X12_tellsOf (Ms.s m) (nI 222) (nI 0) := by
    unfold m_X12_tellsOf
    rw [e23]
    by_cases c : Ms.s m (nI 23).toNatClampNeg = (-nI 1)
    · rw [if_pos c, if_pos c]
    · rw [if_neg c, if_neg c]
      apply k
      obtain ⟨q, hq, e⟩ := vp_in_of (hh c) (by decide)
      rw [e, nI_add, nI_clamp (by omega)]
      omega
  have es : (fun j => Ms.s m' (F + j)) = (fun j => Ms.s m (F + j)) := funext fun j => k _ (by omega)
  refine ⟨F, n, dp, ?_, h2, by rw [e23]; exact h3, h4, h5, h6, by rw [es]; exact h7⟩
  unfold HE at *
  rw [e23, et]; exact h1
theorem clauses_eq {m : Ms} {st : Fn} {sz : Int32} (h : SO m st sz) (p f c t : Int32) : (m_X12_clausesOf m p f c t).1 = m_X4_sum p (Ms.s m (nI 24 + p).toNatClampNeg) (Ms.s m (nI 30 + p).toNatClampNeg) f c t st sz := by
  obtain ⟨F, n, dp, h1, h2, h3, h4, h5, h6, h7⟩ := h
  exact sum_eq m p f c t h1 h2 h3 st sz h4 h5 h7
/-- the same but for what truths stood there -/
def Cs (m m' : Ms) : Prop := Ms.su m' = Ms.su m ∧ Ms.lf m' = Ms.lf m
theorem cs_l (m : Ms) (p f many tide : Int32) : ∀ (n : Nat) (sum top i : Int32) (tr : Fn), Cs m (l_X12_clausesOf_96 m p f many tide n sum top i tr).2 := by
  intro n
  induction n with
  | zero => intro sum top i tr; exact ⟨rfl, rfl⟩
  | succ n ih =>
    intro sum top i tr
    rw [q_X12_clausesOf_96]
    simp only [bindv]
    (repeat' split) <;> first | exact ih _ _ _ _ | exact ⟨rfl, rfl⟩
theorem cs_clausesOf (m : Ms) (p f many tide : Int32) : Cs m (m_X12_clausesOf m p f many tide).2 := cs_l m p f many tide _ _ _ _ _
def ix (p f c t : Nat) : Nat := 9 * (8 * (6 * t + p) + f) + c
theorem ix_inj {p f c t p' f' c' t' : Nat} (h : ix p f c t = ix p' f' c' t') (hp : p < 6) (hf : f < 8) (hc : c ≤ 8) (hp' : p' < 6) (hf' : f' < 8) (hc' : c' ≤ 8) : p = p' ∧ f = f' ∧ c = c' ∧ t = t' := by
  unfold ix at h
  have a1 : c = c' := by omega
  have a2 : f = f' := by omega
  have a3 : p = p' := by omega
  have a4 : t = t' := by omega
  exact ⟨a3, a2, a1, a4⟩
/-- what is kept of sums is right -/
def CK (m : Ms) (st : Fn) (sz : Int32) : Prop := ∀ p f c t, p < 6 → f < 8 → c ≤ 8 → t < 10 → Ms.lf m (ix p f c t) = Ms.lk m → Ms.su m (ix p f c t) = m_X4_sum (nI p) (Ms.s m (24 + p)) (Ms.s m (30 + p)) (nI f) (nI c) (nI t) st sz
theorem CK.kp {m m' : Ms} {st : Fn} {sz : Int32} (h : CK m st sz) (k : ∀ i, 17 ≤ i → Ms.s m' i = Ms.s m i) (e1 : Ms.su m' = Ms.su m) (e2 : Ms.lf m' = Ms.lf m) (e3 : Ms.lk m' = Ms.lk m) : CK m' st sz := by
  intro p f c t hp hf hc ht
  rw [e1, e2, e3, k (24 + p) (by omega), k (30 + p) (by omega)]
  exact h p f c t hp hf hc ht
theorem sumOf_eq {m : Ms} {st : Fn} {sz : Int32} (so : SO m st sz) (ck : CK m st sz) {P f T C : Nat} (hP : P < 6) (hf : f < 8) (hT : Ms.s m 0 = nI T) (hT2 : T ≤ 1000000) (hC : m_X12_countOf (Ms.s m (1 + P)) = nI C) (hC2 : C ≤ 8) :
    (m_X12_sumOf m (nI P) (nI f)).1 = m_X4_sum (nI P) (Ms.s m (24 + P)) (Ms.s m (30 + P)) (nI f) (nI C) (nI (T % 10)) st sz ∧ CK (m_X12_sumOf m (nI P) (nI f)).2 st sz ∧ Ms.lk (m_X12_sumOf m (nI P) (nI f)).2 = Ms.lk m := by
  have ht : T % 10 < 10 := Nat.mod_lt T (by decide)
  have e1 : (nI 1 + nI P).toNatClampNeg = 1 + P := by rw [nI_add, nI_clamp (by omega)]
  have e24 : (nI 24 + nI P).toNatClampNeg = 24 + P := by rw [nI_add, nI_clamp (by omega)]
  have e30 : (nI 30 + nI P).toNatClampNeg = 30 + P := by rw [nI_add, nI_clamp (by omega)]
  have em : (nI T - nI T / nI 10 * nI 10 : Int32) = nI (T % 10) := pk_rem (by omega) (by decide) (by decide)
  have eix : ((nI 9 * ((nI 8 * ((nI 6 * nI (T % 10)) + nI P)) + nI f)) + nI C).toNatClampNeg = ix P f C (T % 10) := by
    rw [pk_mul, nI_add, pk_mul, nI_add, pk_mul, nI_add, nI_clamp (by omega)]
    rfl
  unfold m_X12_sumOf
  rw [c0, hT, em, e1, hC, eix]
  by_cases c : Ms.lf m (ix P f C (T % 10)) = Ms.lk m
  · rw [if_pos c]
    exact ⟨ck P f C (T % 10) hP hf hC2 ht c, ck, rfl⟩
  · rw [if_neg c]
    generalize hm1 : (Ms.th m, Ms.s m, Ms.im m, Ms.fr m, Ms.hi m, Ms.ac m, Ms.sp m, Ms.en m, Ms.wr m, Ms.op m, Ms.bb m, Ms.tr m, Ms.su m, (upd (Ms.lf m) (ix P f C (T % 10)) (Ms.lk m)), Ms.lk m, Ms.nx m, Ms.bo m, Ms.ra m, Ms.ki m, Ms.nu m, Ms.tv m) = m1
    have s1 : Ms.s m1 = Ms.s m := by rw [← hm1]; rfl
    have su1 : Ms.su m1 = Ms.su m := by rw [← hm1]; rfl
    have lf1 : Ms.lf m1 = upd (Ms.lf m) (ix P f C (T % 10)) (Ms.lk m) := by rw [← hm1]; rfl
    have lk1 : Ms.lk m1 = Ms.lk m := by rw [← hm1]; rfl
    have so1 : SO m1 st sz := by
      unfold SO HE at *
      rw [s1]; exact so
    have v := clauses_eq so1 (nI P) (nI f) (nI C) (nI (T % 10))
    have q := cq_clausesOf m1 (nI P) (nI f) (nI C) (nI (T % 10))
    have w := cs_clausesOf m1 (nI P) (nI f) (nI C) (nI (T % 10))
    generalize m_X12_clausesOf m1 (nI P) (nI f) (nI C) (nI (T % 10)) = r at v q w ⊢
    rw [e24, e30, s1] at v
    have rs : Ms.s r.2 = Ms.s m := q.1.trans s1
    have rk : Ms.lk r.2 = Ms.lk m := q.2.2.2.2.1.trans lk1
    unfold bindv
    dsimp only
    refine ⟨?_, ?_, rk⟩
    · show upd (Ms.su r.2) (ix P f C (T % 10)) r.1 (ix P f C (T % 10)) = _
      rw [pk_us, v]
    · intro p' f' c' t' hp' hf' hc' ht' hl
      show upd (Ms.su r.2) (ix P f C (T % 10)) r.1 (ix p' f' c' t') = m_X4_sum (nI p') (Ms.s r.2 (24 + p')) (Ms.s r.2 (30 + p')) (nI f') (nI c') (nI t') st sz
      have hl2 : Ms.lf r.2 (ix p' f' c' t') = Ms.lk r.2 := hl
      rw [rs]
      by_cases z : ix p' f' c' t' = ix P f C (T % 10)
      · obtain ⟨z1, z2, z3, z4⟩ := ix_inj z hp' hf' hc' hP hf hC2
        rw [z, pk_us, v, z1, z2, z3, z4]
      · rw [pk_un z, w.1, su1]
        rw [w.2, lf1, pk_un z, rk] at hl2
        exact ck p' f' c' t' hp' hf' hc' ht' hl2
/-- how a kind heeds -/
def hd (k su v c ro : Int32) (kw : Bool) : Int32 := if k = nI 1 then su + v else if k = nI 2 then su / nI 2 else if k = nI 3 then su - c else if k = nI 4 then (if kw then (su + v) * nI 2 else su + v) else if k = nI 5 then su / nI 2 + v else if k = nI 6 then ((su - c) + ro) - nI 4 else su
theorem mul1 (x : Int32) : x * nI 1 = x := by
  show x * 1 = x
  exact Int32.mul_one x
theorem heedOf_eq {m : Ms} {st : Fn} {sz : Int32} (so : SO m st sz) (ck : CK m st sz) {P f T C X : Nat} (hP : P < 6) (hf : f < 8) (hT : Ms.s m 0 = nI T) (hT2 : T ≤ 1000000) (hX : Ms.s m (1 + P) = nI X) (hC : m_X12_countOf (nI X) = nI C) (hC2 : C ≤ 8) :
    (m_X12_heedOf m (nI P) (nI f)).1 = hd (Ms.s m (24 + P)) (m_X4_sum (nI P) (Ms.s m (24 + P)) (Ms.s m (30 + P)) (nI f) (nI C) (nI (T % 10)) st sz) (Ms.s m (30 + P)) (nI C) (Ms.s m (36 + 4 * P + f % 4)) (decide ((nI X >>> (nI f &&& 31)) &&& nI 1 = nI 1)) ∧ CK (m_X12_heedOf m (nI P) (nI f)).2 st sz ∧ Cq m (m_X12_heedOf m (nI P) (nI f)).2 := by
  have e1 : (nI 1 + nI P).toNatClampNeg = 1 + P := by rw [nI_add, nI_clamp (by omega)]
  have e24 : (nI 24 + nI P).toNatClampNeg = 24 + P := by rw [nI_add, nI_clamp (by omega)]
  have e30 : (nI 30 + nI P).toNatClampNeg = 30 + P := by rw [nI_add, nI_clamp (by omega)]
  have e36 : ((nI 36 + (nI 4 * nI P)) + (nI f - nI f / nI 4 * nI 4)).toNatClampNeg = 36 + 4 * P + f % 4 := by
    rw [pk_rem (by omega) (by decide) (by decide), pk_mul, nI_add, nI_add, nI_clamp (by omega)]
  have q := cq_sumOf m (nI P) (nI f)
  obtain ⟨v, w, -⟩ := sumOf_eq so ck hP hf hT hT2 (by rw [hX]; exact hC) hC2
  have q2 := cq_heedOf m (nI P) (nI f)
  refine ⟨?_, ?_, q2⟩
  · unfold m_X12_heedOf
    rw [bindv, q.1, e24, e30, e1, e36, v, hX, hC]
    generalize m_X4_sum (nI P) (Ms.s m (24 + P)) (Ms.s m (30 + P)) (nI f) (nI C) (nI (T % 10)) st sz = su
    generalize Ms.s m (24 + P) = k
    unfold hd
    by_cases k1 : k = nI 1
    · rw [if_pos k1, if_pos k1]
    · rw [if_neg k1, if_neg k1]
      by_cases k2 : k = nI 2
      · rw [if_pos k2, if_pos k2]
      · rw [if_neg k2, if_neg k2]
        by_cases k3 : k = nI 3
        · rw [if_pos k3, if_pos k3]
        · rw [if_neg k3, if_neg k3]
          by_cases k4 : k = nI 4
          · rw [if_pos k4, if_pos k4]
            by_cases b : (nI X >>> (nI f &&& 31)) &&& nI 1 = nI 1
            · rw [if_pos b]; simp only [b, decide_true, if_true]; rfl
            · rw [if_neg b]; simp only [b, decide_false]; exact mul1 _
          · rw [if_neg k4, if_neg k4]
            by_cases k5 : k = nI 5
            · rw [if_pos k5, if_pos k5]
            · rw [if_neg k5, if_neg k5]
              by_cases k6 : k = nI 6
              · rw [if_pos k6, if_pos k6]
              · rw [if_neg k6, if_neg k6]
  · have : (m_X12_heedOf m (nI P) (nI f)).2 = (m_X12_sumOf m (nI P) (nI f)).2 := by
      unfold m_X12_heedOf
      generalize m_X12_sumOf m (nI P) (nI f) = r
      simp only [bindv]
      (repeat' split) <;> rfl
    rw [this]; exact w

/-! a ledge's steps, the class's and the check's; what they sum to -/
/-- one step, of both: d truths stand there ahead of it, d1 behind it -/
def StpR (c e : Int32) (d d1 : Nat) : Prop :=
  (∃ l o v, l < 6 ∧ o < 3 ∧ v < 100 ∧ c = nI (l * 300 + o * 100 + v) ∧ e = nI (l + 8 * o + 32 * v) ∧ d < 20 ∧ d1 = d + 1) ∨
  (c = (-nI 1) ∧ e = (-nI 1) ∧ 1 ≤ d ∧ d < 25 ∧ d1 = d) ∨
  (c = (-nI 2) ∧ e = (-nI 2) ∧ 2 ≤ d ∧ d < 25 ∧ d1 = d - 1) ∨
  (c = (-nI 3) ∧ e = (-nI 3) ∧ 2 ≤ d ∧ d < 25 ∧ d1 = d - 1) ∨
  (∃ n, n < 100 ∧ c = nI (10000 + n) ∧ e = (-nI 10) - nI n ∧ d = 1 ∧ d1 = 0) ∨
  (∃ n, n < 100 ∧ c = nI (20000 + n) ∧ e = (-nI 200) - nI n ∧ d = 1 ∧ d1 = 0)
/-- a test's answer -/
def tst (o v : Nat) (y : Int32) : Bool := if o = 0 then decide (¬ nI v ≤ y) else if o = 1 then decide (y = nI v) else decide (¬ y ≤ nI v)
def six (l : Nat) (a0 a1 a2 a3 a4 a5 : Int32) : Int32 := if l = 0 then a0 else if l = 1 then a1 else if l = 2 then a2 else if l = 3 then a3 else if l = 4 then a4 else a5
theorem neg_lt {n : Nat} (h0 : 0 < n) (h : n < 2 ^ 30) : (-nI n : Int32) < 0 := by
  rw [Int32.lt_iff_toInt_lt, Int32.toInt_neg, nI_toInt (by omega)]
  show Int.bmod (-(n : Int)) (2 ^ 32) < 0
  rw [Int.bmod_def]
  omega
theorem negsub_toInt {a n : Nat} (ha : a < 1000) (h : n < 1000) : ((-nI a) - nI n : Int32).toInt = -((a : Int) + n) := by
  rw [Int32.toInt_sub, Int32.toInt_neg, nI_toInt (by omega), nI_toInt (by omega)]
  rw [Int.bmod_def, Int.bmod_def]
  omega
theorem tst_eq {o w : Nat} (ho : o < 3) (y : Int32) : (if nI o = 0 then (if nI w ≤ y then nI 0 else nI 1) else (if nI o = nI 1 then (if y = nI w then nI 1 else nI 0) else (if y ≤ nI w then nI 0 else nI 1))) = b2i (tst o w y) := by
  have : o = 0 ∨ o = 1 ∨ o = 2 := by omega
  rcases this with rfl | rfl | rfl
  · rw [if_pos (show nI 0 = 0 from rfl)]
    show _ = b2i (decide (¬ nI w ≤ y))
    by_cases z : nI w ≤ y
    · rw [if_pos z]; simp [z, b2i]
    · rw [if_neg z]; simp [z, b2i]
  · rw [if_neg (show ¬ nI 1 = 0 by decide), if_pos (show nI 1 = nI 1 from rfl)]
    show _ = b2i (decide (y = nI w))
    by_cases z : y = nI w
    · rw [if_pos z]; simp [z, b2i]
    · rw [if_neg z]; simp [z, b2i]
  · rw [if_neg (show ¬ nI 2 = 0 by decide), if_neg (show ¬ nI 2 = nI 1 by decide)]
    show _ = b2i (decide (¬ y ≤ nI w))
    by_cases z : y ≤ nI w
    · rw [if_pos z]; simp [z, b2i]
    · rw [if_neg z]; simp [z, b2i]
theorem holds_eq {p k v f c t : Int32} {l o w : Nat} (hl : l < 6) (ho : o < 3) (hw : w < 100) : m_X4_holds p k v f c t (nI (l * 300 + o * 100 + w)) = b2i (tst o w (six l p k v f c t)) := by
  have e1 : nI (l * 300 + o * 100 + w) / nI 300 = nI l := by
    rw [pk_div (by omega) (by decide) (by decide)]; congr 1; omega
  have e2 : nI (l * 300 + o * 100 + w) / nI 100 = nI (l * 3 + o) := by
    rw [pk_div (by omega) (by decide) (by decide)]; congr 1; omega
  have e3 : nI (l * 300 + o * 100 + w) - nI (l * 3 + o) * nI 100 = nI w := by
    rw [pk_mul, pk_sub (by omega)]; congr 1; omega
  have e4 : nI (l * 3 + o) - nI (l * 3 + o) / nI 3 * nI 3 = nI o := by
    rw [pk_rem (by omega) (by decide) (by decide)]; congr 1; omega
  unfold m_X4_holds
  rw [e1, e2, e3, e4]
  have es : (if nI l = nI 0 then p else (if nI l = nI 1 then k else (if nI l = nI 2 then v else (if nI l = nI 3 then f else (if nI l = nI 4 then c else t))))) = six l p k v f c t := by
    have : l = 0 ∨ l = 1 ∨ l = 2 ∨ l = 3 ∨ l = 4 ∨ l = 5 := by omega
    rcases this with rfl | rfl | rfl | rfl | rfl | rfl <;> rfl
  rw [es]
  unfold bindv
  generalize six l p k v f c t = y
  dsimp only
  exact tst_eq ho y
theorem b2i_nar (b : Bool) : vp_nar .boolean (b2i b) = b2i b := by cases b <;> decide
theorem b2i_z (b : Bool) : (b2i b = 0) ↔ b = false := by cases b <;> decide
section SU
variable (p k v f c t : Int32) (st : Fn) (sz : Int32)
theorem cs_end {x : Nat} {su bi : Int32} {j : Nat} (h : sz = nI j) (hj : j ≤ 100) : l_X4_sum_7 p k v f c t st sz (x + 1) su bi (nI j) = su := by
  rw [q_X4_sum_7, if_pos (by rw [h]; exact Int32.le_refl _)]
theorem cs_go {x : Nat} {su bi : Int32} {j n : Nat} (h : sz = nI n) (hj : j < n) (hn : n ≤ 100) : l_X4_sum_7 p k v f c t st sz (x + 1) su bi (nI j) = (bindv (if (st j) < nI 20000 then (if (st j) < nI 10000 then (if (st j) < 0 then su else (bindv (if (m_X4_holds p k v f c t (st j)) = 0 then (nI 0) else (nI 1)) (fun _ => su))) else (su + ((bi &&& nI 1) * ((st j) - nI 10000)))) else (su - ((bi &&& nI 1) * ((st j) - nI 20000)))) (fun x3_0 => bindv (if (st j) < nI 20000 then (if (st j) < nI 10000 then (if (st j) < 0 then (m_X4_joined (st j) bi) else (bindv (if (m_X4_holds p k v f c t (st j)) = 0 then (nI 0) else (nI 1)) (fun x6_0 => ((bi <<< (nI 1 &&& 31)) ||| x6_0)))) else (nI 0)) else (nI 0)) (fun x3_1 => l_X4_sum_7 p k v f c t st sz x x3_0 x3_1 (nI (j + 1))))) := by
  have e : (nI j).toNatClampNeg = j := nI_clamp (by omega)
  rw [q_X4_sum_7, if_neg (by rw [h, nI_leI (by omega) (by omega)]; omega), if_neg (by rw [nI_leI (by decide) (by omega)]; omega), e, nI_add]
theorem cs_test {x : Nat} {su bi : Int32} {j n l o w : Nat} (h : sz = nI n) (hj : j < n) (hn : n ≤ 100) (hl : l < 6) (ho : o < 3) (hw : w < 100) (hs : st j = nI (l * 300 + o * 100 + w)) :
    l_X4_sum_7 p k v f c t st sz (x + 1) su bi (nI j) = l_X4_sum_7 p k v f c t st sz x su ((bi <<< (nI 1 &&& 31)) ||| b2i (tst o w (six l p k v f c t))) (nI (j + 1)) := by
  have a1 : nI (l * 300 + o * 100 + w) < nI 20000 := (nI_ltI (by omega) (by decide)).mpr (by omega)
  have a2 : nI (l * 300 + o * 100 + w) < nI 10000 := (nI_ltI (by omega) (by decide)).mpr (by omega)
  have a3 : ¬ nI (l * 300 + o * 100 + w) < 0 := fun q => by
    have q2 : nI (l * 300 + o * 100 + w) < nI 0 := q
    rw [nI_ltI (by omega) (by decide)] at q2
    omega
  rw [cs_go p k v f c t st sz h hj hn, hs, if_pos a1, if_pos a2, if_neg a3, if_pos a1, if_pos a2, if_neg a3, holds_eq hl ho hw]
  unfold bindv
  cases tst o w (six l p k v f c t) <;> rfl
theorem cs_neg {x : Nat} {su bi y : Int32} {j n : Nat} (h : sz = nI n) (hj : j < n) (hn : n ≤ 100) (hs : st j = y) (hy : y < 0) :
    l_X4_sum_7 p k v f c t st sz (x + 1) su bi (nI j) = l_X4_sum_7 p k v f c t st sz x su (m_X4_joined y bi) (nI (j + 1)) := by
  have a1 : y < nI 20000 := Int32.lt_trans hy (by decide)
  have a2 : y < nI 10000 := Int32.lt_trans hy (by decide)
  rw [cs_go p k v f c t st sz h hj hn, hs, if_pos a1, if_pos a2, if_pos hy, if_pos a1, if_pos a2, if_pos hy]
  rfl
theorem cs_loud {x : Nat} {su bi : Int32} {j n a : Nat} (h : sz = nI n) (hj : j < n) (hn : n ≤ 100) (ha : a < 100) (hs : st j = nI (10000 + a)) :
    l_X4_sum_7 p k v f c t st sz (x + 1) su bi (nI j) = l_X4_sum_7 p k v f c t st sz x (su + ((bi &&& nI 1) * nI a)) (nI 0) (nI (j + 1)) := by
  have a1 : nI (10000 + a) < nI 20000 := (nI_ltI (by omega) (by decide)).mpr (by omega)
  have a2 : ¬ nI (10000 + a) < nI 10000 := fun q => by rw [nI_ltI (by omega) (by decide)] at q; omega
  rw [cs_go p k v f c t st sz h hj hn, hs, if_pos a1, if_neg a2, if_pos a1, if_neg a2, pk_sub (by omega), show 10000 + a - 10000 = a by omega]
  rfl
theorem cs_dull {x : Nat} {su bi : Int32} {j n a : Nat} (h : sz = nI n) (hj : j < n) (hn : n ≤ 100) (ha : a < 100) (hs : st j = nI (20000 + a)) :
    l_X4_sum_7 p k v f c t st sz (x + 1) su bi (nI j) = l_X4_sum_7 p k v f c t st sz x (su - ((bi &&& nI 1) * nI a)) (nI 0) (nI (j + 1)) := by
  have a1 : ¬ nI (20000 + a) < nI 20000 := fun q => by rw [nI_ltI (by omega) (by decide)] at q; omega
  rw [cs_go p k v f c t st sz h hj hn, hs, if_neg a1, if_neg a1, pk_sub (by omega), show 20000 + a - 20000 = a by omega]
  rfl
end SU
section SM
variable (m : Ms) (p f many tide : Int32)
theorem by6 (bb : Fn) (a0 a1 a2 a3 a4 a5 : Int32) {l : Nat} (hl : l < 6) : (upd (upd (upd (upd (upd (upd bb (nI 0).toNatClampNeg a0) (nI 1).toNatClampNeg a1) (nI 2).toNatClampNeg a2) (nI 3).toNatClampNeg a3) (nI 4).toNatClampNeg a4) (nI 5).toNatClampNeg a5) (nI l).toNatClampNeg = six l a0 a1 a2 a3 a4 a5 := by
  rw [nI_clamp (by omega : l < 2 ^ 31), nI_clamp (by decide : 0 < 2 ^ 31), nI_clamp (by decide : 1 < 2 ^ 31), nI_clamp (by decide : 2 < 2 ^ 31), nI_clamp (by decide : 3 < 2 ^ 31), nI_clamp (by decide : 4 < 2 ^ 31), nI_clamp (by decide : 5 < 2 ^ 31)]
  have : l = 0 ∨ l = 1 ∨ l = 2 ∨ l = 3 ∨ l = 4 ∨ l = 5 := by omega
  rcases this with rfl | rfl | rfl | rfl | rfl | rfl <;> rfl
/-- where the steps end -/
def HE (m : Ms) (F n : Nat) : Prop := (nI 227 + (nI 140 * (Ms.s m (nI 23).toNatClampNeg))) + (m_X12_tellsOf (Ms.s m) (nI 222) (nI 0)) = nI (F + n)
variable {F n : Nat}
theorem ms_end (hE : HE m F n) (hF : F + n ≤ 927) {y : Nat} {su top : Int32} {tr : Fn} : (l_X12_clausesOf_96 m p f many tide (y + 1) su top (nI (F + n)) tr).1 = su := by
  unfold HE at hE
  rw [q_X12_clausesOf_96, if_pos (by rw [hE]; exact Int32.le_refl _)]
theorem ms_test (hE : HE m F n) (hF : F + n ≤ 927) {y j d l o w : Nat} {su : Int32} {tr : Fn} (hj : j < n) (hd : d < 30) (hl : l < 6) (ho : o < 3) (hw : w < 100) (hs : Ms.s m (F + j) = nI (l + 8 * o + 32 * w)) :
    l_X12_clausesOf_96 m p f many tide (y + 1) su (nI d) (nI (F + j)) tr = l_X12_clausesOf_96 m p f many tide y su (nI (d + 1)) (nI (F + (j + 1))) (upd tr d (b2i (tst o w (six l p (Ms.s m (nI 24 + p).toNatClampNeg) (Ms.s m (nI 30 + p).toNatClampNeg) f many tide)))) := by
  unfold HE at hE
  have e : (nI (F + j)).toNatClampNeg = F + j := nI_clamp (by omega)
  have a1 : ¬ nI (F + n) ≤ nI (F + j) := fun q => by rw [nI_leI (by omega) (by omega)] at q; omega
  have a2 : ¬ nI (l + 8 * o + 32 * w) < 0 := fun q => by
    have q2 : nI (l + 8 * o + 32 * w) < nI 0 := q
    rw [nI_ltI (by omega) (by decide)] at q2
    omega
  have e1 : nI (l + 8 * o + 32 * w) - nI (l + 8 * o + 32 * w) / nI 8 * nI 8 = nI l := by
    rw [pk_rem (by omega) (by decide) (by decide)]; congr 1; omega
  have e2 : nI (l + 8 * o + 32 * w) / nI 8 = nI (o + 4 * w) := by
    rw [pk_div (by omega) (by decide) (by decide)]; congr 1; omega
  have e3 : nI (o + 4 * w) - nI (o + 4 * w) / nI 4 * nI 4 = nI o := by
    rw [pk_rem (by omega) (by decide) (by decide)]; congr 1; omega
  have e4 : nI (l + 8 * o + 32 * w) / nI 32 = nI w := by
    rw [pk_div (by omega) (by decide) (by decide)]; congr 1; omega
  have e5 : (nI d).toNatClampNeg = d := nI_clamp (by omega)
  rw [q_X12_clausesOf_96, hE, if_neg a1, e, hs, if_neg a2, e1, e2, e3, e4, e5, by6 _ _ _ _ _ _ _ hl, tst_eq ho]
  unfold bindv
  dsimp only
  rw [b2i_nar, nI_add, nI_add, Nat.add_assoc]
theorem ms_not (hE : HE m F n) (hF : F + n ≤ 927) {y j d : Nat} {su : Int32} {tr : Fn} {b : Bool} (hj : j < n) (hd : d < 30) (h1 : 1 ≤ d) (hb : tr (d - 1) = b2i b) (hs : Ms.s m (F + j) = (-nI 1)) :
    l_X12_clausesOf_96 m p f many tide (y + 1) su (nI d) (nI (F + j)) tr = l_X12_clausesOf_96 m p f many tide y su (nI d) (nI (F + (j + 1))) (upd tr (d - 1) (b2i (!b))) := by
  unfold HE at hE
  have e : (nI (F + j)).toNatClampNeg = F + j := nI_clamp (by omega)
  have a1 : ¬ nI (F + n) ≤ nI (F + j) := fun q => by rw [nI_leI (by omega) (by omega)] at q; omega
  have e5 : (nI d - nI 1).toNatClampNeg = d - 1 := by rw [pk_sub h1, nI_clamp (by omega)]
  rw [q_X12_clausesOf_96, hE, if_neg a1, e, hs, if_pos (by decide), if_pos rfl, e5, hb, nI_add, Nat.add_assoc]
  cases b <;> rfl
theorem ms_two (hE : HE m F n) (hF : F + n ≤ 927) {y j d : Nat} {su : Int32} {tr : Fn} {b c : Bool} (hj : j < n) (hd : d < 30) (h1 : 2 ≤ d) (hb : tr (d - 2) = b2i b) (hc : tr (d - 1) = b2i c) {x : Int32} (hx : x = (-nI 2) ∨ x = (-nI 3)) (hs : Ms.s m (F + j) = x) :
    l_X12_clausesOf_96 m p f many tide (y + 1) su (nI d) (nI (F + j)) tr = l_X12_clausesOf_96 m p f many tide y su (nI (d - 1)) (nI (F + (j + 1))) (upd tr (d - 2) (b2i (if x = (-nI 2) then b && c else b || c))) := by
  unfold HE at hE
  have e : (nI (F + j)).toNatClampNeg = F + j := nI_clamp (by omega)
  have a1 : ¬ nI (F + n) ≤ nI (F + j) := fun q => by rw [nI_leI (by omega) (by omega)] at q; omega
  have e6 : nI d + (-nI 1) = nI (d - 1) := by
    have := pk_m1 (d - 1)
    rw [show d - 1 + 1 = d by omega] at this
    exact this
  have e7 : (nI (d - 1)).toNatClampNeg = d - 1 := nI_clamp (by omega)
  have e5 : (nI (d - 1) - nI 1).toNatClampNeg = d - 2 := by rw [pk_sub (by omega), nI_clamp (by omega)]; omega
  rcases hx with rfl | rfl
  · rw [q_X12_clausesOf_96, hE, if_neg a1, e, hs, if_pos (by decide), if_neg (by decide), if_neg (by decide), if_pos rfl, if_pos rfl, e6, e5, e7, hb, hc, nI_add, Nat.add_assoc]
    cases b <;> cases c <;> rfl
  · rw [q_X12_clausesOf_96, hE, if_neg a1, e, hs, if_pos (by decide), if_neg (show ¬ (-nI 3 : Int32) = (-nI 1) by decide), if_neg (show ¬ (-nI 3 : Int32) ≤ (-nI 10) by decide), if_neg (show ¬ (-nI 3 : Int32) = (-nI 2) by decide), if_neg (show ¬ (-nI 3 : Int32) = (-nI 2) by decide), e6, e5, e7, hb, hc, nI_add, Nat.add_assoc]
    cases b <;> cases c <;> rfl
theorem subsub (x y : Int32) : x - (x - y) = y := by
  apply Int32.toBitVec_inj.mp
  simp only [Int32.toBitVec_sub]
  bv_omega
theorem ms_loud (hE : HE m F n) (hF : F + n ≤ 927) {y j a : Nat} {su : Int32} {tr : Fn} {b : Bool} (hj : j < n) (ha : a < 100) (hb : tr 0 = b2i b) (hs : Ms.s m (F + j) = (-nI 10) - nI a) :
    l_X12_clausesOf_96 m p f many tide (y + 1) su (nI 1) (nI (F + j)) tr = l_X12_clausesOf_96 m p f many tide y (su + (b2i b * nI a)) (nI 0) (nI (F + (j + 1))) tr := by
  unfold HE at hE
  have e : (nI (F + j)).toNatClampNeg = F + j := nI_clamp (by omega)
  have a1 : ¬ nI (F + n) ≤ nI (F + j) := fun q => by rw [nI_leI (by omega) (by omega)] at q; omega
  have et := negsub_toInt (a := 10) (n := a) (by decide) (by omega)
  have t1 : (-nI 1 : Int32).toInt = -1 := by decide
  have t10 : (-nI 10 : Int32).toInt = -10 := by decide
  have t200 : (-nI 200 : Int32).toInt = -200 := by decide
  have b0 : ((-nI 10) - nI a : Int32) < 0 := by rw [Int32.lt_iff_toInt_lt, et]; show _ < (0 : Int); omega
  have b1 : ¬ ((-nI 10) - nI a : Int32) = (-nI 1) := fun q => by
    have := congrArg Int32.toInt q
    rw [et, t1] at this; omega
  have b2 : ((-nI 10) - nI a : Int32) ≤ (-nI 10) := by rw [Int32.le_iff_toInt_le, et, t10]; omega
  have b3 : ¬ ((-nI 10) - nI a : Int32) ≤ (-nI 200) := fun q => by rw [Int32.le_iff_toInt_le, et, t200] at q; omega
  have b4 : (-nI 200) < ((-nI 10) - nI a : Int32) := by rw [Int32.lt_iff_toInt_lt, et, t200]; omega
  have e0 : (nI 0).toNatClampNeg = 0 := nI_clamp (by decide)
  rw [q_X12_clausesOf_96, hE, if_neg a1, e, hs, if_pos b0, if_neg b1, if_pos b2, if_neg b3, if_pos b4, subsub, e0, hb, nI_add, Nat.add_assoc]
  unfold bindv
  cases b
  · show l_X12_clausesOf_96 m p f many tide y ((su + nI 0) - nI 0) _ _ _ = l_X12_clausesOf_96 m p f many tide y (su + nI 0 * nI a) _ _ _
    rw [pk_mul, Nat.zero_mul, show (nI 0 : Int32) = 0 from rfl, Int32.add_zero, Int32.sub_zero]
  · show l_X12_clausesOf_96 m p f many tide y ((su + nI a) - nI 0) _ _ _ = l_X12_clausesOf_96 m p f many tide y (su + nI 1 * nI a) _ _ _
    rw [pk_mul, Nat.one_mul, show (nI 0 : Int32) = 0 from rfl, Int32.sub_zero]
theorem ms_dull (hE : HE m F n) (hF : F + n ≤ 927) {y j a : Nat} {su : Int32} {tr : Fn} {b : Bool} (hj : j < n) (ha : a < 100) (hb : tr 0 = b2i b) (hs : Ms.s m (F + j) = (-nI 200) - nI a) :
    l_X12_clausesOf_96 m p f many tide (y + 1) su (nI 1) (nI (F + j)) tr = l_X12_clausesOf_96 m p f many tide y (su - (b2i b * nI a)) (nI 0) (nI (F + (j + 1))) tr := by
  unfold HE at hE
  have e : (nI (F + j)).toNatClampNeg = F + j := nI_clamp (by omega)
  have a1 : ¬ nI (F + n) ≤ nI (F + j) := fun q => by rw [nI_leI (by omega) (by omega)] at q; omega
  have et := negsub_toInt (a := 200) (n := a) (by decide) (by omega)
  have t1 : (-nI 1 : Int32).toInt = -1 := by decide
  have t10 : (-nI 10 : Int32).toInt = -10 := by decide
  have t200 : (-nI 200 : Int32).toInt = -200 := by decide
  have b0 : ((-nI 200) - nI a : Int32) < 0 := by rw [Int32.lt_iff_toInt_lt, et]; show _ < (0 : Int); omega
  have b1 : ¬ ((-nI 200) - nI a : Int32) = (-nI 1) := fun q => by
    have := congrArg Int32.toInt q
    rw [et, t1] at this; omega
  have b2 : ((-nI 200) - nI a : Int32) ≤ (-nI 10) := by rw [Int32.le_iff_toInt_le, et, t10]; omega
  have b3 : ((-nI 200) - nI a : Int32) ≤ (-nI 200) := by rw [Int32.le_iff_toInt_le, et, t200]; omega
  have b4 : ¬ (-nI 200) < ((-nI 200) - nI a : Int32) := fun q => by rw [Int32.lt_iff_toInt_lt, et, t200] at q; omega
  have e0 : (nI 0).toNatClampNeg = 0 := nI_clamp (by decide)
  rw [q_X12_clausesOf_96, hE, if_neg a1, e, hs, if_pos b0, if_neg b1, if_pos b2, if_pos b3, if_neg b4, subsub, e0, hb, nI_add, Nat.add_assoc]
  unfold bindv
  cases b
  · show l_X12_clausesOf_96 m p f many tide y ((su + nI 0) - nI 0) _ _ _ = l_X12_clausesOf_96 m p f many tide y (su - nI 0 * nI a) _ _ _
    rw [pk_mul, Nat.zero_mul, show (nI 0 : Int32) = 0 from rfl, Int32.add_zero]
  · show l_X12_clausesOf_96 m p f many tide y ((su + nI 0) - nI a) _ _ _ = l_X12_clausesOf_96 m p f many tide y (su - nI 1 * nI a) _ _ _
    rw [pk_mul, Nat.one_mul, show (nI 0 : Int32) = 0 from rfl, Int32.add_zero]
/-- a ledge's steps of both, through and through -/
def Sts (st g : Fn) (n : Nat) (dp : Nat → Nat) : Prop := dp 0 = 0 ∧ ∀ j, j < n → StpR (st j) (g j) (dp j) (dp (j + 1))
theorem sum_l (hE : HE m F n) (hF : F + n ≤ 927) (st : Fn) (sz : Int32) {dp : Nat → Nat} (hz : sz = nI n) (hn : n ≤ 100) (h : Sts st (fun j => Ms.s m (F + j)) n dp) : ∀ (x j : Nat) (su bi : Int32) (tr : Fn), x + j = 101 → j ≤ n → RB bi (dp j) tr →
    l_X4_sum_7 p (Ms.s m (nI 24 + p).toNatClampNeg) (Ms.s m (nI 30 + p).toNatClampNeg) f many tide st sz x su bi (nI j) = (l_X12_clausesOf_96 m p f many tide (x + 899) su (nI (dp j)) (nI (F + j)) tr).1 := by
  intro x
  induction x with
  | zero => intro j su bi tr h1 h2; omega
  | succ x ih =>
    intro j su bi tr h1 h2 h3
    rw [show x + 1 + 899 = x + 899 + 1 by omega]
    by_cases z : j = n
    · subst z
      rw [cs_end _ _ _ _ _ _ _ _ hz hn, ms_end m p f many tide hE hF]
    · have hj : j < n := by omega
      rcases h.2 j hj with ⟨l, o, w, hl, ho, hw, c, e, hd, d1⟩ | ⟨c, e, hd, hd2, d1⟩ | ⟨c, e, hd, hd2, d1⟩ | ⟨c, e, hd, hd2, d1⟩ | ⟨a, ha, c, e, hd, d1⟩ | ⟨a, ha, c, e, hd, d1⟩
      · rw [cs_test _ _ _ _ _ _ _ _ hz hj hn hl ho hw c, ms_test m p f many tide hE hF hj (by omega) hl ho hw e, ← d1]
        exact ih (j + 1) _ _ _ (by omega) (by omega) (by rw [d1]; exact h3.push (by omega) _)
      · rw [cs_neg _ _ _ _ _ _ _ _ hz hj hn c (by decide), ms_not m p f many tide hE hF hj (by omega) hd (h3.top hd) e, show m_X4_joined (-nI 1) bi = (bi ^^^ nI 1) from rfl]
        rw [← d1] at hd ⊢
        exact ih (j + 1) _ _ _ (by omega) (by omega) (by rw [d1]; exact h3.neg (by omega) (by omega))
      · rw [cs_neg _ _ _ _ _ _ _ _ hz hj hn c (by decide), ms_two m p f many tide hE hF hj (by omega) hd (h3.top2 hd) (h3.top (by omega)) (Or.inl rfl) e, show m_X4_joined (-nI 2) bi = (((bi >>> (nI 1 &&& 31)) &&& (-nI 2)) ||| ((bi &&& (bi >>> (nI 1 &&& 31))) &&& nI 1)) from rfl, ← d1]
        refine ih (j + 1) _ _ _ (by omega) (by omega) ?_
        rw [d1]
        have q := h3.two (x := bi &&& (bi >>> (nI 1 &&& 31))) hd (by omega)
        rw [gb_and, gb_shr _ (by decide), Bool.and_comm] at q
        exact q
      · rw [cs_neg _ _ _ _ _ _ _ _ hz hj hn c (by decide), ms_two m p f many tide hE hF hj (by omega) hd (h3.top2 hd) (h3.top (by omega)) (Or.inr rfl) e, show m_X4_joined (-nI 3) bi = (((bi >>> (nI 1 &&& 31)) &&& (-nI 2)) ||| ((bi ||| (bi >>> (nI 1 &&& 31))) &&& nI 1)) from rfl, ← d1]
        refine ih (j + 1) _ _ _ (by omega) (by omega) ?_
        rw [d1]
        have q := h3.two (x := bi ||| (bi >>> (nI 1 &&& 31))) hd (by omega)
        rw [gb_or, gb_shr _ (by decide), Bool.or_comm] at q
        exact q
      · have t := h3.top (by omega)
        rw [hd] at t ⊢
        rw [cs_loud _ _ _ _ _ _ _ _ hz hj hn ha c, ms_loud m p f many tide hE hF hj ha t e, and1]
        have := ih (j + 1) (su + (b2i (bi.toBitVec.getLsbD 0) * nI a)) (nI 0) tr (by omega) (by omega) (by rw [d1]; exact RB.nil _ _)
        rw [d1] at this
        exact this
      · have t := h3.top (by omega)
        rw [hd] at t ⊢
        rw [cs_dull _ _ _ _ _ _ _ _ hz hj hn ha c, ms_dull m p f many tide hE hF hj ha t e, and1]
        have := ih (j + 1) (su - (b2i (bi.toBitVec.getLsbD 0) * nI a)) (nI 0) tr (by omega) (by omega) (by rw [d1]; exact RB.nil _ _)
        rw [d1] at this
        exact this
/-- what a ledge sums to is the same -/
theorem sum_eq (hE : HE m F n) (hF : F + n ≤ 927) (hF2 : (nI 227 + (nI 140 * (Ms.s m (nI 23).toNatClampNeg))) = nI F) (st : Fn) (sz : Int32) {dp : Nat → Nat} (hz : sz = nI n) (hn : n ≤ 100) (h : Sts st (fun j => Ms.s m (F + j)) n dp) :
    (m_X12_clausesOf m p f many tide).1 = m_X4_sum p (Ms.s m (nI 24 + p).toNatClampNeg) (Ms.s m (nI 30 + p).toNatClampNeg) f many tide st sz := by
  unfold m_X12_clausesOf m_X4_sum
  rw [hF2]
  have q := sum_l m p f many tide hE hF st sz hz hn h 101 0 (nI 3) (nI 0) (Ms.tr m) rfl (by omega) (by rw [h.1]; exact RB.nil _ _)
  rw [h.1] at q
  exact q.symm
end SM

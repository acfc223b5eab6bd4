/-! a tide of the class, told in full -/
theorem has_1 {U i : Nat} (h : i < U) (hU : U ≤ 6) : ¬ m_X7_has (nI U) (nI i) = 0 := by
  unfold m_X7_has
  rw [if_neg (show ¬ nI i < 0 from Int32.not_lt.mpr (nI_le (Nat.zero_le _) (by omega))), if_neg (fun q => by rw [nI_leI (by omega) (by omega)] at q; omega), if_neg (fun q => by rw [nI_leI (by omega) (by omega)] at q; omega)]
  decide
theorem has_0 {U i : Nat} (h : U ≤ i) (hi : i < 1000) : m_X7_has (nI U) (nI i) = 0 := by
  unfold m_X7_has
  rw [if_neg (show ¬ nI i < 0 from Int32.not_lt.mpr (nI_le (Nat.zero_le _) (by omega))), if_pos (nI_le h (by omega))]
  rfl
def outB (ou : Int32) (p : Nat) : Bool := decide (¬ m_X7_isOut ou (nI p) = 0)
/-- what those beside one know -/
def lft (ou : Int32) (X : Nat → Nat) (p : Nat) : Nat := if p = 0 then 0 else if outB ou (p - 1) = true then 0 else X (p - 1)
def rgt (ou : Int32) (U : Nat) (X : Nat → Nat) (p : Nat) : Nat := if U ≤ p + 1 then 0 else if outB ou (p + 1) = true then 0 else X (p + 1)
def Qc (c : Sc) (l : Lg) (U T le : Nat) (X : Nat → Nat) (p f : Nat) : Bool := ((X p).testBit f && decide (¬ oc c l p (nI (cnt (X p))) (nI (T % 10)) f < 0)) || (decide (f = le) && decide (¬ oc c l p (nI (cnt (X p))) (nI (T % 10)) f ≤ 0)) || (((lft (Sc.ou c) X p).testBit f || (rgt (Sc.ou c) U X p).testBit f) && decide (¬ oc c l p (nI (cnt (X p))) (nI (T % 10)) f < Lg.pa l))
def nxc (c : Sc) (l : Lg) (U T R le : Nat) (X : Nat → Nat) (p : Nat) : Nat := if outB (Sc.ou c) p = true then X p else sel (Qc c l U T le X p) 8 0 R 0
theorem tb0 (c : Sc) (l : Lg) (i : Nat) (cn tt : Int32) {f : Nat} (h : f < 8) : tb c l i cn tt f = decide (¬ oc c l i cn tt f < 0) := by unfold tb; rw [if_pos h]
theorem tb8 (c : Sc) (l : Lg) (i : Nat) (cn tt : Int32) {f : Nat} (h : f < 8) : tb c l i cn tt (8 + f) = decide (¬ oc c l i cn tt f ≤ 0) := by unfold tb; rw [if_neg (by omega), if_pos (by omega), Nat.add_sub_cancel_left]
theorem tb16 (c : Sc) (l : Lg) (i : Nat) (cn tt : Int32) {f : Nat} (h : f < 8) : tb c l i cn tt (16 + f) = decide (¬ oc c l i cn tt f < Lg.pa l) := by unfold tb; rw [if_neg (by omega), if_neg (by omega), Nat.add_sub_cancel_left]
theorem gt_l {s : Wt} {U T R le : Nat} {X : Nat → Nat} (hU : U ≤ 6) (hu : Sc.sz (Wt.c s) = nI U) (hT : Sc.ti (Wt.c s) = nI T) (hT2 : T ≤ 1000000) (hX2 : ∀ p, p < U → X p < 256) (hR : Lg.ke (Wt.l s) = nI R) (hR2 : R < 1000) (hle : le ≤ 8) (hk : hK (Sc.sz (Wt.c s)) (Sc.kd (Wt.c s))) : ∀ (n k : Nat) (lv i : Int32) (m1 : Wt), k ≤ U → n + k = 7 → i = nI k → Tw s m1 → Sc.ti (Wt.c m1) = nI T → SK m1 → (∀ j, j < U → Sc.kn (Wt.c m1) j = nI (if j < k then nxc (Wt.c s) (Wt.l s) U T R le X j else X j)) → lv = nI (lft (Sc.ou (Wt.c s)) X k) →
    (∀ j, j < U → Sc.kn (Wt.c (l_X7_goTide_6 s (nI le) n lv i m1)) j = nI (nxc (Wt.c s) (Wt.l s) U T R le X j)) ∧ SK (l_X7_goTide_6 s (nI le) n lv i m1) := by
  intro n
  induction n with
  | zero => intro k lv i m1 h1 h2; omega
  | succ n ih =>
    intro k lv i m1 h1 h2 h3 h4 h5 h6 h7 h8
    have tw := h4
    obtain ⟨t1, t2, t3, t4, t5, t6, t7, t8, t9⟩ := h4
    rw [q_X7_goTide_6]
    by_cases c1 : Sc.sz (Wt.c m1) ≤ i
    · rw [if_pos c1]
      rw [t6, hu, h3, nI_leI (by omega) (by omega)] at c1
      have : k = U := by omega
      refine ⟨fun j hj => ?_, ?_⟩
      · have q := h7 j hj
        rw [if_pos (by omega)] at q
        exact q
      · intro i' c' t' a b c
        rcases h6 i' c' t' a b c with q | q
        · exact Or.inl q
        · exact Or.inr (q.ch rfl rfl rfl)
    · rw [if_neg c1]
      rw [t6, hu, h3, nI_leI (by omega) (by omega)] at c1
      have hkU : k < U := by omega
      have c2 : ¬ nI 6 ≤ i := fun q => by rw [h3, nI_leI (by decide) (by omega)] at q; omega
      rw [if_neg c2]
      have ei : i.toNatClampNeg = k := by rw [h3, nI_clamp (by omega)]
      have ei1 : (i + nI 1).toNatClampNeg = k + 1 := by rw [h3, nI_add, nI_clamp (by omega)]
      have hkn := h7 k hkU
      rw [if_neg (Nat.lt_irrefl k)] at hkn
      by_cases c3 : m_X7_isOut (Sc.ou (Wt.c m1)) i = 0
      · rw [if_pos c3]
        have c3' : m_X7_isOut (Sc.ou (Wt.c s)) (nI k) = 0 := by rw [← t7, ← h3]; exact c3
        have o3 : ¬ outB (Sc.ou (Wt.c s)) k = true := by
          unfold outB
          simp [c3']
        have hr : (if m_X7_has (Sc.sz (Wt.c m1)) (i + nI 1) = 0 then nI 0 else (if m_X7_isOut (Sc.ou (Wt.c m1)) (i + nI 1) = 0 then Sc.kn (Wt.c m1) (i + nI 1).toNatClampNeg else nI 0)) = nI (rgt (Sc.ou (Wt.c s)) U X k) := by
          rw [t6, t7, hu, ei1, h3, nI_add]
          unfold rgt
          by_cases z : U ≤ k + 1
          · rw [if_pos z, if_pos (has_0 z (by omega))]
          · rw [if_neg z, if_neg (has_1 (by omega) hU)]
            unfold outB
            by_cases y : m_X7_isOut (Sc.ou (Wt.c s)) (nI (k + 1)) = 0
            · rw [if_pos y, if_neg (by simp [y])]
              have q := h7 (k + 1) (by omega)
              rw [if_neg (by omega)] at q
              exact q
            · rw [if_neg y, if_pos (by simp [y])]
        rw [hr]
        have hX := hX2 k hkU
        have cn := cnt_is (X k)
        have so := setsOf_eq (s := m1) h6 (i := k) (X := X k) (C := cnt (X k)) (T := T) (by omega) (by rw [t6, hu]; exact has_1 hkU hU) (by
          have q := hk (nI k) (by rw [hu]; exact has_1 hkU hU)
          rw [nI_clamp (by omega)] at q
          rw [t2]; exact q) hkn (by rw [← cnt_eq _ hX]; exact cn.1) cn.2 h5 hT2
        have es := ef_setsOf (s := m1) (i := nI k) rfl
        rw [← h3] at so es
        generalize m_X1_setsOf m1 i = r at so es ⊢
        obtain ⟨wb, sk⟩ := so
        have wb2 : WB (Wt.c s) (Wt.l s) k (nI (cnt (X k))) (nI (T % 10)) r.1 := by
          rw [t1] at wb
          exact wb.ch t2.symm t3.symm t4.symm
        simp only [bindv]
        rw [ei, hkn]
        have lb : lft (Sc.ou (Wt.c s)) X k < 256 := by
          unfold lft
          split
          · decide
          · split
            · decide
            · exact hX2 _ (by omega)
        have rb : rgt (Sc.ou (Wt.c s)) U X k < 256 := by
          unfold rgt
          split
          · decide
          · split
            · decide
            · exact hX2 _ (by omega)
        have hi8 : ∀ (y : Nat), y < 256 → ∀ b, 8 ≤ b → y.testBit b = false := fun y hy b hb => Nat.testBit_lt_two_pow (Nat.lt_of_lt_of_le hy (Nat.pow_le_pow_right (by decide : 0 < 2) hb))
        obtain ⟨N, hN, eN, bN⟩ := next_set (so := r.1) (pa := Lg.pa (Wt.l s)) (lv := lv) (rv := nI (rgt (Sc.ou (Wt.c s)) U X k)) hX hle (by
          intro b hb hb2
          rw [gb_or, h8, gb_nI, gb_nI, hi8 _ lb b hb, hi8 _ rb b hb]; simp)
        have ek : Lg.ke (Wt.l r.2) = nI R := by rw [es.2, t1]; exact hR
        rw [eN, ek, least_eq hN hR2]
        have en : sel N.testBit 8 0 R 0 = nxc (Wt.c s) (Wt.l s) U T R le X k := by
          unfold nxc
          rw [if_neg o3]
          refine sel_congr 8 0 R 0 fun b hb => ?_
          have hb8 : b < 8 := by omega
          rw [bN b hb8]
          unfold Qt Qc
          rw [wb2 b (by omega), wb2 (8 + b) (by omega), wb2 (16 + b) (by omega), tb0 _ _ _ _ _ hb8, tb8 _ _ _ _ _ hb8, tb16 _ _ _ _ _ hb8, gb_or, h8, gb_nI, gb_nI]
          have a1 : b < 32 := by omega
          simp [a1]
        rw [en]
        refine ih (k + 1) _ _ _ (by omega) (by omega) (by rw [h3]; exact nI_add k 1) ?_ ?_ ?_ (fun j hj => ?_) ?_
        · unfold Tw at *
          rw [← es.1, ← es.2] at tw
          exact tw
        · rw [← es.1] at h5; exact h5
        · intro i' c' t' a b c
          rcases sk i' c' t' a b c with q | q
          · exact Or.inl q
          · exact Or.inr (q.ch rfl rfl rfl)
        · show upd (Sc.kn (Wt.c r.2)) k (nI (nxc (Wt.c s) (Wt.l s) U T R le X k)) j = _
          by_cases z : j = k
          · rw [z, pk_us, if_pos (by omega)]
          · rw [pk_un z, es.1, h7 j hj]
            by_cases y : j < k
            · rw [if_pos y, if_pos (by omega)]
            · rw [if_neg y, if_neg (by omega)]
        · unfold lft
          rw [if_neg (by omega), Nat.add_sub_cancel, if_neg o3]
      · rw [if_neg c3]
        have c3' : ¬ m_X7_isOut (Sc.ou (Wt.c s)) (nI k) = 0 := by rw [← t7, ← h3]; exact c3
        have o3 : outB (Sc.ou (Wt.c s)) k = true := by
          unfold outB
          simp [c3']
        refine ih (k + 1) _ _ _ (by omega) (by omega) (by rw [h3]; exact nI_add k 1) tw h5 h6 (fun j hj => ?_) ?_
        · rw [h7 j hj]
          by_cases z : j = k
          · rw [z, if_neg (Nat.lt_irrefl k), if_pos (by omega)]
            unfold nxc
            rw [if_pos o3]
          · by_cases y : j < k
            · rw [if_pos y, if_pos (by omega)]
            · rw [if_neg y, if_neg (by omega)]
        · unfold lft
          rw [if_neg (by omega), Nat.add_sub_cancel, if_pos o3]
/-- A TIDE OF THE CLASS -/
theorem goTide_eq {s : Wt} {U T R le : Nat} {X : Nat → Nat} (hU : U ≤ 6) (hu : Sc.sz (Wt.c s) = nI U) (hT : Sc.ti (Wt.c s) = nI T) (hT2 : T ≤ 1000000) (hX : ∀ p, p < U → Sc.kn (Wt.c s) p = nI (X p)) (hX2 : ∀ p, p < U → X p < 256) (hR : Lg.ke (Wt.l s) = nI R) (hR2 : R < 1000) (hle : le ≤ 8) (hk : hK (Sc.sz (Wt.c s)) (Sc.kd (Wt.c s))) (sk : SK s) :
    (∀ j, j < U → Sc.kn (Wt.c (m_X7_goTide s (nI le))) j = nI (nxc (Wt.c s) (Wt.l s) U T R le X j)) ∧ SK (m_X7_goTide s (nI le)) :=
  gt_l hU hu hT hT2 hX2 hR hR2 hle hk 7 0 (nI 0) (nI 0) s (Nat.zero_le _) rfl rfl ⟨rfl, rfl, rfl, rfl, rfl, rfl, rfl, rfl, rfl⟩ hT sk (fun j hj => by rw [if_neg (by omega)]; exact hX j hj) rfl

/-! printed by wip/whole/gen/specs38.py: ledges of the model -/
theorem ef_much_1002 {m : Ms} (kd : Int32) (hg : Pg 0 0 m) (ho : Ms.op m = nI 0) : Pe m (m_X12_much_1002 m kd) := by
  unfold m_X12_much_1002 bindv
  dsimp only
  have e1 := ef_spells_1002 m
  have e2 := ef_figures (m_X12_spells_1002 m)
  have e3 := (ef_must (m_X12_figures (m_X12_spells_1002 m)).2 (c := nI 32) (by decide)).1
  have p3 := (e1.1.tr e2).tr e3
  have e4 := ef_someT_r rfl (p3.2.2 0 0 hg) (p3.1.trans ho)
  have p := p3.tr e4
  refine ⟨ef_emits.1.trans p.1, fun w => by rw [ef_emits.2.1]; exact p.2.1 w, fun j q h => ef_emits.2.2 j q (p.2.2 j q h) fun w => ?_⟩
  have p2 := (e2.tr e3).tr e4
  have w1 := Classical.byContradiction fun z => p2.2.1 z w
  exact (p2.2.2 _ _ (e1.2 w1 j q h)).mono (Nat.le_refl _) (by omega)
theorem ef_much_1003 {m : Ms} (kd : Int32) (hg : Pg 0 0 m) (ho : Ms.op m = nI 0) : Pe m (m_X12_much_1003 m kd) := by
  unfold m_X12_much_1003 bindv
  dsimp only
  have e1 := ef_spells_1003 m
  have e2 := ef_figures (m_X12_spells_1003 m)
  have e3 := (ef_must (m_X12_figures (m_X12_spells_1003 m)).2 (c := nI 32) (by decide)).1
  have p3 := (e1.1.tr e2).tr e3
  have e4 := ef_someT_r rfl (p3.2.2 0 0 hg) (p3.1.trans ho)
  have p := p3.tr e4
  refine ⟨ef_emits.1.trans p.1, fun w => by rw [ef_emits.2.1]; exact p.2.1 w, fun j q h => ef_emits.2.2 j q (p.2.2 j q h) fun w => ?_⟩
  have p2 := (e2.tr e3).tr e4
  have w1 := Classical.byContradiction fun z => p2.2.1 z w
  exact (p2.2.2 _ _ (e1.2 w1 j q h)).mono (Nat.le_refl _) (by omega)
theorem ef_tells_1000 {m : Ms} {x : Int32} {w : Nat} (hg : Pg 0 0 m) (hx : x = nI w) (hw : w + 5 ≤ 222) : Pe m (m_X12_tellsHere_1000 m x) := by
  have e1 := ef_spells_1000 m
  have e2 := ef_figures (m_X12_spells_1000 m)
  have p := e1.1.tr e2
  unfold m_X12_tellsHere_1000 bindv
  dsimp only
  generalize m_X12_figures (m_X12_spells_1000 m) = r at p ⊢
  by_cases c : Ms.wr r.2 = 0
  · rw [if_pos c]
    refine ⟨p.1, p.2.1, fun j q h => ?_⟩
    obtain ⟨a, e, pp, cc, g1, g2, g3, g4, g5, g6, g7, g8, g9, g10⟩ := p.2.2 j q h
    refine ⟨a, e, pp, cc, g1, g2, g3, g4, g5, g6, ?_, g8, g9, g10⟩
    refine Eq.trans (pk_un ?_) g7
    show ¬ 222 + a = (x + Ms.ac r.2).toNatClampNeg
    rw [hx, g1, nI_add, nI_clamp (by omega)]
    omega
  · rw [if_neg c]; exact p
theorem ef_tells_1001 {m : Ms} {x : Int32} {w : Nat} (hg : Pg 0 0 m) (hx : x = nI w) (hw : w + 5 ≤ 222) : Pe m (m_X12_tellsHere_1001 m x) := by
  have e1 := ef_spells_1001 m
  have e2 := ef_figures (m_X12_spells_1001 m)
  have p := e1.1.tr e2
  unfold m_X12_tellsHere_1001 bindv
  dsimp only
  generalize m_X12_figures (m_X12_spells_1001 m) = r at p ⊢
  by_cases c : Ms.wr r.2 = 0
  · rw [if_pos c]
    refine ⟨p.1, p.2.1, fun j q h => ?_⟩
    obtain ⟨a, e, pp, cc, g1, g2, g3, g4, g5, g6, g7, g8, g9, g10⟩ := p.2.2 j q h
    refine ⟨a, e, pp, cc, g1, g2, g3, g4, g5, g6, ?_, g8, g9, g10⟩
    refine Eq.trans (pk_un ?_) g7
    show ¬ 222 + a = (x + Ms.ac r.2).toNatClampNeg
    rw [hx, g1, nI_add, nI_clamp (by omega)]
    omega
  · rw [if_neg c]; exact p
def m_X12_clauseHere (m : Ms) : Ms := if (m_X12_here (Ms.s m) (Ms.sp m) (Ms.en m)) = nI 100 then (bindv (m_X12_much_1003 m (-nI 200)) (fun r9 => r9)) else (if (m_X12_here (Ms.s m) (Ms.sp m) (Ms.en m)) = nI 107 then (bindv (m_X12_tellsHere_1000 m (nI 212)) (fun r10 => r10)) else (if (m_X12_here (Ms.s m) (Ms.sp m) (Ms.en m)) = nI 108 then (bindv (m_X12_much_1002 m (-nI 10)) (fun r11 => r11)) else (if (m_X12_here (Ms.s m) (Ms.sp m) (Ms.en m)) = nI 112 then (bindv (m_X12_tellsHere_1001 m (nI 217)) (fun r12 => r12)) else (Ms.th m, Ms.s m, Ms.im m, Ms.fr m, Ms.hi m, Ms.ac m, Ms.sp m, Ms.en m, nI 1, Ms.op m, Ms.bb m, Ms.tr m, Ms.su m, Ms.lf m, Ms.lk m, Ms.nx m, Ms.bo m, Ms.ra m, Ms.ki m, Ms.nu m, Ms.tv m))))
set_option maxRecDepth 100000 in
set_option maxHeartbeats 4000000 in
theorem c_X12_clauseHere (l : Launch) {fv : Value} (hf : FV fv) (m : Ms) (hg : Pg 0 0 m) (ho : Ms.op m = nI 0) : CT l fv 32 jX12_clauseHere [.ref 0] (hMs m) (DP none (hMs (m_X12_clauseHere m))) := by
  refine CT_of [] mt_X12_clauseHere (by decide +kernel) (tab_X12 hf) okX12_clauseHere (Nat.le_of_ble_eq_true rfl) ?_
  intro J hJ hD
  refine hJ 0 _ _ _ ?_
  refine CALL_same (r := some (.int (m_X12_here (Ms.s m) (Ms.sp m) (Ms.en m)))) (h1 := hMs m) (by decide) (c_X12_here l hf m hg.ix) ?_
  refine And.intro (by decide) (And.intro (fun c1 => ?_) (fun d5 => And.intro (fun c2 => ?_) (fun d6 => And.intro (fun c3 => ?_) (fun d7 => And.intro (fun c4 => ?_) (fun d8 => ?_)))))
  · skip
    refine hJ 83 _ _ _ ?_
    obtain ⟨r9, er9⟩ : ∃ z : Ms, m_X12_much_1003 m (-nI 200) = z := ⟨_, rfl⟩
    have hr9 := c_X12_much_1003 l hf m (-nI 200) hg ho
    rw [er9] at hr9
    refine CALL_same (r := none) (h1 := hMs r9) (by decide) (hr9) ?_
    refine hJ 100 _ _ _ ?_
    exact And.intro rfl (DPs (F := (fun z => hMs z)) (s' := r9) ((if_pos (sw_eq 100 c1 rfl (by decide))).trans (bindv_eq er9)))
  · skip
    refine hJ 48 _ _ _ ?_
    obtain ⟨r10, er10⟩ : ∃ z : Ms, m_X12_tellsHere_1000 m (nI 212) = z := ⟨_, rfl⟩
    have hr10 := c_X12_tellsHere_1000 l hf m (nI 212) hg (w := 212) rfl (by decide)
    rw [er10] at hr10
    refine CALL_same (r := none) (h1 := hMs r10) (by decide) (hr10) ?_
    refine hJ 100 _ _ _ ?_
    exact And.intro rfl (DPs (F := (fun z => hMs z)) (s' := r10) ((if_neg (sw_nn 100 d5 rfl (by decide))).trans ((if_pos (sw_eq 107 c2 rfl (by decide))).trans (bindv_eq er10))))
  · skip
    refine hJ 72 _ _ _ ?_
    obtain ⟨r11, er11⟩ : ∃ z : Ms, m_X12_much_1002 m (-nI 10) = z := ⟨_, rfl⟩
    have hr11 := c_X12_much_1002 l hf m (-nI 10) hg ho
    rw [er11] at hr11
    refine CALL_same (r := none) (h1 := hMs r11) (by decide) (hr11) ?_
    refine hJ 100 _ _ _ ?_
    exact And.intro rfl (DPs (F := (fun z => hMs z)) (s' := r11) ((if_neg (sw_nn 100 d5 rfl (by decide))).trans ((if_neg (sw_nn 107 d6 rfl (by decide))).trans ((if_pos (sw_eq 108 c3 rfl (by decide))).trans (bindv_eq er11)))))
  · skip
    refine hJ 60 _ _ _ ?_
    obtain ⟨r12, er12⟩ : ∃ z : Ms, m_X12_tellsHere_1001 m (nI 217) = z := ⟨_, rfl⟩
    have hr12 := c_X12_tellsHere_1001 l hf m (nI 217) hg (w := 217) rfl (by decide)
    rw [er12] at hr12
    refine CALL_same (r := none) (h1 := hMs r12) (by decide) (hr12) ?_
    refine hJ 100 _ _ _ ?_
    exact And.intro rfl (DPs (F := (fun z => hMs z)) (s' := r12) ((if_neg (sw_nn 100 d5 rfl (by decide))).trans ((if_neg (sw_nn 107 d6 rfl (by decide))).trans ((if_neg (sw_nn 108 d7 rfl (by decide))).trans ((if_pos (sw_eq 112 c4 rfl (by decide))).trans (bindv_eq er12))))))
  · skip
    refine hJ 95 _ _ _ ?_
    refine And.intro (Or.inr rfl) ?_
    exact And.intro rfl (DPs (F := (fun z => hMs z)) (s' := (Ms.th m, Ms.s m, Ms.im m, Ms.fr m, Ms.hi m, Ms.ac m, Ms.sp m, Ms.en m, nI 1, Ms.op m, Ms.bb m, Ms.tr m, Ms.su m, Ms.lf m, Ms.lk m, Ms.nx m, Ms.bo m, Ms.ra m, Ms.ki m, Ms.nu m, Ms.tv m)) ((if_neg (sw_nn 100 d5 rfl (by decide))).trans ((if_neg (sw_nn 107 d6 rfl (by decide))).trans ((if_neg (sw_nn 108 d7 rfl (by decide))).trans (if_neg (sw_nn 112 d8 rfl (by decide)))))))
theorem ef_clauseHere {m : Ms} (hg : Pg 0 0 m) (ho : Ms.op m = nI 0) : Pe m (m_X12_clauseHere m) := by
  unfold m_X12_clauseHere bindv
  dsimp only
  by_cases c1 : m_X12_here (Ms.s m) (Ms.sp m) (Ms.en m) = nI 100
  · rw [if_pos c1]; exact ef_much_1003 _ hg ho
  · rw [if_neg c1]
    by_cases c2 : m_X12_here (Ms.s m) (Ms.sp m) (Ms.en m) = nI 107
    · rw [if_pos c2]; exact ef_tells_1000 hg (w := 212) rfl (by decide)
    · rw [if_neg c2]
      by_cases c3 : m_X12_here (Ms.s m) (Ms.sp m) (Ms.en m) = nI 108
      · rw [if_pos c3]; exact ef_much_1002 _ hg ho
      · rw [if_neg c3]
        by_cases c4 : m_X12_here (Ms.s m) (Ms.sp m) (Ms.en m) = nI 112
        · rw [if_pos c4]; exact ef_tells_1001 hg (w := 217) rfl (by decide)
        · rw [if_neg c4]; exact Pe.go rfl rfl rfl (Or.inr rfl) (Or.inr rfl) rfl (fun _ => by show ¬ nI 1 = 0; decide)
theorem ef_clauseHere_r {m r : Ms} (e : m_X12_clauseHere m = r) (hg : Pg 0 0 m) (ho : Ms.op m = nI 0) : Pe m r := by rw [← e]; exact ef_clauseHere hg ho
theorem lg_act {x : Int32} (h : rl 5 x) (c : ¬ x = nI 5) : vp_in x 5 := by
  obtain ⟨k, hk, rfl⟩ := h
  have : k ≠ 5 := fun e => c (by rw [e])
  exact vp_in_nI (by omega) (by decide)
theorem lg_start {x y : Int32} {m' : Ms} (ha : vp_in x 5) (ht : rl 100 y) (h1 : Ms.ac m' = x) (h2 : Ms.en m' = y) (h3 : Ms.sp m' = nI 0) (h4 : Ms.wr m' = nI 0) (h5 : Ms.s m' (nI 222 + x).toNatClampNeg = nI 0) : Pg 0 0 m' := by
  obtain ⟨a, g1, rfl⟩ := vp_in_of ha (by decide)
  obtain ⟨e, g2, rfl⟩ := ht
  rw [nI_add, nI_clamp (by omega)] at h5
  exact ⟨a, e, 0, 0, h1, g1, h2, g2, h3, by omega, h5, by omega, by omega, by rw [h4]; exact Or.inl rfl⟩
theorem c22 : (nI 22).toNatClampNeg = 22 := nI_clamp (by decide)
theorem c18 : (nI 18).toNatClampNeg = 18 := nI_clamp (by decide)
def l_X12_ledge_108 (m : Ms) (r2 : Ms) : Nat → Int32 → Ms → Int32 × Ms
  | 0, _, _ => (0, m)
  | n108 + 1, n, m1 => if Ms.wr m1 = 0 then (if nI 10 ≤ n then (if Ms.wr m1 = 0 then (if Ms.sp m1 = Ms.en m1 then (Ms.ac m1, (Ms.th m1, (upd (upd (Ms.s m1) (nI 18).toNatClampNeg ((Ms.s m1 (nI 18).toNatClampNeg) + nI 1)) (nI 23).toNatClampNeg (Ms.ac m1)), Ms.im m1, Ms.fr m1, Ms.hi m1, Ms.ac m1, Ms.sp m1, Ms.en m1, Ms.wr m1, Ms.op m1, Ms.bb m1, Ms.tr m1, Ms.su m1, Ms.lf m1, Ms.lk m1, Ms.nx m1, Ms.bo m1, Ms.ra m1, Ms.ki m1, Ms.nu m1, Ms.tv m1)) else (((-nI 10) - Ms.sp m1), m1)) else (((-nI 10) - Ms.sp m1), m1)) else (if (m_X12_here (Ms.s m1) (Ms.sp m1) (Ms.en m1)) = nI 59 then (bindv (m_X12_clauseHere (Ms.th m1, Ms.s m1, Ms.im m1, Ms.fr m1, Ms.hi m1, Ms.ac m1, (Ms.sp m1 + nI 1), Ms.en m1, Ms.wr m1, Ms.op m1, Ms.bb m1, Ms.tr m1, Ms.su m1, Ms.lf m1, Ms.lk m1, Ms.nx m1, Ms.bo m1, Ms.ra m1, Ms.ki m1, Ms.nu m1, Ms.tv m1)) (fun r12 => l_X12_ledge_108 m r2 n108 (n + nI 1) r12)) else (if Ms.wr m1 = 0 then (if Ms.sp m1 = Ms.en m1 then (Ms.ac m1, (Ms.th m1, (upd (upd (Ms.s m1) (nI 18).toNatClampNeg ((Ms.s m1 (nI 18).toNatClampNeg) + nI 1)) (nI 23).toNatClampNeg (Ms.ac m1)), Ms.im m1, Ms.fr m1, Ms.hi m1, Ms.ac m1, Ms.sp m1, Ms.en m1, Ms.wr m1, Ms.op m1, Ms.bb m1, Ms.tr m1, Ms.su m1, Ms.lf m1, Ms.lk m1, Ms.nx m1, Ms.bo m1, Ms.ra m1, Ms.ki m1, Ms.nu m1, Ms.tv m1)) else (((-nI 10) - Ms.sp m1), m1)) else (((-nI 10) - Ms.sp m1), m1)))) else (if Ms.wr m1 = 0 then (if Ms.sp m1 = Ms.en m1 then (Ms.ac m1, (Ms.th m1, (upd (upd (Ms.s m1) (nI 18).toNatClampNeg ((Ms.s m1 (nI 18).toNatClampNeg) + nI 1)) (nI 23).toNatClampNeg (Ms.ac m1)), Ms.im m1, Ms.fr m1, Ms.hi m1, Ms.ac m1, Ms.sp m1, Ms.en m1, Ms.wr m1, Ms.op m1, Ms.bb m1, Ms.tr m1, Ms.su m1, Ms.lf m1, Ms.lk m1, Ms.nx m1, Ms.bo m1, Ms.ra m1, Ms.ki m1, Ms.nu m1, Ms.tv m1)) else (((-nI 10) - Ms.sp m1), m1)) else (((-nI 10) - Ms.sp m1), m1))
theorem q_X12_ledge_108 (m : Ms) (r2 : Ms) (n108 : Nat) (n : Int32) (m1 : Ms) : l_X12_ledge_108 m r2 (n108 + 1) n m1 = (if Ms.wr m1 = 0 then (if nI 10 ≤ n then (if Ms.wr m1 = 0 then (if Ms.sp m1 = Ms.en m1 then (Ms.ac m1, (Ms.th m1, (upd (upd (Ms.s m1) (nI 18).toNatClampNeg ((Ms.s m1 (nI 18).toNatClampNeg) + nI 1)) (nI 23).toNatClampNeg (Ms.ac m1)), Ms.im m1, Ms.fr m1, Ms.hi m1, Ms.ac m1, Ms.sp m1, Ms.en m1, Ms.wr m1, Ms.op m1, Ms.bb m1, Ms.tr m1, Ms.su m1, Ms.lf m1, Ms.lk m1, Ms.nx m1, Ms.bo m1, Ms.ra m1, Ms.ki m1, Ms.nu m1, Ms.tv m1)) else (((-nI 10) - Ms.sp m1), m1)) else (((-nI 10) - Ms.sp m1), m1)) else (if (m_X12_here (Ms.s m1) (Ms.sp m1) (Ms.en m1)) = nI 59 then (bindv (m_X12_clauseHere (Ms.th m1, Ms.s m1, Ms.im m1, Ms.fr m1, Ms.hi m1, Ms.ac m1, (Ms.sp m1 + nI 1), Ms.en m1, Ms.wr m1, Ms.op m1, Ms.bb m1, Ms.tr m1, Ms.su m1, Ms.lf m1, Ms.lk m1, Ms.nx m1, Ms.bo m1, Ms.ra m1, Ms.ki m1, Ms.nu m1, Ms.tv m1)) (fun r12 => l_X12_ledge_108 m r2 n108 (n + nI 1) r12)) else (if Ms.wr m1 = 0 then (if Ms.sp m1 = Ms.en m1 then (Ms.ac m1, (Ms.th m1, (upd (upd (Ms.s m1) (nI 18).toNatClampNeg ((Ms.s m1 (nI 18).toNatClampNeg) + nI 1)) (nI 23).toNatClampNeg (Ms.ac m1)), Ms.im m1, Ms.fr m1, Ms.hi m1, Ms.ac m1, Ms.sp m1, Ms.en m1, Ms.wr m1, Ms.op m1, Ms.bb m1, Ms.tr m1, Ms.su m1, Ms.lf m1, Ms.lk m1, Ms.nx m1, Ms.bo m1, Ms.ra m1, Ms.ki m1, Ms.nu m1, Ms.tv m1)) else (((-nI 10) - Ms.sp m1), m1)) else (((-nI 10) - Ms.sp m1), m1)))) else (if Ms.wr m1 = 0 then (if Ms.sp m1 = Ms.en m1 then (Ms.ac m1, (Ms.th m1, (upd (upd (Ms.s m1) (nI 18).toNatClampNeg ((Ms.s m1 (nI 18).toNatClampNeg) + nI 1)) (nI 23).toNatClampNeg (Ms.ac m1)), Ms.im m1, Ms.fr m1, Ms.hi m1, Ms.ac m1, Ms.sp m1, Ms.en m1, Ms.wr m1, Ms.op m1, Ms.bb m1, Ms.tr m1, Ms.su m1, Ms.lf m1, Ms.lk m1, Ms.nx m1, Ms.bo m1, Ms.ra m1, Ms.ki m1, Ms.nu m1, Ms.tv m1)) else (((-nI 10) - Ms.sp m1), m1)) else (((-nI 10) - Ms.sp m1), m1))) := rfl
def m_X12_ledge (m : Ms) : Int32 × Ms := if (Ms.s m (nI 18).toNatClampNeg) = nI 5 then ((-nI 4), m) else (bindv (m_X12_clauseHere (Ms.th m, (upd (upd (upd (upd (Ms.s m) (nI 22).toNatClampNeg (nI 0)) (nI 212 + (Ms.s m (nI 18).toNatClampNeg)).toNatClampNeg (nI 4)) (nI 217 + (Ms.s m (nI 18).toNatClampNeg)).toNatClampNeg (nI 6)) (nI 222 + (Ms.s m (nI 18).toNatClampNeg)).toNatClampNeg (nI 0)), Ms.im m, Ms.fr m, Ms.hi m, (Ms.s m (nI 18).toNatClampNeg), nI 0, (Ms.s m (nI 22).toNatClampNeg), nI 0, nI 0, Ms.bb m, Ms.tr m, Ms.su m, Ms.lf m, Ms.lk m, Ms.nx m, Ms.bo m, Ms.ra m, Ms.ki m, Ms.nu m, Ms.tv m)) (fun r2 => l_X12_ledge_108 m r2 10 (nI 1) r2))
set_option maxRecDepth 100000 in
set_option maxHeartbeats 4000000 in
theorem c_X12_ledge (l : Launch) {fv : Value} (hf : FV fv) (m : Ms) (hl : rl 5 (Ms.s m (nI 18).toNatClampNeg)) (ht : rl 100 (Ms.s m (nI 22).toNatClampNeg)) : CT l fv 33 jX12_ledge [.ref 0] (hMs m) (DP (some (.int (m_X12_ledge m).1)) (hMs ((m_X12_ledge m).2))) := by
  refine CT_of [108] mt_X12_ledge (by decide +kernel) (tab_X12 hf) okX12_ledge (Nat.le_of_ble_eq_true rfl) ?_
  intro J hJ hD
  refine hJ 0 _ _ _ ?_
  refine And.intro (vp_in_nI (by decide) (by decide)) ?_
  refine And.intro (fun c1 => ?_) (fun c1 => ?_)
  · skip
    have ha := lg_act hl c1
    refine hJ 14 _ _ _ ?_
    refine And.intro (vp_in_nI (by decide) (by decide)) ?_
    refine And.intro True.intro ?_
    refine And.intro (vp_in_nI (by decide) (by decide)) ?_
    refine And.intro True.intro ?_
    refine And.intro (vp_in_nI (by decide) (by decide)) ?_
    refine And.intro (vp_ad 212 ha (by decide) (by decide)) ?_
    refine And.intro (vp_ad 217 ha (by decide) (by decide)) ?_
    refine And.intro (vp_ad 222 ha (by decide) (by decide)) ?_
    refine And.intro True.intro ?_
    refine And.intro (Or.inl rfl) ?_
    refine And.intro True.intro ?_
    obtain ⟨r2, er2⟩ : ∃ z : Ms, m_X12_clauseHere (Ms.th m, (upd (upd (upd (upd (Ms.s m) (nI 22).toNatClampNeg (nI 0)) (nI 212 + (Ms.s m (nI 18).toNatClampNeg)).toNatClampNeg (nI 4)) (nI 217 + (Ms.s m (nI 18).toNatClampNeg)).toNatClampNeg (nI 6)) (nI 222 + (Ms.s m (nI 18).toNatClampNeg)).toNatClampNeg (nI 0)), Ms.im m, Ms.fr m, Ms.hi m, (Ms.s m (nI 18).toNatClampNeg), nI 0, (Ms.s m (nI 22).toNatClampNeg), nI 0, nI 0, Ms.bb m, Ms.tr m, Ms.su m, Ms.lf m, Ms.lk m, Ms.nx m, Ms.bo m, Ms.ra m, Ms.ki m, Ms.nu m, Ms.tv m) = z := ⟨_, rfl⟩
    have hr2 := c_X12_clauseHere l hf (Ms.th m, (upd (upd (upd (upd (Ms.s m) (nI 22).toNatClampNeg (nI 0)) (nI 212 + (Ms.s m (nI 18).toNatClampNeg)).toNatClampNeg (nI 4)) (nI 217 + (Ms.s m (nI 18).toNatClampNeg)).toNatClampNeg (nI 6)) (nI 222 + (Ms.s m (nI 18).toNatClampNeg)).toNatClampNeg (nI 0)), Ms.im m, Ms.fr m, Ms.hi m, (Ms.s m (nI 18).toNatClampNeg), nI 0, (Ms.s m (nI 22).toNatClampNeg), nI 0, nI 0, Ms.bb m, Ms.tr m, Ms.su m, Ms.lf m, Ms.lk m, Ms.nx m, Ms.bo m, Ms.ra m, Ms.ki m, Ms.nu m, Ms.tv m) (by exact lg_start ha ht rfl rfl rfl rfl pk_us) rfl
    rw [er2] at hr2
    have h1 := ef_clauseHere_r er2 (by exact lg_start ha ht rfl rfl rfl rfl pk_us) rfl
    have h2 := h1.2.2 0 0 (by exact lg_start ha ht rfl rfl rfl rfl pk_us)
    refine CALL_same (r := none) (h1 := hMs r2) (by decide) (hr2) ?_
    have L108 : ∀ (n108 : Nat) (n : Int32) (m1 : Ms), (∃ z9 : Nat, z9 ≤ 10 ∧ n108 + z9 = 11 ∧ n = nI z9 ∧ Pg 0 0 m1 ∧ Ms.op m1 = nI 0 ∧ 0 < z9) → m_X12_ledge m = l_X12_ledge_108 m r2 n108 n m1 → J 108 [(0, .ref 0), (1, .int n)] [] (hMs m1) := by
      intro n108
      induction n108 with
      | zero =>
        intro n m1 hv
        obtain ⟨z9, g2, g4, g3, g5, g6, g7⟩ := hv
        omega
      | succ n108 ih108 =>
        intro n m1 hv e108
        obtain ⟨z9, g2, g4, g3, g5, g6, g7⟩ := hv
        refine hJ 108 _ _ _ ?_
        refine And.intro (fun c3 => ?_) (fun c3 => ?_)
        · skip
          refine hJ 150 _ _ _ ?_
          refine And.intro (fun c4 => ?_) (fun c4 => ?_)
          · skip
            refine hJ 168 _ _ _ ?_
            exact And.intro True.intro (DPis (F := (fun z => hMs z)) (s' := m1) (e108.trans ((q_X12_ledge_108 m r2 n108 n m1).trans ((if_neg c3).trans (if_neg c4)))))
          · skip
            refine And.intro (fun c5 => ?_) (fun c5 => ?_)
            · skip
              refine hJ 176 _ _ _ ?_
              refine And.intro (vp_in_nI (by decide) (by decide)) ?_
              refine And.intro (vp_in_nI (by decide) (by decide)) ?_
              refine And.intro (vp_in_nI (by decide) (by decide)) ?_
              exact And.intro True.intro (DPis (F := (fun z => hMs z)) (s' := (Ms.th m1, (upd (upd (Ms.s m1) (nI 18).toNatClampNeg ((Ms.s m1 (nI 18).toNatClampNeg) + nI 1)) (nI 23).toNatClampNeg (Ms.ac m1)), Ms.im m1, Ms.fr m1, Ms.hi m1, Ms.ac m1, Ms.sp m1, Ms.en m1, Ms.wr m1, Ms.op m1, Ms.bb m1, Ms.tr m1, Ms.su m1, Ms.lf m1, Ms.lk m1, Ms.nx m1, Ms.bo m1, Ms.ra m1, Ms.ki m1, Ms.nu m1, Ms.tv m1)) (e108.trans ((q_X12_ledge_108 m r2 n108 n m1).trans ((if_neg c3).trans ((if_pos c4).trans (if_pos c5))))))
            · skip
              exact And.intro True.intro (DPis (F := (fun z => hMs z)) (s' := m1) (e108.trans ((q_X12_ledge_108 m r2 n108 n m1).trans ((if_neg c3).trans ((if_pos c4).trans (if_neg c5))))))
        · skip
          refine And.intro (fun c6 => ?_) (fun c6 => ?_)
          · skip
            refine hJ 150 _ _ _ ?_
            refine And.intro (fun c7 => ?_) (fun c7 => ?_)
            · skip
              refine hJ 168 _ _ _ ?_
              exact And.intro True.intro (DPis (F := (fun z => hMs z)) (s' := m1) (e108.trans ((q_X12_ledge_108 m r2 n108 n m1).trans ((if_pos c3).trans ((if_pos c6).trans (if_neg c7))))))
            · skip
              refine And.intro (fun c8 => ?_) (fun c8 => ?_)
              · skip
                refine hJ 176 _ _ _ ?_
                refine And.intro (vp_in_nI (by decide) (by decide)) ?_
                refine And.intro (vp_in_nI (by decide) (by decide)) ?_
                refine And.intro (vp_in_nI (by decide) (by decide)) ?_
                exact And.intro True.intro (DPis (F := (fun z => hMs z)) (s' := (Ms.th m1, (upd (upd (Ms.s m1) (nI 18).toNatClampNeg ((Ms.s m1 (nI 18).toNatClampNeg) + nI 1)) (nI 23).toNatClampNeg (Ms.ac m1)), Ms.im m1, Ms.fr m1, Ms.hi m1, Ms.ac m1, Ms.sp m1, Ms.en m1, Ms.wr m1, Ms.op m1, Ms.bb m1, Ms.tr m1, Ms.su m1, Ms.lf m1, Ms.lk m1, Ms.nx m1, Ms.bo m1, Ms.ra m1, Ms.ki m1, Ms.nu m1, Ms.tv m1)) (e108.trans ((q_X12_ledge_108 m r2 n108 n m1).trans ((if_pos c3).trans ((if_pos c6).trans ((if_pos c7).trans (if_pos c8)))))))
              · skip
                exact And.intro True.intro (DPis (F := (fun z => hMs z)) (s' := m1) (e108.trans ((q_X12_ledge_108 m r2 n108 n m1).trans ((if_pos c3).trans ((if_pos c6).trans ((if_pos c7).trans (if_neg c8)))))))
          · skip
            have hn : z9 < 10 := cnt_lt g3 g2 (by decide) c6
            refine CALL_same (r := some (.int (m_X12_here (Ms.s m1) (Ms.sp m1) (Ms.en m1)))) (h1 := hMs m1) (by decide) (c_X12_here l hf m1 g5.ix) ?_
            refine And.intro (fun c9 => ?_) (fun c9 => ?_)
            · skip
              refine hJ 150 _ _ _ ?_
              refine And.intro (fun c10 => ?_) (fun c10 => ?_)
              · skip
                refine hJ 168 _ _ _ ?_
                exact And.intro True.intro (DPis (F := (fun z => hMs z)) (s' := m1) (e108.trans ((q_X12_ledge_108 m r2 n108 n m1).trans ((if_pos c3).trans ((if_neg c6).trans ((if_neg c9).trans (if_neg c10)))))))
              · skip
                refine And.intro (fun c11 => ?_) (fun c11 => ?_)
                · skip
                  refine hJ 176 _ _ _ ?_
                  refine And.intro (vp_in_nI (by decide) (by decide)) ?_
                  refine And.intro (vp_in_nI (by decide) (by decide)) ?_
                  refine And.intro (vp_in_nI (by decide) (by decide)) ?_
                  exact And.intro True.intro (DPis (F := (fun z => hMs z)) (s' := (Ms.th m1, (upd (upd (Ms.s m1) (nI 18).toNatClampNeg ((Ms.s m1 (nI 18).toNatClampNeg) + nI 1)) (nI 23).toNatClampNeg (Ms.ac m1)), Ms.im m1, Ms.fr m1, Ms.hi m1, Ms.ac m1, Ms.sp m1, Ms.en m1, Ms.wr m1, Ms.op m1, Ms.bb m1, Ms.tr m1, Ms.su m1, Ms.lf m1, Ms.lk m1, Ms.nx m1, Ms.bo m1, Ms.ra m1, Ms.ki m1, Ms.nu m1, Ms.tv m1)) (e108.trans ((q_X12_ledge_108 m r2 n108 n m1).trans ((if_pos c3).trans ((if_neg c6).trans ((if_neg c9).trans ((if_pos c10).trans (if_pos c11))))))))
                · skip
                  exact And.intro True.intro (DPis (F := (fun z => hMs z)) (s' := m1) (e108.trans ((q_X12_ledge_108 m r2 n108 n m1).trans ((if_pos c3).trans ((if_neg c6).trans ((if_neg c9).trans ((if_pos c10).trans (if_neg c11))))))))
            · skip
              have he := here_lt c9 (by decide)
              refine And.intro True.intro ?_
              obtain ⟨r12, er12⟩ : ∃ z : Ms, m_X12_clauseHere (Ms.th m1, Ms.s m1, Ms.im m1, Ms.fr m1, Ms.hi m1, Ms.ac m1, (Ms.sp m1 + nI 1), Ms.en m1, Ms.wr m1, Ms.op m1, Ms.bb m1, Ms.tr m1, Ms.su m1, Ms.lf m1, Ms.lk m1, Ms.nx m1, Ms.bo m1, Ms.ra m1, Ms.ki m1, Ms.nu m1, Ms.tv m1) = z := ⟨_, rfl⟩
              have hr12 := c_X12_clauseHere l hf (Ms.th m1, Ms.s m1, Ms.im m1, Ms.fr m1, Ms.hi m1, Ms.ac m1, (Ms.sp m1 + nI 1), Ms.en m1, Ms.wr m1, Ms.op m1, Ms.bb m1, Ms.tr m1, Ms.su m1, Ms.lf m1, Ms.lk m1, Ms.nx m1, Ms.bo m1, Ms.ra m1, Ms.ki m1, Ms.nu m1, Ms.tv m1) (by exact Pg.g0 g5 he rfl rfl rfl rfl g5.bw) g6
              rw [er12] at hr12
              have h7 := ef_clauseHere_r er12 (by exact Pg.g0 g5 he rfl rfl rfl rfl g5.bw) g6
              have h8 := h7.2.2 0 0 (by exact Pg.g0 g5 he rfl rfl rfl rfl g5.bw)
              refine CALL_same (r := none) (h1 := hMs r12) (by decide) (hr12) ?_
              exact hD _ _ [1, 0] _ _ (ih108 _ _ ⟨z9 + 1, by omega, by omega, by rw [g3]; exact nI_add z9 1, h8, h7.1.trans g6, by omega⟩ (e108.trans ((q_X12_ledge_108 m r2 n108 n m1).trans ((if_pos c3).trans ((if_neg c6).trans ((if_pos c9).trans (bindv_eq er12)))))))
    exact hD _ _ [1, 0] _ _ (L108 10 _ _ ⟨1, by decide, by decide, rfl, h2, h1.1, by decide⟩ ((if_neg c1).trans (bindv_eq er2)))
  · skip
    exact And.intro True.intro (DPis (F := (fun z => hMs z)) (s' := m) (if_pos c1))

/-! printed by wip/whole/gen/specs39.py: calls of the model -/
theorem rl_ne {N : Nat} {x : Int32} (h : rl N x) (c : ¬ x = nI N) (hN : N < 2 ^ 31) : vp_in x N := by
  obtain ⟨k, hk, rfl⟩ := h
  have : k ≠ N := fun e => c (by rw [e])
  exact vp_in_nI (by omega) hN
theorem vp_rowk {p k : Int32} (hp : vp_in p 6) (hk : ∃ j, j ≤ 3 ∧ k = nI j) : vp_in ((nI 36 + (nI 4 * p)) + k) 927 := by
  obtain ⟨a, h2, rfl⟩ := vp_in_of hp (by decide)
  obtain ⟨j, hj, rfl⟩ := hk
  rw [pk_mul, nI_add, nI_add]
  exact vp_in_nI (by omega) (by decide)
theorem vp_m10n {x : Int32} {a n : Nat} (h : vp_in (x - nI 10) n) (ha : a + n ≤ 927) : vp_in ((nI a + x) - nI 10) 927 := by
  have e : (nI a + x) - nI 10 = nI a + (x - nI 10) := by rw [Int32.sub_eq_add_neg, Int32.sub_eq_add_neg, Int32.add_assoc]
  rw [e]
  exact vp_ad a h ha (by decide)
theorem in_vp {v : Int32} {N : Nat} (h : ¬ m_X12_in v (nI 0) (nI N) = 0) (hN : N + 1 < 2 ^ 31) : vp_in v (N + 1) := by
  obtain ⟨k, hk, rfl⟩ := in_of h (by omega)
  exact vp_in_nI (by omega) hN
theorem up_other {f : Fn} {b c n : Nat} {x y : Int32} (hx : vp_in x n) (hc : c < b) (hb : b + n ≤ 927) : upd f (nI b + x).toNatClampNeg y (nI c).toNatClampNeg = f (nI c).toNatClampNeg := by
  obtain ⟨k, hk, rfl⟩ := vp_in_of hx (by omega)
  rw [nI_add, nI_clamp (by omega), nI_clamp (by omega), pk_un (by omega)]
def m_X12_feed (m : Ms) (x : Int32) : Int32 × Ms := if (m_X12_in x (nI 0) (nI 127)) = 0 then ((-nI 2), m) else (if (Ms.s m (nI 22).toNatClampNeg) = nI 100 then ((-nI 4), m) else (((upd (upd (Ms.s m) (nI 112 + (Ms.s m (nI 22).toNatClampNeg)).toNatClampNeg x) (nI 22).toNatClampNeg (((upd (Ms.s m) (nI 112 + (Ms.s m (nI 22).toNatClampNeg)).toNatClampNeg x) (nI 22).toNatClampNeg) + nI 1)) (nI 22).toNatClampNeg), (Ms.th m, (upd (upd (Ms.s m) (nI 112 + (Ms.s m (nI 22).toNatClampNeg)).toNatClampNeg x) (nI 22).toNatClampNeg (((upd (Ms.s m) (nI 112 + (Ms.s m (nI 22).toNatClampNeg)).toNatClampNeg x) (nI 22).toNatClampNeg) + nI 1)), Ms.im m, Ms.fr m, Ms.hi m, Ms.ac m, Ms.sp m, Ms.en m, Ms.wr m, Ms.op m, Ms.bb m, Ms.tr m, Ms.su m, Ms.lf m, Ms.lk m, Ms.nx m, Ms.bo m, Ms.ra m, Ms.ki m, Ms.nu m, Ms.tv m)))
set_option maxRecDepth 100000 in
set_option maxHeartbeats 4000000 in
theorem c_X12_feed (l : Launch) {fv : Value} (hf : FV fv) (m : Ms) (x : Int32) (ht : rl 100 (Ms.s m (nI 22).toNatClampNeg)) : CT l fv 11 jX12_feed [.ref 0, .int x] (hMs m) (DP (some (.int (m_X12_feed m x).1)) (hMs ((m_X12_feed m x).2))) := by
  refine CT_of [] mt_X12_feed (by decide +kernel) (tab_X12 hf) okX12_feed (Nat.le_of_ble_eq_true rfl) ?_
  intro J hJ hD
  refine hJ 0 _ _ _ ?_
  refine CALL_sub (h' := hMs m) [] (by decide) (c_X12_in l hf x (nI 0) (nI 127)) rfl rfl (by decide) (by decide) rfl ?_
  refine And.intro (fun c1 => ?_) (fun c1 => ?_)
  · skip
    refine hJ 13 _ _ _ ?_
    refine And.intro (vp_in_nI (by decide) (by decide)) ?_
    refine And.intro (fun c2 => ?_) (fun c2 => ?_)
    · skip
      have hx := rl_ne ht c2 (by decide)
      refine hJ 28 _ _ _ ?_
      refine And.intro (vp_in_nI (by decide) (by decide)) ?_
      refine And.intro (vp_ad 112 hx (by decide) (by decide)) ?_
      refine And.intro (vp_in_nI (by decide) (by decide)) ?_
      refine And.intro (vp_in_nI (by decide) (by decide)) ?_
      refine And.intro (vp_in_nI (by decide) (by decide)) ?_
      exact And.intro True.intro (DPis (F := (fun z => hMs z)) (s' := (Ms.th m, (upd (upd (Ms.s m) (nI 112 + (Ms.s m (nI 22).toNatClampNeg)).toNatClampNeg x) (nI 22).toNatClampNeg (((upd (Ms.s m) (nI 112 + (Ms.s m (nI 22).toNatClampNeg)).toNatClampNeg x) (nI 22).toNatClampNeg) + nI 1)), Ms.im m, Ms.fr m, Ms.hi m, Ms.ac m, Ms.sp m, Ms.en m, Ms.wr m, Ms.op m, Ms.bb m, Ms.tr m, Ms.su m, Ms.lf m, Ms.lk m, Ms.nx m, Ms.bo m, Ms.ra m, Ms.ki m, Ms.nu m, Ms.tv m)) ((if_neg c1).trans (if_neg c2)))
    · skip
      exact And.intro True.intro (DPis (F := (fun z => hMs z)) (s' := m) ((if_neg c1).trans (if_pos c2)))
  · skip
    exact And.intro True.intro (DPis (F := (fun z => hMs z)) (s' := m) (if_pos c1))
def l_X12_urchin_90 (m : Ms) (kd : Int32) (v : Int32) : Nat → Int32 → Fn → Int32 × Ms
  | 0, _, _ => (0, m)
  | n90 + 1, k, s1 => if nI 4 ≤ k then ((Ms.s m (nI 17).toNatClampNeg), (Ms.th m, (upd s1 (nI 17).toNatClampNeg ((s1 (nI 17).toNatClampNeg) + nI 1)), Ms.im m, Ms.fr m, Ms.hi m, Ms.ac m, Ms.sp m, Ms.en m, Ms.wr m, Ms.op m, Ms.bb m, Ms.tr m, Ms.su m, Ms.lf m, Ms.lk m, Ms.nx m, Ms.bo m, Ms.ra m, Ms.ki m, Ms.nu m, Ms.tv m)) else l_X12_urchin_90 m kd v n90 (k + nI 1) (upd s1 ((nI 36 + (nI 4 * (Ms.s m (nI 17).toNatClampNeg))) + k).toNatClampNeg (nI 0))
theorem q_X12_urchin_90 (m : Ms) (kd : Int32) (v : Int32) (n90 : Nat) (k : Int32) (s1 : Fn) : l_X12_urchin_90 m kd v (n90 + 1) k s1 = (if nI 4 ≤ k then ((Ms.s m (nI 17).toNatClampNeg), (Ms.th m, (upd s1 (nI 17).toNatClampNeg ((s1 (nI 17).toNatClampNeg) + nI 1)), Ms.im m, Ms.fr m, Ms.hi m, Ms.ac m, Ms.sp m, Ms.en m, Ms.wr m, Ms.op m, Ms.bb m, Ms.tr m, Ms.su m, Ms.lf m, Ms.lk m, Ms.nx m, Ms.bo m, Ms.ra m, Ms.ki m, Ms.nu m, Ms.tv m)) else l_X12_urchin_90 m kd v n90 (k + nI 1) (upd s1 ((nI 36 + (nI 4 * (Ms.s m (nI 17).toNatClampNeg))) + k).toNatClampNeg (nI 0))) := rfl
def m_X12_urchin (m : Ms) (kd : Int32) (v : Int32) : Int32 × Ms := if (m_X12_in kd (nI 0) (nI 6)) = 0 then ((-nI 1), m) else (if (m_X12_in v (nI 0) (nI 9)) = 0 then ((-nI 2), m) else (if (Ms.s m (nI 17).toNatClampNeg) = nI 6 then ((-nI 4), m) else l_X12_urchin_90 m kd v 5 (nI 0) (upd (upd (upd (upd (Ms.s m) (nI 24 + (Ms.s m (nI 17).toNatClampNeg)).toNatClampNeg kd) (nI 30 + (Ms.s m (nI 17).toNatClampNeg)).toNatClampNeg v) (nI 1 + (Ms.s m (nI 17).toNatClampNeg)).toNatClampNeg (nI 0)) (nI 7 + (Ms.s m (nI 17).toNatClampNeg)).toNatClampNeg (nI 0))))
set_option maxRecDepth 100000 in
set_option maxHeartbeats 4000000 in
theorem c_X12_urchin (l : Launch) {fv : Value} (hf : FV fv) (m : Ms) (kd : Int32) (v : Int32) (hu : hU m) : CT l fv 11 jX12_urchin [.ref 0, .int kd, .int v] (hMs m) (DP (some (.int (m_X12_urchin m kd v).1)) (hMs ((m_X12_urchin m kd v).2))) := by
  refine CT_of [90] mt_X12_urchin (by decide +kernel) (tab_X12 hf) okX12_urchin (Nat.le_of_ble_eq_true rfl) ?_
  intro J hJ hD
  refine hJ 0 _ _ _ ?_
  refine CALL_sub (h' := hMs m) [] (by decide) (c_X12_in l hf kd (nI 0) (nI 6)) rfl rfl (by decide) (by decide) rfl ?_
  refine And.intro (fun c1 => ?_) (fun c1 => ?_)
  · skip
    refine hJ 12 _ _ _ ?_
    refine CALL_sub (h' := hMs m) [] (by decide) (c_X12_in l hf v (nI 0) (nI 9)) rfl rfl (by decide) (by decide) rfl ?_
    refine And.intro (fun c2 => ?_) (fun c2 => ?_)
    · skip
      refine hJ 25 _ _ _ ?_
      refine And.intro (vp_in_nI (by decide) (by decide)) ?_
      refine And.intro (fun c3 => ?_) (fun c3 => ?_)
      · skip
        have hp := rl_ne hu c3 (by decide)
        refine hJ 40 _ _ _ ?_
        refine And.intro (vp_in_nI (by decide) (by decide)) ?_
        refine And.intro (vp_ad 24 hp (by decide) (by decide)) ?_
        refine And.intro (vp_ad 30 hp (by decide) (by decide)) ?_
        refine And.intro (vp_ad 1 hp (by decide) (by decide)) ?_
        refine And.intro (vp_ad 7 hp (by decide) (by decide)) ?_
        have L90 : ∀ (n90 : Nat) (k : Int32) (s1 : Fn), (∃ z9 : Nat, z9 ≤ 4 ∧ n90 + z9 = 5 ∧ k = nI z9) → m_X12_urchin m kd v = l_X12_urchin_90 m kd v n90 k s1 → J 90 [(0, .ref 0), (3, .int (Ms.s m (nI 17).toNatClampNeg)), (4, .int k)] [] (wMs (Ms.th m) s1 (Ms.im m) (Ms.fr m) (Ms.hi m) (Ms.ac m) (Ms.sp m) (Ms.en m) (Ms.wr m) (Ms.op m) (Ms.bb m) (Ms.tr m) (Ms.su m) (Ms.lf m) (Ms.lk m) (Ms.nx m) (Ms.bo m) (Ms.ra m) (Ms.ki m) (Ms.nu m) (Ms.tv m)) := by
          intro n90
          induction n90 with
          | zero =>
            intro k s1 hv
            obtain ⟨z9, h1, h2, h3⟩ := hv
            omega
          | succ n90 ih90 =>
            intro k s1 hv e90
            obtain ⟨z9, h1, h2, h3⟩ := hv
            refine hJ 90 _ _ _ ?_
            refine And.intro (fun c4 => ?_) (fun c4 => ?_)
            · skip
              refine hJ 117 _ _ _ ?_
              refine And.intro (vp_in_nI (by decide) (by decide)) ?_
              refine And.intro (vp_in_nI (by decide) (by decide)) ?_
              exact And.intro True.intro (DPis (F := (fun z => hMs z)) (s' := (Ms.th m, (upd s1 (nI 17).toNatClampNeg ((s1 (nI 17).toNatClampNeg) + nI 1)), Ms.im m, Ms.fr m, Ms.hi m, Ms.ac m, Ms.sp m, Ms.en m, Ms.wr m, Ms.op m, Ms.bb m, Ms.tr m, Ms.su m, Ms.lf m, Ms.lk m, Ms.nx m, Ms.bo m, Ms.ra m, Ms.ki m, Ms.nu m, Ms.tv m)) (e90.trans ((q_X12_urchin_90 m kd v n90 k s1).trans (if_pos c4))))
            · skip
              have h4 : z9 < 4 := cnt_lt h3 h1 (by decide) c4
              refine And.intro (vp_rowk hp ⟨z9, by omega, h3⟩) ?_
              exact hD _ _ [1, 2, 0] _ _ (ih90 _ _ ⟨z9 + 1, by omega, by omega, by rw [h3]; exact nI_add z9 1⟩ (e90.trans ((q_X12_urchin_90 m kd v n90 k s1).trans (if_neg c4))))
        exact hD _ _ [2, 1, 0] _ _ (L90 5 _ _ ⟨0, by decide, by decide, rfl⟩ ((if_neg c1).trans ((if_neg c2).trans (if_neg c3))))
      · skip
        exact And.intro True.intro (DPis (F := (fun z => hMs z)) (s' := m) ((if_neg c1).trans ((if_neg c2).trans (if_pos c3))))
    · skip
      exact And.intro True.intro (DPis (F := (fun z => hMs z)) (s' := m) ((if_neg c1).trans (if_pos c2)))
  · skip
    exact And.intro True.intro (DPis (F := (fun z => hMs z)) (s' := m) (if_pos c1))
def m_X12_of (m : Ms) (p : Int32) (w : Int32) : Int32 × Ms := if (m_X12_isUrchin (Ms.s m) p) = 0 then ((-999999), m) else (bindv (m_X12_looksAnew m) (fun r2 => if w = nI 0 then ((Ms.s r2 (nI 24 + p).toNatClampNeg), r2) else (if w = nI 1 then ((Ms.s r2 (nI 30 + p).toNatClampNeg), r2) else (if w = nI 2 then ((Ms.s r2 (nI 1 + p).toNatClampNeg), r2) else (if w = nI 3 then ((Ms.s r2 (nI 7 + p).toNatClampNeg), r2) else (if (m_X12_isFact (w - nI 10)) = 0 then ((-999999), r2) else (bindv (m_X12_heedOf r2 p (w - nI 10)) (fun r9 => (r9.1, r9.2)))))))))
set_option maxRecDepth 100000 in
set_option maxHeartbeats 4000000 in
theorem c_X12_of (l : Launch) {fv : Value} (hf : FV fv) (m : Ms) (p : Int32) (w : Int32) (hg : Gd 9999 m) : CT l fv 11 jX12_of [.ref 0, .int p, .int w] (hMs m) (DP (some (.int (m_X12_of m p w).1)) (hMs ((m_X12_of m p w).2))) := by
  refine CT_of [] mt_X12_of (by decide +kernel) (tab_X12 hf) okX12_of (Nat.le_of_ble_eq_true rfl) ?_
  intro J hJ hD
  refine hJ 0 _ _ _ ?_
  refine CALL_same (r := some (.int (m_X12_isUrchin (Ms.s m) p))) (h1 := hMs m) (by decide) (c_X12_isUrchin l hf m p) ?_
  refine And.intro (fun c1 => ?_) (fun c1 => ?_)
  · skip
    have hp := ur_of hg.2.1 c1
    refine hJ 11 _ _ _ ?_
    obtain ⟨r2, er2⟩ : ∃ z : Ms, m_X12_looksAnew m = z := ⟨_, rfl⟩
    have hr2 := c_X12_looksAnew l hf m
    rw [er2] at hr2
    have h1 := hg.k0 (ef_looksAnew m).1; rw [er2] at h1
    refine CALL_same (r := none) (h1 := hMs r2) (by decide) (hr2) ?_
    refine And.intro (fun c3 => ?_) (And.intro (by decide) (And.intro (fun c4 => ?_) (And.intro (fun c5 => ?_) (And.intro (fun c6 => ?_) (And.intro (fun c7 => ?_) (True.intro))))))
    · skip
      refine hJ 87 _ _ _ ?_
      refine CALL_sub (h' := hMs r2) [] (by decide) (c_X12_isFact l hf (w - nI 10)) rfl rfl (by decide) (by decide) rfl ?_
      refine And.intro (fun c8 => ?_) (fun c8 => ?_)
      · skip
        refine hJ 109 _ _ _ ?_
        exact And.intro True.intro (DPis (F := (fun z => hMs z)) (s' := r2) ((if_neg c1).trans ((bindv_eq er2).trans ((if_neg (sw_ne 0 c3 (by decide) (by decide) (by decide))).trans ((if_neg (sw_ne 1 c3 (by decide) (by decide) (by decide))).trans ((if_neg (sw_ne 2 c3 (by decide) (by decide) (by decide))).trans ((if_neg (sw_ne 3 c3 (by decide) (by decide) (by decide))).trans (if_pos c8))))))))
      · skip
        have hq := fa_of c8
        obtain ⟨r9, er9⟩ : ∃ z : Int32 × Ms, m_X12_heedOf r2 p (w - nI 10) = z := ⟨_, rfl⟩
        have hr9 := c_X12_heedOf l hf r2 p (w - nI 10) hp hq (h1.ht (by decide)) h1.2.2.1 h1.2.2.2
        rw [er9] at hr9
        refine CALL_same (r := some (.int r9.1)) (h1 := hMs r9.2) (by decide) (hr9) ?_
        refine hJ 111 _ _ _ ?_
        exact And.intro True.intro (DPis (F := (fun z => hMs z)) (s' := r9.2) ((if_neg c1).trans ((bindv_eq er2).trans ((if_neg (sw_ne 0 c3 (by decide) (by decide) (by decide))).trans ((if_neg (sw_ne 1 c3 (by decide) (by decide) (by decide))).trans ((if_neg (sw_ne 2 c3 (by decide) (by decide) (by decide))).trans ((if_neg (sw_ne 3 c3 (by decide) (by decide) (by decide))).trans ((if_neg c8).trans (bindv_eq er9)))))))))
    · skip
      refine hJ 48 _ _ _ ?_
      refine And.intro (vp_ad 24 hp (by decide) (by decide)) ?_
      exact And.intro True.intro (DPis (F := (fun z => hMs z)) (s' := r2) ((if_neg c1).trans ((bindv_eq er2).trans (if_pos (sw_eq 0 c4 rfl (by decide))))))
    · skip
      refine hJ 58 _ _ _ ?_
      refine And.intro (vp_ad 30 hp (by decide) (by decide)) ?_
      exact And.intro True.intro (DPis (F := (fun z => hMs z)) (s' := r2) ((if_neg c1).trans ((bindv_eq er2).trans ((if_neg (sw_ot 0 c5 (by decide) (by decide))).trans (if_pos (sw_eq 1 c5 rfl (by decide)))))))
    · skip
      refine hJ 68 _ _ _ ?_
      refine And.intro (vp_ad 1 hp (by decide) (by decide)) ?_
      exact And.intro True.intro (DPis (F := (fun z => hMs z)) (s' := r2) ((if_neg c1).trans ((bindv_eq er2).trans ((if_neg (sw_ot 0 c6 (by decide) (by decide))).trans ((if_neg (sw_ot 1 c6 (by decide) (by decide))).trans (if_pos (sw_eq 2 c6 rfl (by decide))))))))
    · skip
      refine hJ 77 _ _ _ ?_
      refine And.intro (vp_ad 7 hp (by decide) (by decide)) ?_
      exact And.intro True.intro (DPis (F := (fun z => hMs z)) (s' := r2) ((if_neg c1).trans ((bindv_eq er2).trans ((if_neg (sw_ot 0 c7 (by decide) (by decide))).trans ((if_neg (sw_ot 1 c7 (by decide) (by decide))).trans ((if_neg (sw_ot 2 c7 (by decide) (by decide))).trans (if_pos (sw_eq 3 c7 rfl (by decide)))))))))
  · skip
    exact And.intro True.intro (DPis (F := (fun z => hMs z)) (s' := m) (if_pos c1))
def m_X12_row (m : Ms) (p : Int32) (k : Int32) (n : Int32) : Int32 × Ms := if (m_X12_isUrchin (Ms.s m) p) = 0 then ((-nI 1), m) else (if (m_X12_in k (nI 0) (nI 3)) = 0 then ((-nI 1), m) else (if (m_X12_in n (nI 0) (nI 9)) = 0 then ((-nI 2), m) else (if (Ms.s m (nI 24 + p).toNatClampNeg) = nI 6 then (bindv (m_X12_becomes m ((nI 36 + (nI 4 * p)) + k) n) (fun r5 => (r5.1, r5.2))) else ((-nI 3), m))))
set_option maxRecDepth 100000 in
set_option maxHeartbeats 4000000 in
theorem c_X12_row (l : Launch) {fv : Value} (hf : FV fv) (m : Ms) (p : Int32) (k : Int32) (n : Int32) (hu : hU m) : CT l fv 11 jX12_row [.ref 0, .int p, .int k, .int n] (hMs m) (DP (some (.int (m_X12_row m p k n).1)) (hMs ((m_X12_row m p k n).2))) := by
  refine CT_of [] mt_X12_row (by decide +kernel) (tab_X12 hf) okX12_row (Nat.le_of_ble_eq_true rfl) ?_
  intro J hJ hD
  refine hJ 0 _ _ _ ?_
  refine CALL_same (r := some (.int (m_X12_isUrchin (Ms.s m) p))) (h1 := hMs m) (by decide) (c_X12_isUrchin l hf m p) ?_
  refine And.intro (fun c1 => ?_) (fun c1 => ?_)
  · skip
    refine hJ 17 _ _ _ ?_
    exact And.intro True.intro (DPis (F := (fun z => hMs z)) (s' := m) (if_pos c1))
  · skip
    have hp := ur_of hu c1
    refine CALL_sub (h' := hMs m) [] (by decide) (c_X12_in l hf k (nI 0) (nI 3)) rfl rfl (by decide) (by decide) rfl ?_
    refine And.intro (fun c2 => ?_) (fun c2 => ?_)
    · skip
      have hk := in_of c2 (by decide)
      refine hJ 19 _ _ _ ?_
      refine CALL_sub (h' := hMs m) [] (by decide) (c_X12_in l hf n (nI 0) (nI 9)) rfl rfl (by decide) (by decide) rfl ?_
      refine And.intro (fun c3 => ?_) (fun c3 => ?_)
      · skip
        refine hJ 32 _ _ _ ?_
        refine And.intro (vp_ad 24 hp (by decide) (by decide)) ?_
        refine And.intro (fun c4 => ?_) (fun c4 => ?_)
        · skip
          refine hJ 62 _ _ _ ?_
          exact And.intro True.intro (DPis (F := (fun z => hMs z)) (s' := m) ((if_neg c1).trans ((if_neg c2).trans ((if_neg c3).trans (if_neg c4)))))
        · skip
          obtain ⟨r5, er5⟩ : ∃ z : Int32 × Ms, m_X12_becomes m ((nI 36 + (nI 4 * p)) + k) n = z := ⟨_, rfl⟩
          have hr5 := c_X12_becomes l hf m ((nI 36 + (nI 4 * p)) + k) n (vp_rowk hp hk)
          rw [er5] at hr5
          refine CALL_same (r := some (.int r5.1)) (h1 := hMs r5.2) (by decide) (hr5) ?_
          refine hJ 64 _ _ _ ?_
          exact And.intro True.intro (DPis (F := (fun z => hMs z)) (s' := r5.2) ((if_neg c1).trans ((if_neg c2).trans ((if_neg c3).trans ((if_pos c4).trans (bindv_eq er5))))))
      · skip
        exact And.intro True.intro (DPis (F := (fun z => hMs z)) (s' := m) ((if_neg c1).trans ((if_neg c2).trans (if_pos c3))))
    · skip
      exact And.intro True.intro (DPis (F := (fun z => hMs z)) (s' := m) ((if_neg c1).trans (if_pos c2)))
def m_X12_learn (m : Ms) (p : Int32) (x : Int32) : Int32 × Ms := if (m_X12_isUrchin (Ms.s m) p) = 0 then ((-nI 1), m) else (if (m_X12_in x (nI 0) (nI 255)) = 0 then ((-nI 2), m) else (bindv (m_X12_becomes m (nI 1 + p) x) (fun r3 => (r3.1, r3.2))))
set_option maxRecDepth 100000 in
set_option maxHeartbeats 4000000 in
theorem c_X12_learn (l : Launch) {fv : Value} (hf : FV fv) (m : Ms) (p : Int32) (x : Int32) (hu : hU m) : CT l fv 11 jX12_learn [.ref 0, .int p, .int x] (hMs m) (DP (some (.int (m_X12_learn m p x).1)) (hMs ((m_X12_learn m p x).2))) := by
  refine CT_of [] mt_X12_learn (by decide +kernel) (tab_X12 hf) okX12_learn (Nat.le_of_ble_eq_true rfl) ?_
  intro J hJ hD
  refine hJ 0 _ _ _ ?_
  refine CALL_same (r := some (.int (m_X12_isUrchin (Ms.s m) p))) (h1 := hMs m) (by decide) (c_X12_isUrchin l hf m p) ?_
  refine And.intro (fun c1 => ?_) (fun c1 => ?_)
  · skip
    have hp := ur_of hu c1
    refine hJ 10 _ _ _ ?_
    refine CALL_sub (h' := hMs m) [] (by decide) (c_X12_in l hf x (nI 0) (nI 255)) rfl rfl (by decide) (by decide) rfl ?_
    refine And.intro (fun c2 => ?_) (fun c2 => ?_)
    · skip
      refine hJ 32 _ _ _ ?_
      exact And.intro True.intro (DPis (F := (fun z => hMs z)) (s' := m) ((if_neg c1).trans (if_pos c2)))
    · skip
      obtain ⟨r3, er3⟩ : ∃ z : Int32 × Ms, m_X12_becomes m (nI 1 + p) x = z := ⟨_, rfl⟩
      have hr3 := c_X12_becomes l hf m (nI 1 + p) x (vp_ad 1 hp (by decide) (by decide))
      rw [er3] at hr3
      refine CALL_same (r := some (.int r3.1)) (h1 := hMs r3.2) (by decide) (hr3) ?_
      refine hJ 34 _ _ _ ?_
      exact And.intro True.intro (DPis (F := (fun z => hMs z)) (s' := r3.2) ((if_neg c1).trans ((if_neg c2).trans (bindv_eq er3))))
  · skip
    exact And.intro True.intro (DPis (F := (fun z => hMs z)) (s' := m) (if_pos c1))
def m_X12_beach (m : Ms) (p : Int32) (b : Int32) : Int32 × Ms := if (m_X12_isUrchin (Ms.s m) p) = 0 then ((-nI 1), m) else (bindv (if b = 0 then (nI 0) else (nI 1)) (fun x2_0 => bindv (m_X12_becomes m (nI 7 + p) x2_0) (fun r3 => (r3.1, r3.2))))
set_option maxRecDepth 100000 in
set_option maxHeartbeats 4000000 in
theorem c_X12_beach (l : Launch) {fv : Value} (hf : FV fv) (m : Ms) (p : Int32) (b : Int32) (hu : hU m) : CT l fv 11 jX12_beach [.ref 0, .int p, .int b] (hMs m) (DP (some (.int (m_X12_beach m p b).1)) (hMs ((m_X12_beach m p b).2))) := by
  refine CT_of [22] mt_X12_beach (by decide +kernel) (tab_X12 hf) okX12_beach (Nat.le_of_ble_eq_true rfl) ?_
  intro J hJ hD
  refine hJ 0 _ _ _ ?_
  refine CALL_same (r := some (.int (m_X12_isUrchin (Ms.s m) p))) (h1 := hMs m) (by decide) (c_X12_isUrchin l hf m p) ?_
  refine And.intro (fun c1 => ?_) (fun c1 => ?_)
  · skip
    refine hJ 28 _ _ _ ?_
    exact And.intro True.intro (DPis (F := (fun z => hMs z)) (s' := m) (if_pos c1))
  · skip
    have hp := ur_of hu c1
    have K2 : ∀ (x2_0 : Int32), (if b = 0 then (nI 0) else (nI 1)) = x2_0 → J 22 [] [.int x2_0, .int (nI 7 + p), .ref 0] (hMs m) := by
      intro x2_0 ex2_0
      refine hJ 22 _ _ _ ?_
      obtain ⟨r3, er3⟩ : ∃ z : Int32 × Ms, m_X12_becomes m (nI 7 + p) x2_0 = z := ⟨_, rfl⟩
      have hr3 := c_X12_becomes l hf m (nI 7 + p) x2_0 (vp_ad 7 hp (by decide) (by decide))
      rw [er3] at hr3
      refine CALL_same (r := some (.int r3.1)) (h1 := hMs r3.2) (by decide) (hr3) ?_
      refine hJ 29 _ _ _ ?_
      exact And.intro True.intro (DPis (F := (fun z => hMs z)) (s' := r3.2) ((if_neg c1).trans ((bindv_eq ex2_0).trans (bindv_eq er3))))
    refine And.intro (fun c4 => ?_) (fun c4 => ?_)
    · skip
      refine hJ 21 _ _ _ ?_
      exact hD _ _ [] _ _ (K2 _ (if_pos c4))
    · skip
      exact hD _ _ [] _ _ (K2 _ (if_neg c4))
def m_X12_lesson (m : Ms) (k : Int32) (f : Int32) : Int32 × Ms := if (m_X12_in k (nI 0) (nI 3)) = 0 then ((-nI 1), m) else (if f = (-nI 1) then (bindv (if f = (-nI 1) then (-nI 5) else f) (fun x3_0 => bindv (m_X12_becomes m (nI 13 + k) x3_0) (fun r4 => (r4.1, r4.2)))) else (if (m_X12_isFact f) = 0 then ((-nI 1), m) else (bindv (if f = (-nI 1) then (-nI 5) else f) (fun x7_0 => bindv (m_X12_becomes m (nI 13 + k) x7_0) (fun r8 => (r8.1, r8.2))))))
set_option maxRecDepth 100000 in
set_option maxHeartbeats 4000000 in
theorem c_X12_lesson (l : Launch) {fv : Value} (hf : FV fv) (m : Ms) (k : Int32) (f : Int32) : CT l fv 11 jX12_lesson [.ref 0, .int k, .int f] (hMs m) (DP (some (.int (m_X12_lesson m k f).1)) (hMs ((m_X12_lesson m k f).2))) := by
  refine CT_of [39] mt_X12_lesson (by decide +kernel) (tab_X12 hf) okX12_lesson (Nat.le_of_ble_eq_true rfl) ?_
  intro J hJ hD
  refine hJ 0 _ _ _ ?_
  refine CALL_sub (h' := hMs m) [] (by decide) (c_X12_in l hf k (nI 0) (nI 3)) rfl rfl (by decide) (by decide) rfl ?_
  refine And.intro (fun c1 => ?_) (fun c1 => ?_)
  · skip
    refine hJ 21 _ _ _ ?_
    exact And.intro True.intro (DPis (F := (fun z => hMs z)) (s' := m) (if_pos c1))
  · skip
    have hk := in_vp c1 (by decide)
    refine And.intro (fun c2 => ?_) (fun c2 => ?_)
    · skip
      refine hJ 23 _ _ _ ?_
      have K3 : ∀ (x3_0 : Int32), (if f = (-nI 1) then (-nI 5) else f) = x3_0 → J 39 [] [.int x3_0, .int (nI 13 + k), .ref 0] (hMs m) := by
        intro x3_0 ex3_0
        refine hJ 39 _ _ _ ?_
        obtain ⟨r4, er4⟩ : ∃ z : Int32 × Ms, m_X12_becomes m (nI 13 + k) x3_0 = z := ⟨_, rfl⟩
        have hr4 := c_X12_becomes l hf m (nI 13 + k) x3_0 (vp_ad 13 hk (by decide) (by decide))
        rw [er4] at hr4
        refine CALL_same (r := some (.int r4.1)) (h1 := hMs r4.2) (by decide) (hr4) ?_
        exact And.intro True.intro (DPis (F := (fun z => hMs z)) (s' := r4.2) ((if_neg c1).trans ((if_pos c2).trans ((bindv_eq ex3_0).trans (bindv_eq er4)))))
      refine And.intro (fun c5 => ?_) (fun c5 => ?_)
      · skip
        refine hJ 38 _ _ _ ?_
        exact hD _ _ [] _ _ (K3 _ (if_neg c5))
      · skip
        exact hD _ _ [] _ _ (K3 _ (if_pos c5))
    · skip
      refine CALL_sub (h' := hMs m) [] (by decide) (c_X12_isFact l hf f) rfl rfl (by decide) (by decide) rfl ?_
      refine And.intro (fun c6 => ?_) (fun c6 => ?_)
      · skip
        refine hJ 23 _ _ _ ?_
        have K7 : ∀ (x7_0 : Int32), (if f = (-nI 1) then (-nI 5) else f) = x7_0 → J 39 [] [.int x7_0, .int (nI 13 + k), .ref 0] (hMs m) := by
          intro x7_0 ex7_0
          refine hJ 39 _ _ _ ?_
          obtain ⟨r8, er8⟩ : ∃ z : Int32 × Ms, m_X12_becomes m (nI 13 + k) x7_0 = z := ⟨_, rfl⟩
          have hr8 := c_X12_becomes l hf m (nI 13 + k) x7_0 (vp_ad 13 hk (by decide) (by decide))
          rw [er8] at hr8
          refine CALL_same (r := some (.int r8.1)) (h1 := hMs r8.2) (by decide) (hr8) ?_
          exact And.intro True.intro (DPis (F := (fun z => hMs z)) (s' := r8.2) ((if_neg c1).trans ((if_neg c2).trans ((if_neg c6).trans ((bindv_eq ex7_0).trans (bindv_eq er8))))))
        refine And.intro (fun c9 => ?_) (fun c9 => ?_)
        · skip
          refine hJ 38 _ _ _ ?_
          exact hD _ _ [] _ _ (K7 _ (if_neg c9))
        · skip
          exact hD _ _ [] _ _ (K7 _ (if_pos c9))
      · skip
        exact And.intro True.intro (DPis (F := (fun z => hMs z)) (s' := m) ((if_neg c1).trans ((if_neg c2).trans (if_pos c6))))
theorem sh_of {x : Int32} (h : rl 6 x) : ∃ N, N ≤ 64 ∧ nI 1 <<< (x &&& 31) = nI N := by
  obtain ⟨q, hq, rfl⟩ := h
  have : q = 0 ∨ q = 1 ∨ q = 2 ∨ q = 3 ∨ q = 4 ∨ q = 5 ∨ q = 6 := by omega
  rcases this with rfl | rfl | rfl | rfl | rfl | rfl | rfl
  · exact ⟨1, by decide, by decide⟩
  · exact ⟨2, by decide, by decide⟩
  · exact ⟨4, by decide, by decide⟩
  · exact ⟨8, by decide, by decide⟩
  · exact ⟨16, by decide, by decide⟩
  · exact ⟨32, by decide, by decide⟩
  · exact ⟨64, by decide, by decide⟩
def l_X12_fewest_4 (zs : Fn) : Nat → Int32 → Int32 → Int32
  | 0, _, _ => 0
  | n4 + 1, best, set => if (nI 1 <<< ((zs (nI 17).toNatClampNeg) &&& 31)) ≤ set then best else (bindv (if (set &&& (m_X12_awayOnes (zs))) = 0 then (if (m_X12_knownBy (zs) set) = (m_X12_knownByAny (zs)) then (nI 1) else (nI 0)) else (nI 0)) (fun x2_0 => bindv (if x2_0 = 0 then best else (if best = (-nI 1) then set else (if (m_X12_countOf best) ≤ (m_X12_countOf set) then best else set))) (fun x3_0 => l_X12_fewest_4 zs n4 x3_0 (set + nI 1))))
theorem q_X12_fewest_4 (zs : Fn) (n4 : Nat) (best : Int32) (set : Int32) : l_X12_fewest_4 zs (n4 + 1) best set = (if (nI 1 <<< ((zs (nI 17).toNatClampNeg) &&& 31)) ≤ set then best else (bindv (if (set &&& (m_X12_awayOnes (zs))) = 0 then (if (m_X12_knownBy (zs) set) = (m_X12_knownByAny (zs)) then (nI 1) else (nI 0)) else (nI 0)) (fun x2_0 => bindv (if x2_0 = 0 then best else (if best = (-nI 1) then set else (if (m_X12_countOf best) ≤ (m_X12_countOf set) then best else set))) (fun x3_0 => l_X12_fewest_4 zs n4 x3_0 (set + nI 1))))) := rfl
def m_X12_fewest (zs : Fn) : Int32 := l_X12_fewest_4 zs 65 (-nI 1) (nI 0)
set_option maxRecDepth 100000 in
set_option maxHeartbeats 4000000 in
theorem c_X12_fewest (l : Launch) {fv : Value} (hf : FV fv) (m : Ms) (hu : hU m) : CT l fv 11 jX12_fewest [.ref 0] (hMs m) (DP (some (.int (m_X12_fewest (Ms.s m)))) (hMs m)) := by
  refine CT_of [4, 43, 69] mt_X12_fewest (by decide +kernel) (tab_X12 hf) okX12_fewest (Nat.le_of_ble_eq_true rfl) ?_
  intro J hJ hD
  obtain ⟨N, hN, hx⟩ := sh_of hu
  refine hJ 0 _ _ _ ?_
  have L4 : ∀ (n4 : Nat) (best : Int32) (set : Int32), (∃ z9 : Nat, z9 ≤ N ∧ n4 + z9 = 65 ∧ set = nI z9) → m_X12_fewest (Ms.s m) = l_X12_fewest_4 (Ms.s m) n4 best set → J 4 [(0, .ref 0), (1, .int best), (2, .int set)] [] (hMs m) := by
    intro n4
    induction n4 with
    | zero =>
      intro best set hv
      obtain ⟨z9, h1, h2, h3⟩ := hv
      omega
    | succ n4 ih4 =>
      intro best set hv e4
      obtain ⟨z9, h1, h2, h3⟩ := hv
      refine hJ 4 _ _ _ ?_
      refine And.intro (vp_in_nI (by decide) (by decide)) ?_
      refine And.intro (fun c1 => ?_) (fun c1 => ?_)
      · skip
        refine hJ 76 _ _ _ ?_
        exact And.intro True.intro (DPi (e4.trans ((q_X12_fewest_4 (Ms.s m) n4 best set).trans (if_pos c1))))
      · skip
        have h4 : z9 < N := cnt_lt h3 h1 (by omega) (by rw [← hx]; exact c1)
        refine CALL_same (r := some (.int (m_X12_awayOnes (Ms.s m)))) (h1 := hMs m) (by decide) (c_X12_awayOnes l hf m hu) ?_
        have K2 : ∀ (x2_0 : Int32), (if (set &&& (m_X12_awayOnes (Ms.s m))) = 0 then (if (m_X12_knownBy (Ms.s m) set) = (m_X12_knownByAny (Ms.s m)) then (nI 1) else (nI 0)) else (nI 0)) = x2_0 → J 43 [(0, .ref 0), (1, .int best), (2, .int set)] [.int x2_0] (hMs m) := by
          intro x2_0 ex2_0
          refine hJ 43 _ _ _ ?_
          have K3 : ∀ (x3_0 : Int32), (if x2_0 = 0 then best else (if best = (-nI 1) then set else (if (m_X12_countOf best) ≤ (m_X12_countOf set) then best else set))) = x3_0 → J 69 [(0, .ref 0), (2, .int set)] [.int x3_0] (hMs m) := by
            intro x3_0 ex3_0
            refine hJ 69 _ _ _ ?_
            exact hD _ _ [2, 1, 0] _ _ (ih4 _ _ ⟨z9 + 1, by omega, by omega, by rw [h3]; exact nI_add z9 1⟩ (e4.trans ((q_X12_fewest_4 (Ms.s m) n4 best set).trans ((if_neg c1).trans ((bindv_eq ex2_0).trans (bindv_eq ex3_0))))))
          refine And.intro (fun c4 => ?_) (fun c4 => ?_)
          · skip
            refine hJ 68 _ _ _ ?_
            exact hD _ _ [1, 3] _ _ (K3 _ (if_pos c4))
          · skip
            refine And.intro (fun c5 => ?_) (fun c5 => ?_)
            · skip
              refine hJ 64 _ _ _ ?_
              exact hD _ _ [1, 3] _ _ (K3 _ ((if_neg c4).trans (if_pos c5)))
            · skip
              refine CALL_sub (h' := hMs m) [] (by decide) (c_X12_countOf l hf set) rfl rfl (by decide) (by decide) rfl ?_
              refine CALL_sub (h' := hMs m) [] (by decide) (c_X12_countOf l hf best) rfl rfl (by decide) (by decide) rfl ?_
              refine And.intro (fun c6 => ?_) (fun c6 => ?_)
              · skip
                refine hJ 68 _ _ _ ?_
                exact hD _ _ [1, 3] _ _ (K3 _ ((if_neg c4).trans ((if_neg c5).trans (if_pos c6))))
              · skip
                exact hD _ _ [1, 3] _ _ (K3 _ ((if_neg c4).trans ((if_neg c5).trans (if_neg c6))))
        refine And.intro (fun c7 => ?_) (fun c7 => ?_)
        · skip
          refine hJ 42 _ _ _ ?_
          exact hD _ _ [0, 1, 2] _ _ (K2 _ (if_neg c7))
        · skip
          refine CALL_same (r := some (.int (m_X12_knownBy (Ms.s m) set))) (h1 := hMs m) (by decide) (c_X12_knownBy l hf m set hu) ?_
          refine CALL_same (r := some (.int (m_X12_knownByAny (Ms.s m)))) (h1 := hMs m) (by decide) (c_X12_knownByAny l hf m hu) ?_
          refine And.intro (fun c8 => ?_) (fun c8 => ?_)
          · skip
            refine hJ 42 _ _ _ ?_
            exact hD _ _ [0, 1, 2] _ _ (K2 _ ((if_pos c7).trans (if_neg c8)))
          · skip
            exact hD _ _ [0, 1, 2] _ _ (K2 _ ((if_pos c7).trans (if_pos c8)))
  exact hD _ _ [2, 1, 0] _ _ (L4 65 _ _ ⟨0, by omega, by omega, rfl⟩ (rfl))
def m_X12_told (zs : Fn) (w : Int32) : Int32 := if w = nI 0 then (zs (nI 0).toNatClampNeg) else (if w = nI 1 then (m_X12_tellsOf (zs) (nI 212) (nI 4)) else (if w = nI 2 then (m_X12_tellsOf (zs) (nI 217) (nI 6)) else (if w = nI 3 then (m_X12_knownByAny (zs)) else (if w = nI 4 then (m_X12_heldByAll (zs)) else (if w = nI 5 then (m_X12_awayOnes (zs)) else (if w = nI 6 then (m_X12_fewest (zs)) else (if (m_X12_in (w - nI 10) (nI 0) (nI 3)) = 0 then (-nI 1) else (zs ((nI 13 + w) - nI 10).toNatClampNeg))))))))
set_option maxRecDepth 100000 in
set_option maxHeartbeats 4000000 in
theorem c_X12_told (l : Launch) {fv : Value} (hf : FV fv) (m : Ms) (w : Int32) (hg : Gd 9999 m) : CT l fv 12 jX12_told [.ref 0, .int w] (hMs m) (DP (some (.int (m_X12_told (Ms.s m) w))) (hMs m)) := by
  refine CT_of [] mt_X12_told (by decide +kernel) (tab_X12 hf) okX12_told (Nat.le_of_ble_eq_true rfl) ?_
  intro J hJ hD
  refine hJ 0 _ _ _ ?_
  refine And.intro (fun c1 => ?_) (And.intro (by decide) (And.intro (fun c2 => ?_) (And.intro (fun c3 => ?_) (And.intro (fun c4 => ?_) (And.intro (fun c5 => ?_) (And.intro (fun c6 => ?_) (And.intro (fun c7 => ?_) (And.intro (fun c8 => ?_) (True.intro)))))))))
  · skip
    refine hJ 90 _ _ _ ?_
    refine CALL_sub (h' := hMs m) [] (by decide) (c_X12_in l hf (w - nI 10) (nI 0) (nI 3)) rfl rfl (by decide) (by decide) rfl ?_
    refine And.intro (fun c9 => ?_) (fun c9 => ?_)
    · skip
      refine hJ 117 _ _ _ ?_
      exact And.intro True.intro (DPi ((if_neg (sw_ne 0 c1 (by decide) (by decide) (by decide))).trans ((if_neg (sw_ne 1 c1 (by decide) (by decide) (by decide))).trans ((if_neg (sw_ne 2 c1 (by decide) (by decide) (by decide))).trans ((if_neg (sw_ne 3 c1 (by decide) (by decide) (by decide))).trans ((if_neg (sw_ne 4 c1 (by decide) (by decide) (by decide))).trans ((if_neg (sw_ne 5 c1 (by decide) (by decide) (by decide))).trans ((if_neg (sw_ne 6 c1 (by decide) (by decide) (by decide))).trans (if_pos c9)))))))))
    · skip
      have hk := in_vp c9 (by decide)
      refine And.intro (vp_m10n hk (by decide)) ?_
      refine hJ 118 _ _ _ ?_
      exact And.intro True.intro (DPi ((if_neg (sw_ne 0 c1 (by decide) (by decide) (by decide))).trans ((if_neg (sw_ne 1 c1 (by decide) (by decide) (by decide))).trans ((if_neg (sw_ne 2 c1 (by decide) (by decide) (by decide))).trans ((if_neg (sw_ne 3 c1 (by decide) (by decide) (by decide))).trans ((if_neg (sw_ne 4 c1 (by decide) (by decide) (by decide))).trans ((if_neg (sw_ne 5 c1 (by decide) (by decide) (by decide))).trans ((if_neg (sw_ne 6 c1 (by decide) (by decide) (by decide))).trans (if_neg c9)))))))))
  · skip
    refine hJ 44 _ _ _ ?_
    refine And.intro (vp_in_nI (by decide) (by decide)) ?_
    exact And.intro True.intro (DPi (if_pos (sw_eq 0 c2 rfl (by decide))))
  · skip
    refine hJ 51 _ _ _ ?_
    refine CALL_same (r := some (.int (m_X12_tellsOf (Ms.s m) (nI 212) (nI 4)))) (h1 := hMs m) (by decide) (c_X12_tellsOf l hf m (nI 212) (nI 4) (fun c => hH_ad hg.2.2.1 212 (by decide) c)) ?_
    exact And.intro True.intro (DPi ((if_neg (sw_ot 0 c3 (by decide) (by decide))).trans (if_pos (sw_eq 1 c3 rfl (by decide)))))
  · skip
    refine hJ 60 _ _ _ ?_
    refine CALL_same (r := some (.int (m_X12_tellsOf (Ms.s m) (nI 217) (nI 6)))) (h1 := hMs m) (by decide) (c_X12_tellsOf l hf m (nI 217) (nI 6) (fun c => hH_ad hg.2.2.1 217 (by decide) c)) ?_
    exact And.intro True.intro (DPi ((if_neg (sw_ot 0 c4 (by decide) (by decide))).trans ((if_neg (sw_ot 1 c4 (by decide) (by decide))).trans (if_pos (sw_eq 2 c4 rfl (by decide))))))
  · skip
    refine hJ 70 _ _ _ ?_
    refine CALL_same (r := some (.int (m_X12_knownByAny (Ms.s m)))) (h1 := hMs m) (by decide) (c_X12_knownByAny l hf m hg.2.1) ?_
    exact And.intro True.intro (DPi ((if_neg (sw_ot 0 c5 (by decide) (by decide))).trans ((if_neg (sw_ot 1 c5 (by decide) (by decide))).trans ((if_neg (sw_ot 2 c5 (by decide) (by decide))).trans (if_pos (sw_eq 3 c5 rfl (by decide)))))))
  · skip
    refine hJ 75 _ _ _ ?_
    refine CALL_same (r := some (.int (m_X12_heldByAll (Ms.s m)))) (h1 := hMs m) (by decide) (c_X12_heldByAll l hf m hg.2.1) ?_
    exact And.intro True.intro (DPi ((if_neg (sw_ot 0 c6 (by decide) (by decide))).trans ((if_neg (sw_ot 1 c6 (by decide) (by decide))).trans ((if_neg (sw_ot 2 c6 (by decide) (by decide))).trans ((if_neg (sw_ot 3 c6 (by decide) (by decide))).trans (if_pos (sw_eq 4 c6 rfl (by decide))))))))
  · skip
    refine hJ 80 _ _ _ ?_
    refine CALL_same (r := some (.int (m_X12_awayOnes (Ms.s m)))) (h1 := hMs m) (by decide) (c_X12_awayOnes l hf m hg.2.1) ?_
    exact And.intro True.intro (DPi ((if_neg (sw_ot 0 c7 (by decide) (by decide))).trans ((if_neg (sw_ot 1 c7 (by decide) (by decide))).trans ((if_neg (sw_ot 2 c7 (by decide) (by decide))).trans ((if_neg (sw_ot 3 c7 (by decide) (by decide))).trans ((if_neg (sw_ot 4 c7 (by decide) (by decide))).trans (if_pos (sw_eq 5 c7 rfl (by decide)))))))))
  · skip
    refine hJ 85 _ _ _ ?_
    refine CALL_same (r := some (.int (m_X12_fewest (Ms.s m)))) (h1 := hMs m) (by decide) (c_X12_fewest l hf m hg.2.1) ?_
    exact And.intro True.intro (DPi ((if_neg (sw_ot 0 c8 (by decide) (by decide))).trans ((if_neg (sw_ot 1 c8 (by decide) (by decide))).trans ((if_neg (sw_ot 2 c8 (by decide) (by decide))).trans ((if_neg (sw_ot 3 c8 (by decide) (by decide))).trans ((if_neg (sw_ot 4 c8 (by decide) (by decide))).trans ((if_neg (sw_ot 5 c8 (by decide) (by decide))).trans (if_pos (sw_eq 6 c8 rfl (by decide))))))))))

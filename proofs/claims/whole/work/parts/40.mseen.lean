/-! printed by wip/whole/gen/specs40.py: what was seen, odds, plans, books of the model -/
def m_X12_see (m : Ms) (u : Int32) (n : Int32) (f : Int32) (b : Int32) : Int32 × Ms := if u = (-nI 1) then (nI 0, (Ms.th m, (upd (Ms.s m) (nI 19).toNatClampNeg (nI 0)), Ms.im m, Ms.fr m, Ms.hi m, Ms.ac m, Ms.sp m, Ms.en m, Ms.wr m, Ms.op m, Ms.bb m, Ms.tr m, Ms.su m, Ms.lf m, Ms.lk m, Ms.nx m, Ms.bo m, Ms.ra m, Ms.ki m, Ms.nu m, Ms.tv m)) else (if (m_X12_isUrchin (Ms.s m) u) = 0 then ((-nI 1), m) else (if (m_X12_isFact f) = 0 then ((-nI 1), m) else (if (m_X12_in n (nI 0) (nI 12)) = 0 then ((-nI 2), m) else (if (Ms.s m (nI 19).toNatClampNeg) = nI 5 then ((-nI 4), m) else (bindv (upd (Ms.s m) (nI 60 + (Ms.s m (nI 19).toNatClampNeg)).toNatClampNeg u) (fun y6_0 => bindv (upd y6_0 (nI 65 + (y6_0 (nI 19).toNatClampNeg)).toNatClampNeg n) (fun y7_0 => bindv (upd y7_0 (nI 70 + (y7_0 (nI 19).toNatClampNeg)).toNatClampNeg f) (fun y8_0 => bindv (if b = 0 then (nI 0) else (nI 1)) (fun x9_0 => bindv (upd y8_0 (nI 75 + (y8_0 (nI 19).toNatClampNeg)).toNatClampNeg x9_0) (fun y10_0 => (((upd y10_0 (nI 19).toNatClampNeg ((y10_0 (nI 19).toNatClampNeg) + nI 1)) (nI 19).toNatClampNeg), (Ms.th m, (upd y10_0 (nI 19).toNatClampNeg ((y10_0 (nI 19).toNatClampNeg) + nI 1)), Ms.im m, Ms.fr m, Ms.hi m, Ms.ac m, Ms.sp m, Ms.en m, Ms.wr m, Ms.op m, Ms.bb m, Ms.tr m, Ms.su m, Ms.lf m, Ms.lk m, Ms.nx m, Ms.bo m, Ms.ra m, Ms.ki m, Ms.nu m, Ms.tv m))))))))))))
set_option maxRecDepth 100000 in
set_option maxHeartbeats 4000000 in
theorem c_X12_see (l : Launch) {fv : Value} (hf : FV fv) (m : Ms) (u : Int32) (n : Int32) (f : Int32) (b : Int32) (h9 : rl 5 (Ms.s m (nI 19).toNatClampNeg)) : CT l fv 11 jX12_see [.ref 0, .int u, .int n, .int f, .int b] (hMs m) (DP (some (.int (m_X12_see m u n f b).1)) (hMs ((m_X12_see m u n f b).2))) := by
  refine CT_of [75, 91, 107, 131, 132] mt_X12_see (by decide +kernel) (tab_X12 hf) okX12_see (Nat.le_of_ble_eq_true rfl) ?_
  intro J hJ hD
  refine hJ 0 _ _ _ ?_
  refine And.intro (fun c1 => ?_) (fun c1 => ?_)
  · skip
    refine hJ 15 _ _ _ ?_
    refine CALL_same (r := some (.int (m_X12_isUrchin (Ms.s m) u))) (h1 := hMs m) (by decide) (c_X12_isUrchin l hf m u) ?_
    refine And.intro (fun c2 => ?_) (fun c2 => ?_)
    · skip
      refine hJ 30 _ _ _ ?_
      exact And.intro True.intro (DPis (F := (fun z => hMs z)) (s' := m) ((if_neg c1).trans (if_pos c2)))
    · skip
      refine CALL_sub (h' := hMs m) [] (by decide) (c_X12_isFact l hf f) rfl rfl (by decide) (by decide) rfl ?_
      refine And.intro (fun c3 => ?_) (fun c3 => ?_)
      · skip
        refine hJ 32 _ _ _ ?_
        refine CALL_sub (h' := hMs m) [] (by decide) (c_X12_in l hf n (nI 0) (nI 12)) rfl rfl (by decide) (by decide) rfl ?_
        refine And.intro (fun c4 => ?_) (fun c4 => ?_)
        · skip
          refine hJ 45 _ _ _ ?_
          refine And.intro (vp_in_nI (by decide) (by decide)) ?_
          refine And.intro (fun c5 => ?_) (fun c5 => ?_)
          · skip
            have hx0 := rl_ne h9 c5 (by decide)
            refine hJ 59 _ _ _ ?_
            refine And.intro (vp_in_nI (by decide) (by decide)) ?_
            refine And.intro (vp_ad 60 hx0 (by decide) (by decide)) ?_
            have K6 : ∀ (y6_0 : Fn), ((upd (Ms.s m) (nI 60 + (Ms.s m (nI 19).toNatClampNeg)).toNatClampNeg u)) = y6_0 → J 75 [(0, .ref 0), (2, .int n), (3, .int f), (4, .int b)] [] (hMs (Ms.th m, y6_0, Ms.im m, Ms.fr m, Ms.hi m, Ms.ac m, Ms.sp m, Ms.en m, Ms.wr m, Ms.op m, Ms.bb m, Ms.tr m, Ms.su m, Ms.lf m, Ms.lk m, Ms.nx m, Ms.bo m, Ms.ra m, Ms.ki m, Ms.nu m, Ms.tv m)) := by
              intro y6_0 ey6_0
              have hx1 : vp_in (y6_0 (nI 19).toNatClampNeg) 5 := by rw [← ey6_0, up_other hx0 (by decide) (by decide)]; exact hx0
              refine hJ 75 _ _ _ ?_
              refine And.intro (vp_in_nI (by decide) (by decide)) ?_
              refine And.intro (vp_ad 65 hx1 (by decide) (by decide)) ?_
              have K7 : ∀ (y7_0 : Fn), ((upd y6_0 (nI 65 + (y6_0 (nI 19).toNatClampNeg)).toNatClampNeg n)) = y7_0 → J 91 [(0, .ref 0), (3, .int f), (4, .int b)] [] (hMs (Ms.th m, y7_0, Ms.im m, Ms.fr m, Ms.hi m, Ms.ac m, Ms.sp m, Ms.en m, Ms.wr m, Ms.op m, Ms.bb m, Ms.tr m, Ms.su m, Ms.lf m, Ms.lk m, Ms.nx m, Ms.bo m, Ms.ra m, Ms.ki m, Ms.nu m, Ms.tv m)) := by
                intro y7_0 ey7_0
                have hx2 : vp_in (y7_0 (nI 19).toNatClampNeg) 5 := by rw [← ey7_0, up_other hx1 (by decide) (by decide)]; exact hx1
                refine hJ 91 _ _ _ ?_
                refine And.intro (vp_in_nI (by decide) (by decide)) ?_
                refine And.intro (vp_ad 70 hx2 (by decide) (by decide)) ?_
                have K8 : ∀ (y8_0 : Fn), ((upd y7_0 (nI 70 + (y7_0 (nI 19).toNatClampNeg)).toNatClampNeg f)) = y8_0 → J 107 [(0, .ref 0), (4, .int b)] [] (hMs (Ms.th m, y8_0, Ms.im m, Ms.fr m, Ms.hi m, Ms.ac m, Ms.sp m, Ms.en m, Ms.wr m, Ms.op m, Ms.bb m, Ms.tr m, Ms.su m, Ms.lf m, Ms.lk m, Ms.nx m, Ms.bo m, Ms.ra m, Ms.ki m, Ms.nu m, Ms.tv m)) := by
                  intro y8_0 ey8_0
                  have hx3 : vp_in (y8_0 (nI 19).toNatClampNeg) 5 := by rw [← ey8_0, up_other hx2 (by decide) (by decide)]; exact hx2
                  refine hJ 107 _ _ _ ?_
                  refine And.intro (vp_in_nI (by decide) (by decide)) ?_
                  have K9 : ∀ (x9_0 : Int32), (if b = 0 then (nI 0) else (nI 1)) = x9_0 → J 131 [(0, .ref 0)] [.int x9_0, .int (nI 75 + (y8_0 (nI 19).toNatClampNeg)), .ref 1] (hMs (Ms.th m, y8_0, Ms.im m, Ms.fr m, Ms.hi m, Ms.ac m, Ms.sp m, Ms.en m, Ms.wr m, Ms.op m, Ms.bb m, Ms.tr m, Ms.su m, Ms.lf m, Ms.lk m, Ms.nx m, Ms.bo m, Ms.ra m, Ms.ki m, Ms.nu m, Ms.tv m)) := by
                    intro x9_0 ex9_0
                    refine hJ 131 _ _ _ ?_
                    refine And.intro (vp_ad 75 hx3 (by decide) (by decide)) ?_
                    have K10 : ∀ (y10_0 : Fn), ((upd y8_0 (nI 75 + (y8_0 (nI 19).toNatClampNeg)).toNatClampNeg x9_0)) = y10_0 → J 132 [(0, .ref 0)] [] (hMs (Ms.th m, y10_0, Ms.im m, Ms.fr m, Ms.hi m, Ms.ac m, Ms.sp m, Ms.en m, Ms.wr m, Ms.op m, Ms.bb m, Ms.tr m, Ms.su m, Ms.lf m, Ms.lk m, Ms.nx m, Ms.bo m, Ms.ra m, Ms.ki m, Ms.nu m, Ms.tv m)) := by
                      intro y10_0 ey10_0
                      have hx4 : vp_in (y10_0 (nI 19).toNatClampNeg) 5 := by rw [← ey10_0, up_other hx3 (by decide) (by decide)]; exact hx3
                      refine hJ 132 _ _ _ ?_
                      refine And.intro (vp_in_nI (by decide) (by decide)) ?_
                      refine And.intro (vp_in_nI (by decide) (by decide)) ?_
                      refine And.intro (vp_in_nI (by decide) (by decide)) ?_
                      exact And.intro True.intro (DPis (F := (fun z => hMs z)) (s' := (Ms.th m, (upd y10_0 (nI 19).toNatClampNeg ((y10_0 (nI 19).toNatClampNeg) + nI 1)), Ms.im m, Ms.fr m, Ms.hi m, Ms.ac m, Ms.sp m, Ms.en m, Ms.wr m, Ms.op m, Ms.bb m, Ms.tr m, Ms.su m, Ms.lf m, Ms.lk m, Ms.nx m, Ms.bo m, Ms.ra m, Ms.ki m, Ms.nu m, Ms.tv m)) ((if_neg c1).trans ((if_neg c2).trans ((if_neg c3).trans ((if_neg c4).trans ((if_neg c5).trans ((bindv_eq ey6_0).trans ((bindv_eq ey7_0).trans ((bindv_eq ey8_0).trans ((bindv_eq ex9_0).trans (bindv_eq ey10_0)))))))))))
                    exact hD _ _ [0] _ _ (K10 _ rfl)
                  refine And.intro (fun c11 => ?_) (fun c11 => ?_)
                  · skip
                    refine hJ 130 _ _ _ ?_
                    exact hD _ _ [0] _ _ (K9 _ (if_pos c11))
                  · skip
                    exact hD _ _ [0] _ _ (K9 _ (if_neg c11))
                exact hD _ _ [0, 2] _ _ (K8 _ rfl)
              exact hD _ _ [0, 2, 3] _ _ (K7 _ rfl)
            exact hD _ _ [0, 2, 3, 4] _ _ (K6 _ rfl)
          · skip
            exact And.intro True.intro (DPis (F := (fun z => hMs z)) (s' := m) ((if_neg c1).trans ((if_neg c2).trans ((if_neg c3).trans ((if_neg c4).trans (if_pos c5))))))
        · skip
          exact And.intro True.intro (DPis (F := (fun z => hMs z)) (s' := m) ((if_neg c1).trans ((if_neg c2).trans ((if_neg c3).trans (if_pos c4)))))
      · skip
        exact And.intro True.intro (DPis (F := (fun z => hMs z)) (s' := m) ((if_neg c1).trans ((if_neg c2).trans (if_pos c3))))
  · skip
    refine And.intro (vp_in_nI (by decide) (by decide)) ?_
    exact And.intro True.intro (DPis (F := (fun z => hMs z)) (s' := (Ms.th m, (upd (Ms.s m) (nI 19).toNatClampNeg (nI 0)), Ms.im m, Ms.fr m, Ms.hi m, Ms.ac m, Ms.sp m, Ms.en m, Ms.wr m, Ms.op m, Ms.bb m, Ms.tr m, Ms.su m, Ms.lf m, Ms.lk m, Ms.nx m, Ms.bo m, Ms.ra m, Ms.ki m, Ms.nu m, Ms.tv m)) (if_pos c1))
/-- rows that are told by hand: n of them at most, their first numbers below b -/
def Tab (c n a b : Nat) (f : Fn) : Prop := ∃ q, q ≤ n ∧ f c = nI q ∧ ∀ j, j < q → vp_in (f (a + j)) b
theorem Tab.lt {c n a b : Nat} {f : Fn} (h : Tab c n a b f) (hc : c < 927) (ha : a + n < 927) {k : Nat} {i : Int32} (hi : i = nI k) (hn : n < 900) (hk : k ≤ n) (g : ¬ f (nI c).toNatClampNeg ≤ i) : k < n ∧ vp_in (f (nI a + i).toNatClampNeg) b := by
  obtain ⟨q, h1, h2, h3⟩ := h
  rw [nI_clamp (by omega), h2, hi, nI_leI (by omega) (by omega)] at g
  refine ⟨by omega, ?_⟩
  rw [hi, nI_add, nI_clamp (by omega)]
  exact h3 k (by omega)
theorem Tab.congr {c n a b : Nat} {f g : Fn} (h : Tab c n a b f) (e : ∀ i, 17 ≤ i → i < 24 ∨ 36 ≤ i → g i = f i) (hc : 17 ≤ c ∧ c < 24) (ha : 36 ≤ a) : Tab c n a b g := by
  obtain ⟨q, h1, h2, h3⟩ := h
  exact ⟨q, h1, by rw [e c hc.1 (Or.inl hc.2)]; exact h2, fun j hj => by rw [e (a + j) (by omega) (Or.inr (by omega))]; exact h3 j hj⟩
theorem Tab.kp {c n b a x : Nat} {m m' : Ms} (h : Tab c n a b (Ms.s m)) (k : Kp x m m') (hx : x ≤ 17) (hc : 17 ≤ c ∧ c < 24) (ha : 36 ≤ a) : Tab c n a b (Ms.s m') := h.congr (fun i hi _ => k.1 i (by omega)) hc ha
def hW (m : Ms) : Prop := Tab 19 5 60 6 (Ms.s m)
theorem hW.kp {x : Nat} {m m' : Ms} (h : hW m) (k : Kp x m m') (hx : x ≤ 17) : hW m' := Tab.kp h k hx (by decide) (by decide)
def l_X12_isAsSeen_4 (zs : Fn) (n : Int32) : Nat → Int32 → Int32 → Int32
  | 0, _, _ => 0
  | n4 + 1, a, k => if (zs (nI 19).toNatClampNeg) ≤ k then a else (bindv (if a = 0 then (nI 0) else (if (zs (nI 65 + k).toNatClampNeg) = n then (if (((zs (nI 1 + (zs (nI 60 + k).toNatClampNeg)).toNatClampNeg) >>> ((zs (nI 70 + k).toNatClampNeg) &&& 31)) &&& nI 1) = (zs (nI 75 + k).toNatClampNeg) then (nI 1) else (nI 0)) else (nI 1))) (fun x2_0 => l_X12_isAsSeen_4 zs n n4 x2_0 (k + nI 1)))
theorem q_X12_isAsSeen_4 (zs : Fn) (n : Int32) (n4 : Nat) (a : Int32) (k : Int32) : l_X12_isAsSeen_4 zs n (n4 + 1) a k = (if (zs (nI 19).toNatClampNeg) ≤ k then a else (bindv (if a = 0 then (nI 0) else (if (zs (nI 65 + k).toNatClampNeg) = n then (if (((zs (nI 1 + (zs (nI 60 + k).toNatClampNeg)).toNatClampNeg) >>> ((zs (nI 70 + k).toNatClampNeg) &&& 31)) &&& nI 1) = (zs (nI 75 + k).toNatClampNeg) then (nI 1) else (nI 0)) else (nI 1))) (fun x2_0 => l_X12_isAsSeen_4 zs n n4 x2_0 (k + nI 1)))) := rfl
def m_X12_isAsSeen (zs : Fn) (n : Int32) : Int32 := l_X12_isAsSeen_4 zs n 6 (nI 1) (nI 0)
set_option maxRecDepth 100000 in
set_option maxHeartbeats 4000000 in
theorem c_X12_isAsSeen (l : Launch) {fv : Value} (hf : FV fv) (m : Ms) (n : Int32) (hw : hW m) : CT l fv 2 jX12_isAsSeen [.ref 0, .int n] (hMs m) (DP (some (.int (m_X12_isAsSeen (Ms.s m) n))) (hMs m)) := by
  refine CT_of [4, 81] mt_X12_isAsSeen (by decide +kernel) (tab_X12 hf) okX12_isAsSeen (Nat.le_of_ble_eq_true rfl) ?_
  intro J hJ hD
  refine hJ 0 _ _ _ ?_
  have L4 : ∀ (n4 : Nat) (a : Int32) (k : Int32), (∃ z9 : Nat, z9 ≤ 5 ∧ n4 + z9 = 6 ∧ k = nI z9 ∧ bl a) → m_X12_isAsSeen (Ms.s m) n = l_X12_isAsSeen_4 (Ms.s m) n n4 a k → J 4 [(0, .ref 0), (1, .int n), (2, .int a), (3, .int k)] [] (hMs m) := by
    intro n4
    induction n4 with
    | zero =>
      intro a k hv
      obtain ⟨z9, h1, h2, h3, h5⟩ := hv
      omega
    | succ n4 ih4 =>
      intro a k hv e4
      obtain ⟨z9, h1, h2, h3, h5⟩ := hv
      refine hJ 4 _ _ _ ?_
      refine And.intro (vp_in_nI (by decide) (by decide)) ?_
      refine And.intro (fun c1 => ?_) (fun c1 => ?_)
      · skip
        refine hJ 88 _ _ _ ?_
        exact And.intro (xret_bl h5) (DPi (e4.trans ((q_X12_isAsSeen_4 (Ms.s m) n n4 a k).trans (if_pos c1))))
      · skip
        obtain ⟨h4, hr⟩ := hw.lt (by decide) (by decide) h3 (by decide) h1 c1
        have hk := vp_nI h3 h4 (by decide)
        refine And.intro (vp_ad 60 hk (by decide) (by decide)) ?_
        refine And.intro (vp_ad 1 hr (by decide) (by decide)) ?_
        refine And.intro (vp_ad 70 hk (by decide) (by decide)) ?_
        have K2 : ∀ (x2_0 : Int32), (if a = 0 then (nI 0) else (if (Ms.s m (nI 65 + k).toNatClampNeg) = n then (if (((Ms.s m (nI 1 + (Ms.s m (nI 60 + k).toNatClampNeg)).toNatClampNeg) >>> ((Ms.s m (nI 70 + k).toNatClampNeg) &&& 31)) &&& nI 1) = (Ms.s m (nI 75 + k).toNatClampNeg) then (nI 1) else (nI 0)) else (nI 1))) = x2_0 → J 81 [(0, .ref 0), (1, .int n), (3, .int k)] [.int x2_0] (hMs m) := by
          intro x2_0 ex2_0
          have hb : bl x2_0 := (by rw [← ex2_0]; (repeat' split) <;> first | exact Or.inl rfl | exact Or.inr rfl)
          refine hJ 81 _ _ _ ?_
          exact hD _ _ [2, 3, 1, 0] _ _ (ih4 _ _ ⟨z9 + 1, by omega, by omega, by rw [h3]; exact nI_add z9 1, hb⟩ (e4.trans ((q_X12_isAsSeen_4 (Ms.s m) n n4 a k).trans ((if_neg c1).trans (bindv_eq ex2_0)))))
        refine And.intro (fun c3 => ?_) (fun c3 => ?_)
        · skip
          refine hJ 80 _ _ _ ?_
          exact hD _ _ [1, 2, 4] _ _ (K2 _ (if_pos c3))
        · skip
          refine And.intro (vp_ad 65 hk (by decide) (by decide)) ?_
          refine And.intro (fun c4 => ?_) (fun c4 => ?_)
          · skip
            refine hJ 76 _ _ _ ?_
            exact hD _ _ [1, 2, 4] _ _ (K2 _ ((if_neg c3).trans (if_neg c4)))
          · skip
            refine And.intro (vp_ad 75 hk (by decide) (by decide)) ?_
            refine And.intro (fun c5 => ?_) (fun c5 => ?_)
            · skip
              refine hJ 80 _ _ _ ?_
              exact hD _ _ [1, 2, 4] _ _ (K2 _ ((if_neg c3).trans ((if_pos c4).trans (if_neg c5))))
            · skip
              exact hD _ _ [1, 2, 4] _ _ (K2 _ ((if_neg c3).trans ((if_pos c4).trans (if_pos c5))))
  exact hD _ _ [2, 3, 1, 0] _ _ (L4 6 _ _ ⟨0, by decide, by decide, rfl, Or.inr rfl⟩ (rfl))
theorem bl_isAsSeen_l (s : Fn) (n : Int32) : ∀ (x : Nat) (a k : Int32), bl a → bl (l_X12_isAsSeen_4 s n x a k) := by
  intro x
  induction x with
  | zero => intro a k h; exact Or.inl rfl
  | succ x ih =>
    intro a k h
    rw [q_X12_isAsSeen_4]
    unfold bindv
    split
    · exact h
    · refine ih _ _ ?_
      (repeat' split) <;> first | exact Or.inl rfl | exact Or.inr rfl
theorem bl_isAsSeen (s : Fn) (n : Int32) : bl (m_X12_isAsSeen s n) := bl_isAsSeen_l s n _ _ _ (Or.inr rfl)
def l_X12_areAsSeen_4 (m : Ms) : Nat → Int32 → Int32 → Ms → Int32 × Ms
  | 0, _, _, _ => (0, m)
  | n4 + 1, a, n, m1 => if nI 12 < n then (bindv (m_X12_goesBack m1) (fun r2 => (a, r2))) else (if a = 0 then (bindv (m_X12_goesBack m1) (fun r4 => (a, r4))) else (bindv (m_X12_goes m1) (fun r5 => l_X12_areAsSeen_4 m n4 (m_X12_isAsSeen (Ms.s m1) n) (n + nI 1) r5)))
theorem q_X12_areAsSeen_4 (m : Ms) (n4 : Nat) (a : Int32) (n : Int32) (m1 : Ms) : l_X12_areAsSeen_4 m (n4 + 1) a n m1 = (if nI 12 < n then (bindv (m_X12_goesBack m1) (fun r2 => (a, r2))) else (if a = 0 then (bindv (m_X12_goesBack m1) (fun r4 => (a, r4))) else (bindv (m_X12_goes m1) (fun r5 => l_X12_areAsSeen_4 m n4 (m_X12_isAsSeen (Ms.s m1) n) (n + nI 1) r5)))) := rfl
def m_X12_areAsSeen (m : Ms) : Int32 × Ms := l_X12_areAsSeen_4 m 14 (nI 1) (nI 0) m
set_option maxRecDepth 100000 in
set_option maxHeartbeats 4000000 in
theorem c_X12_areAsSeen (l : Launch) {fv : Value} (hf : FV fv) (m : Ms) {B : Nat} (hg : Gd B m) (hw : hW m) (hB : B + 13 ≤ 1000000) : CT l fv 9 jX12_areAsSeen [.ref 0] (hMs m) (DP (some (.int (m_X12_areAsSeen m).1)) (hMs ((m_X12_areAsSeen m).2))) := by
  refine CT_of [4] mt_X12_areAsSeen (by decide +kernel) (tab_X12 hf) okX12_areAsSeen (Nat.le_of_ble_eq_true rfl) ?_
  intro J hJ hD
  refine hJ 0 _ _ _ ?_
  have L4 : ∀ (n4 : Nat) (a : Int32) (n : Int32) (m1 : Ms), (∃ z9 : Nat, z9 ≤ 13 ∧ n4 + z9 = 14 ∧ n = nI z9 ∧ Gd (B + z9) m1 ∧ hW m1 ∧ bl a) → m_X12_areAsSeen m = l_X12_areAsSeen_4 m n4 a n m1 → J 4 [(0, .ref 0), (1, .int a), (2, .int n)] [] (hMs m1) := by
    intro n4
    induction n4 with
    | zero =>
      intro a n m1 hv
      obtain ⟨z9, h1, h2, h3, h5, h6, h7⟩ := hv
      omega
    | succ n4 ih4 =>
      intro a n m1 hv e4
      obtain ⟨z9, h1, h2, h3, h5, h6, h7⟩ := hv
      refine hJ 4 _ _ _ ?_
      refine And.intro (fun c1 => ?_) (fun c1 => ?_)
      · skip
        refine hJ 30 _ _ _ ?_
        obtain ⟨r2, er2⟩ : ∃ z : Ms, m_X12_goesBack m1 = z := ⟨_, rfl⟩
        have hr2 := c_X12_goesBack l hf m1
        rw [er2] at hr2
        refine CALL_same (r := none) (h1 := hMs r2) (by decide) (hr2) ?_
        exact And.intro (xret_bl h7) (DPis (F := (fun z => hMs z)) (s' := r2) (e4.trans ((q_X12_areAsSeen_4 m n4 a n m1).trans ((if_pos c1).trans (bindv_eq er2)))))
      · skip
        have h4 : z9 ≤ 12 := cnt_le h3 (by omega) (by decide) c1
        refine And.intro (fun c3 => ?_) (fun c3 => ?_)
        · skip
          refine hJ 30 _ _ _ ?_
          obtain ⟨r4, er4⟩ : ∃ z : Ms, m_X12_goesBack m1 = z := ⟨_, rfl⟩
          have hr4 := c_X12_goesBack l hf m1
          rw [er4] at hr4
          refine CALL_same (r := none) (h1 := hMs r4) (by decide) (hr4) ?_
          exact And.intro (xret_bl h7) (DPis (F := (fun z => hMs z)) (s' := r4) (e4.trans ((q_X12_areAsSeen_4 m n4 a n m1).trans ((if_neg c1).trans ((if_pos c3).trans (bindv_eq er4))))))
        · skip
          refine CALL_same (r := some (.int (m_X12_isAsSeen (Ms.s m1) n))) (h1 := hMs m1) (by decide) (c_X12_isAsSeen l hf m1 n h6) ?_
          obtain ⟨r5, er5⟩ : ∃ z : Ms, m_X12_goes m1 = z := ⟨_, rfl⟩
          have hr5 := c_X12_goes l hf m1 h5 (by omega)
          rw [er5] at hr5
          have h8 := ef_goes h5; rw [er5] at h8
          refine CALL_same (r := none) (h1 := hMs r5) (by decide) (hr5) ?_
          exact hD _ _ [2, 1, 0] _ _ (ih4 _ _ _ ⟨z9 + 1, by omega, by omega, by rw [h3]; exact nI_add z9 1, h8.1, h6.kp h8.2.1 (by decide), bl_isAsSeen _ _⟩ (e4.trans ((q_X12_areAsSeen_4 m n4 a n m1).trans ((if_neg c1).trans ((if_neg c3).trans (bindv_eq er5))))))
  exact hD _ _ [2, 1, 0] _ _ (L4 14 _ _ _ ⟨0, by decide, by decide, rfl, hg, hw, Or.inr rfl⟩ (rfl))
theorem ef_areAsSeen_l (m : Ms) {B : Nat} : ∀ (n k : Nat) (a i : Int32) (m1 : Ms), k ≤ 13 → n + k = 14 → i = nI k → Gd (B + k) m1 → Kp 7 m m1 → Ms.fr m1 = Ms.fr m → Bk m m (l_X12_areAsSeen_4 m n a i m1).2 := by
  intro n
  induction n with
  | zero => intro k fo i m1 h1 h2; omega
  | succ n ih =>
    intro k fo i m1 h1 h2 h3 h4 h5 h6
    have fin : Bk m m (m_X12_goesBack m1) :=
      ⟨(h5.mono (by omega)).tr (ef_goesBack m1).1, (ef_goesBack m1).2.1.trans h6, fun j hj => ((ef_goesBack m1).2.2 j hj).trans (by rw [h6])⟩
    rw [q_X12_areAsSeen_4]
    by_cases c : nI 12 < i
    · rw [if_pos c]; exact fin
    · rw [if_neg c]
      have hk : k ≤ 12 := cnt_le h3 (by omega) (by decide) c
      have e := ef_goes h4
      split
      · exact fin
      · exact ih (k + 1) _ _ _ (by omega) (by omega) (by rw [h3]; exact nI_add k 1) e.1 (h5.tr e.2.1) (e.2.2.1.trans h6)
theorem ef_areAsSeen_r {B : Nat} {m : Ms} {r : Int32 × Ms} (e : m_X12_areAsSeen m = r) (g : Gd B m) : Bk m m r.2 := by rw [← e]; exact ef_areAsSeen_l m 14 0 _ _ _ (by omega) rfl rfl g (Kp.rf 7 m) rfl

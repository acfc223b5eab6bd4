/-! printed by wip/whole/gen/specs33.py: what the model tells of its urchins -/
theorem hU_lt {m : Ms} (hu : hU m) {k : Nat} {i : Int32} (hi : i = nI k) (hk : k ≤ 6) (c : ¬ Ms.s m (nI 17).toNatClampNeg ≤ i) : k < 6 := by
  obtain ⟨q, hq, e⟩ := hu
  rw [e, hi, nI_leI (by omega) (by omega)] at c
  omega
def l_X12_knownByAny_4 (zs : Fn) : Nat → Int32 → Int32 → Int32
  | 0, _, _ => 0
  | n4 + 1, a, p => if (zs (nI 17).toNatClampNeg) ≤ p then a else (bindv (if (zs (nI 7 + p).toNatClampNeg) = 0 then (zs (nI 1 + p).toNatClampNeg) else (nI 0)) (fun x2_0 => l_X12_knownByAny_4 zs n4 (a ||| x2_0) (p + nI 1)))
theorem q_X12_knownByAny_4 (zs : Fn) (n4 : Nat) (a : Int32) (p : Int32) : l_X12_knownByAny_4 zs (n4 + 1) a p = (if (zs (nI 17).toNatClampNeg) ≤ p then a else (bindv (if (zs (nI 7 + p).toNatClampNeg) = 0 then (zs (nI 1 + p).toNatClampNeg) else (nI 0)) (fun x2_0 => l_X12_knownByAny_4 zs n4 (a ||| x2_0) (p + nI 1)))) := rfl
def m_X12_knownByAny (zs : Fn) : Int32 := l_X12_knownByAny_4 zs 7 (nI 0) (nI 0)
set_option maxRecDepth 100000 in
set_option maxHeartbeats 4000000 in
theorem c_X12_knownByAny (l : Launch) {fv : Value} (hf : FV fv) (m : Ms) (hu : hU m) : CT l fv 2 jX12_knownByAny [.ref 0] (hMs m) (DP (some (.int (m_X12_knownByAny (Ms.s m)))) (hMs m)) := by
  refine CT_of [4, 40] mt_X12_knownByAny (by decide +kernel) (tab_X12 hf) okX12_knownByAny (Nat.le_of_ble_eq_true rfl) ?_
  intro J hJ hD
  refine hJ 0 _ _ _ ?_
  have L4 : ∀ (n4 : Nat) (a : Int32) (p : Int32), (∃ z9 : Nat, z9 ≤ 6 ∧ n4 + z9 = 7 ∧ p = nI z9) → m_X12_knownByAny (Ms.s m) = l_X12_knownByAny_4 (Ms.s m) n4 a p → J 4 [(0, .ref 0), (1, .int a), (2, .int p)] [] (hMs m) := by
    intro n4
    induction n4 with
    | zero =>
      intro a p hv
      obtain ⟨z9, h1, h2, h3⟩ := hv
      omega
    | succ n4 ih4 =>
      intro a p hv e4
      obtain ⟨z9, h1, h2, h3⟩ := hv
      refine hJ 4 _ _ _ ?_
      refine And.intro (vp_in_nI (by decide) (by decide)) ?_
      refine And.intro (fun c1 => ?_) (fun c1 => ?_)
      · skip
        refine hJ 48 _ _ _ ?_
        exact And.intro True.intro (DPi (e4.trans ((q_X12_knownByAny_4 (Ms.s m) n4 a p).trans (if_pos c1))))
      · skip
        have h4 := hU_lt hu h3 h1 c1
        have hp := vp_nI h3 h4 (by decide)
        refine And.intro (vp_ad 7 hp (by decide) (by decide)) ?_
        have K2 : ∀ (x2_0 : Int32), (if (Ms.s m (nI 7 + p).toNatClampNeg) = 0 then (Ms.s m (nI 1 + p).toNatClampNeg) else (nI 0)) = x2_0 → J 40 [(0, .ref 0), (2, .int p)] [.int x2_0, .int a] (hMs m) := by
          intro x2_0 ex2_0
          refine hJ 40 _ _ _ ?_
          exact hD _ _ [2, 1, 0] _ _ (ih4 _ _ ⟨z9 + 1, h4, by omega, by rw [h3]; exact nI_add z9 1⟩ (e4.trans ((q_X12_knownByAny_4 (Ms.s m) n4 a p).trans ((if_neg c1).trans (bindv_eq ex2_0)))))
        refine And.intro (fun c3 => ?_) (fun c3 => ?_)
        · skip
          refine hJ 39 _ _ _ ?_
          exact hD _ _ [0, 2] _ _ (K2 _ (if_neg c3))
        · skip
          refine And.intro (vp_ad 1 hp (by decide) (by decide)) ?_
          exact hD _ _ [0, 2] _ _ (K2 _ (if_pos c3))
  exact hD _ _ [2, 1, 0] _ _ (L4 7 _ _ ⟨0, by decide, by decide, rfl⟩ (rfl))
def l_X12_heldByAll_4 (zs : Fn) : Nat → Int32 → Int32 → Int32
  | 0, _, _ => 0
  | n4 + 1, a, p => if (zs (nI 17).toNatClampNeg) ≤ p then a else (bindv (if (zs (nI 7 + p).toNatClampNeg) = 0 then (m_X12_countOf (zs (nI 1 + p).toNatClampNeg)) else (nI 0)) (fun x2_0 => l_X12_heldByAll_4 zs n4 (a + x2_0) (p + nI 1)))
theorem q_X12_heldByAll_4 (zs : Fn) (n4 : Nat) (a : Int32) (p : Int32) : l_X12_heldByAll_4 zs (n4 + 1) a p = (if (zs (nI 17).toNatClampNeg) ≤ p then a else (bindv (if (zs (nI 7 + p).toNatClampNeg) = 0 then (m_X12_countOf (zs (nI 1 + p).toNatClampNeg)) else (nI 0)) (fun x2_0 => l_X12_heldByAll_4 zs n4 (a + x2_0) (p + nI 1)))) := rfl
def m_X12_heldByAll (zs : Fn) : Int32 := l_X12_heldByAll_4 zs 7 (nI 0) (nI 0)
set_option maxRecDepth 100000 in
set_option maxHeartbeats 4000000 in
theorem c_X12_heldByAll (l : Launch) {fv : Value} (hf : FV fv) (m : Ms) (hu : hU m) : CT l fv 2 jX12_heldByAll [.ref 0] (hMs m) (DP (some (.int (m_X12_heldByAll (Ms.s m)))) (hMs m)) := by
  refine CT_of [4, 43] mt_X12_heldByAll (by decide +kernel) (tab_X12 hf) okX12_heldByAll (Nat.le_of_ble_eq_true rfl) ?_
  intro J hJ hD
  refine hJ 0 _ _ _ ?_
  have L4 : ∀ (n4 : Nat) (a : Int32) (p : Int32), (∃ z9 : Nat, z9 ≤ 6 ∧ n4 + z9 = 7 ∧ p = nI z9) → m_X12_heldByAll (Ms.s m) = l_X12_heldByAll_4 (Ms.s m) n4 a p → J 4 [(0, .ref 0), (1, .int a), (2, .int p)] [] (hMs m) := by
    intro n4
    induction n4 with
    | zero =>
      intro a p hv
      obtain ⟨z9, h1, h2, h3⟩ := hv
      omega
    | succ n4 ih4 =>
      intro a p hv e4
      obtain ⟨z9, h1, h2, h3⟩ := hv
      refine hJ 4 _ _ _ ?_
      refine And.intro (vp_in_nI (by decide) (by decide)) ?_
      refine And.intro (fun c1 => ?_) (fun c1 => ?_)
      · skip
        refine hJ 51 _ _ _ ?_
        exact And.intro True.intro (DPi (e4.trans ((q_X12_heldByAll_4 (Ms.s m) n4 a p).trans (if_pos c1))))
      · skip
        have h4 := hU_lt hu h3 h1 c1
        have hp := vp_nI h3 h4 (by decide)
        refine And.intro (vp_ad 7 hp (by decide) (by decide)) ?_
        have K2 : ∀ (x2_0 : Int32), (if (Ms.s m (nI 7 + p).toNatClampNeg) = 0 then (m_X12_countOf (Ms.s m (nI 1 + p).toNatClampNeg)) else (nI 0)) = x2_0 → J 43 [(0, .ref 0), (2, .int p)] [.int x2_0, .int a] (hMs m) := by
          intro x2_0 ex2_0
          refine hJ 43 _ _ _ ?_
          exact hD _ _ [2, 1, 0] _ _ (ih4 _ _ ⟨z9 + 1, h4, by omega, by rw [h3]; exact nI_add z9 1⟩ (e4.trans ((q_X12_heldByAll_4 (Ms.s m) n4 a p).trans ((if_neg c1).trans (bindv_eq ex2_0)))))
        refine And.intro (fun c3 => ?_) (fun c3 => ?_)
        · skip
          refine hJ 42 _ _ _ ?_
          exact hD _ _ [0, 2] _ _ (K2 _ (if_neg c3))
        · skip
          refine And.intro (vp_ad 1 hp (by decide) (by decide)) ?_
          refine CALL_sub (h' := hMs m) [] (by decide) (c_X12_countOf l hf (Ms.s m (nI 1 + p).toNatClampNeg)) rfl rfl (by decide) (by decide) rfl ?_
          exact hD _ _ [0, 2] _ _ (K2 _ (if_pos c3))
  exact hD _ _ [2, 1, 0] _ _ (L4 7 _ _ ⟨0, by decide, by decide, rfl⟩ (rfl))
def l_X12_awayOnes_4 (zs : Fn) : Nat → Int32 → Int32 → Int32
  | 0, _, _ => 0
  | n4 + 1, a, p => if (zs (nI 17).toNatClampNeg) ≤ p then a else l_X12_awayOnes_4 zs n4 (a ||| ((zs (nI 7 + p).toNatClampNeg) <<< (p &&& 31))) (p + nI 1)
theorem q_X12_awayOnes_4 (zs : Fn) (n4 : Nat) (a : Int32) (p : Int32) : l_X12_awayOnes_4 zs (n4 + 1) a p = (if (zs (nI 17).toNatClampNeg) ≤ p then a else l_X12_awayOnes_4 zs n4 (a ||| ((zs (nI 7 + p).toNatClampNeg) <<< (p &&& 31))) (p + nI 1)) := rfl
def m_X12_awayOnes (zs : Fn) : Int32 := l_X12_awayOnes_4 zs 7 (nI 0) (nI 0)
set_option maxRecDepth 100000 in
set_option maxHeartbeats 4000000 in
theorem c_X12_awayOnes (l : Launch) {fv : Value} (hf : FV fv) (m : Ms) (hu : hU m) : CT l fv 2 jX12_awayOnes [.ref 0] (hMs m) (DP (some (.int (m_X12_awayOnes (Ms.s m)))) (hMs m)) := by
  refine CT_of [4] mt_X12_awayOnes (by decide +kernel) (tab_X12 hf) okX12_awayOnes (Nat.le_of_ble_eq_true rfl) ?_
  intro J hJ hD
  refine hJ 0 _ _ _ ?_
  have L4 : ∀ (n4 : Nat) (a : Int32) (p : Int32), (∃ z9 : Nat, z9 ≤ 6 ∧ n4 + z9 = 7 ∧ p = nI z9) → m_X12_awayOnes (Ms.s m) = l_X12_awayOnes_4 (Ms.s m) n4 a p → J 4 [(0, .ref 0), (1, .int a), (2, .int p)] [] (hMs m) := by
    intro n4
    induction n4 with
    | zero =>
      intro a p hv
      obtain ⟨z9, h1, h2, h3⟩ := hv
      omega
    | succ n4 ih4 =>
      intro a p hv e4
      obtain ⟨z9, h1, h2, h3⟩ := hv
      refine hJ 4 _ _ _ ?_
      refine And.intro (vp_in_nI (by decide) (by decide)) ?_
      refine And.intro (fun c1 => ?_) (fun c1 => ?_)
      · skip
        refine hJ 35 _ _ _ ?_
        exact And.intro True.intro (DPi (e4.trans ((q_X12_awayOnes_4 (Ms.s m) n4 a p).trans (if_pos c1))))
      · skip
        have h4 := hU_lt hu h3 h1 c1
        have hp := vp_nI h3 h4 (by decide)
        refine And.intro (vp_ad 7 hp (by decide) (by decide)) ?_
        exact hD _ _ [2, 1, 0] _ _ (ih4 _ _ ⟨z9 + 1, h4, by omega, by rw [h3]; exact nI_add z9 1⟩ (e4.trans ((q_X12_awayOnes_4 (Ms.s m) n4 a p).trans (if_neg c1))))
  exact hD _ _ [2, 1, 0] _ _ (L4 7 _ _ ⟨0, by decide, by decide, rfl⟩ (rfl))
def l_X12_knownBy_4 (zs : Fn) (b : Int32) : Nat → Int32 → Int32 → Int32
  | 0, _, _ => 0
  | n4 + 1, a, p => if (zs (nI 17).toNatClampNeg) ≤ p then a else (bindv (if ((b >>> (p &&& 31)) &&& nI 1) = nI 1 then (zs (nI 1 + p).toNatClampNeg) else (nI 0)) (fun x2_0 => l_X12_knownBy_4 zs b n4 (a ||| x2_0) (p + nI 1)))
theorem q_X12_knownBy_4 (zs : Fn) (b : Int32) (n4 : Nat) (a : Int32) (p : Int32) : l_X12_knownBy_4 zs b (n4 + 1) a p = (if (zs (nI 17).toNatClampNeg) ≤ p then a else (bindv (if ((b >>> (p &&& 31)) &&& nI 1) = nI 1 then (zs (nI 1 + p).toNatClampNeg) else (nI 0)) (fun x2_0 => l_X12_knownBy_4 zs b n4 (a ||| x2_0) (p + nI 1)))) := rfl
def m_X12_knownBy (zs : Fn) (b : Int32) : Int32 := l_X12_knownBy_4 zs b 7 (nI 0) (nI 0)
set_option maxRecDepth 100000 in
set_option maxHeartbeats 4000000 in
theorem c_X12_knownBy (l : Launch) {fv : Value} (hf : FV fv) (m : Ms) (b : Int32) (hu : hU m) : CT l fv 2 jX12_knownBy [.ref 0, .int b] (hMs m) (DP (some (.int (m_X12_knownBy (Ms.s m) b))) (hMs m)) := by
  refine CT_of [4, 37] mt_X12_knownBy (by decide +kernel) (tab_X12 hf) okX12_knownBy (Nat.le_of_ble_eq_true rfl) ?_
  intro J hJ hD
  refine hJ 0 _ _ _ ?_
  have L4 : ∀ (n4 : Nat) (a : Int32) (p : Int32), (∃ z9 : Nat, z9 ≤ 6 ∧ n4 + z9 = 7 ∧ p = nI z9) → m_X12_knownBy (Ms.s m) b = l_X12_knownBy_4 (Ms.s m) b n4 a p → J 4 [(0, .ref 0), (1, .int b), (2, .int a), (3, .int p)] [] (hMs m) := by
    intro n4
    induction n4 with
    | zero =>
      intro a p hv
      obtain ⟨z9, h1, h2, h3⟩ := hv
      omega
    | succ n4 ih4 =>
      intro a p hv e4
      obtain ⟨z9, h1, h2, h3⟩ := hv
      refine hJ 4 _ _ _ ?_
      refine And.intro (vp_in_nI (by decide) (by decide)) ?_
      refine And.intro (fun c1 => ?_) (fun c1 => ?_)
      · skip
        refine hJ 45 _ _ _ ?_
        exact And.intro True.intro (DPi (e4.trans ((q_X12_knownBy_4 (Ms.s m) b n4 a p).trans (if_pos c1))))
      · skip
        have h4 := hU_lt hu h3 h1 c1
        have hp := vp_nI h3 h4 (by decide)
        have K2 : ∀ (x2_0 : Int32), (if ((b >>> (p &&& 31)) &&& nI 1) = nI 1 then (Ms.s m (nI 1 + p).toNatClampNeg) else (nI 0)) = x2_0 → J 37 [(0, .ref 0), (1, .int b), (3, .int p)] [.int x2_0, .int a] (hMs m) := by
          intro x2_0 ex2_0
          refine hJ 37 _ _ _ ?_
          exact hD _ _ [2, 3, 1, 0] _ _ (ih4 _ _ ⟨z9 + 1, h4, by omega, by rw [h3]; exact nI_add z9 1⟩ (e4.trans ((q_X12_knownBy_4 (Ms.s m) b n4 a p).trans ((if_neg c1).trans (bindv_eq ex2_0)))))
        refine And.intro (fun c3 => ?_) (fun c3 => ?_)
        · skip
          refine hJ 36 _ _ _ ?_
          exact hD _ _ [0, 1, 3] _ _ (K2 _ (if_neg c3))
        · skip
          refine And.intro (vp_ad 1 hp (by decide) (by decide)) ?_
          exact hD _ _ [0, 1, 3] _ _ (K2 _ (if_pos c3))
  exact hD _ _ [2, 3, 1, 0] _ _ (L4 7 _ _ ⟨0, by decide, by decide, rfl⟩ (rfl))
theorem vp_sums {s0 p f c : Int32} (ht : rl 1000000 s0) (hp : vp_in p 6) (hq : vp_in f 8) (hc : rl 8 c) : vp_in ((nI 9 * ((nI 8 * ((nI 6 * (s0 - s0 / nI 10 * nI 10)) + p)) + f)) + c) 4320 := by
  obtain ⟨t, h1, rfl⟩ := ht
  obtain ⟨a, h2, rfl⟩ := vp_in_of hp (by decide)
  obtain ⟨b, h3, rfl⟩ := vp_in_of hq (by decide)
  obtain ⟨d, h4, rfl⟩ := hc
  rw [pk_rem (by omega) (by decide) (by decide), pk_mul, nI_add, pk_mul, nI_add, pk_mul, nI_add]
  have := Nat.mod_lt t (show 0 < 10 by decide)
  exact vp_in_nI (by omega) (by decide)
theorem vp_row {p f : Int32} (hp : vp_in p 6) (hq : vp_in f 8) : vp_in ((nI 36 + (nI 4 * p)) + (f - f / nI 4 * nI 4)) 927 := by
  obtain ⟨a, h2, rfl⟩ := vp_in_of hp (by decide)
  obtain ⟨b, h3, rfl⟩ := vp_in_of hq (by decide)
  rw [pk_rem (by omega) (by decide) (by decide), pk_mul, nI_add, nI_add]
  have := Nat.mod_lt b (show 0 < 4 by decide)
  exact vp_in_nI (by omega) (by decide)
/-- the same but for what is kept of sums -/
def Cq (m m' : Ms) : Prop := Ms.s m' = Ms.s m ∧ Ms.im m' = Ms.im m ∧ Ms.fr m' = Ms.fr m ∧ Ms.hi m' = Ms.hi m ∧ Ms.lk m' = Ms.lk m ∧ Ms.nx m' = Ms.nx m ∧ Ms.bo m' = Ms.bo m ∧ Ms.ra m' = Ms.ra m
theorem Cq.rf (m : Ms) : Cq m m := ⟨rfl, rfl, rfl, rfl, rfl, rfl, rfl, rfl⟩
theorem Cq.tr {a b c : Ms} (h : Cq a b) (g : Cq b c) : Cq a c := by
  obtain ⟨h1, h2, h3, h4, h5, h6, h7, h8⟩ := h
  obtain ⟨g1, g2, g3, g4, g5, g6, g7, g8⟩ := g
  exact ⟨g1.trans h1, g2.trans h2, g3.trans h3, g4.trans h4, g5.trans h5, g6.trans h6, g7.trans h7, g8.trans h8⟩
theorem cq_l (m : Ms) (p f many tide : Int32) : ∀ (n : Nat) (sum top i : Int32) (tr : Fn), Cq m (l_X12_clausesOf_96 m p f many tide n sum top i tr).2 := by
  intro n
  induction n with
  | zero => intro sum top i tr; exact Cq.rf m
  | succ n ih =>
    intro sum top i tr
    rw [q_X12_clausesOf_96]
    simp only [bindv]
    (repeat' split) <;> first | exact ih _ _ _ _ | exact Cq.rf m
theorem cq_clausesOf (m : Ms) (p f many tide : Int32) : Cq m (m_X12_clausesOf m p f many tide).2 := cq_l m p f many tide _ _ _ _ _
theorem hU.cq {m m' : Ms} (h : hU m) (q : Cq m m') : hU m' := by unfold hU at *; rw [q.1]; exact h
theorem hT.cq {m m' : Ms} (h : hT m) (q : Cq m m') : hT m' := by unfold hT at *; rw [q.1]; exact h
theorem hH.cq {m m' : Ms} (h : hH m) (q : Cq m m') : hH m' := by unfold hH at *; rw [q.1]; exact h
theorem hS.cq {m m' : Ms} (h : hS m) (q : Cq m m') : hS m' := by unfold hS at *; rw [q.1]; exact h
def m_X12_sumOf (m : Ms) (p : Int32) (f : Int32) : Int32 × Ms := bindv (if (Ms.lf m ((nI 9 * ((nI 8 * ((nI 6 * ((Ms.s m (nI 0).toNatClampNeg) - (Ms.s m (nI 0).toNatClampNeg) / nI 10 * nI 10)) + p)) + f)) + (m_X12_countOf (Ms.s m (nI 1 + p).toNatClampNeg))).toNatClampNeg) = Ms.lk m then m else (bindv (m_X12_clausesOf (Ms.th m, Ms.s m, Ms.im m, Ms.fr m, Ms.hi m, Ms.ac m, Ms.sp m, Ms.en m, Ms.wr m, Ms.op m, Ms.bb m, Ms.tr m, Ms.su m, (upd (Ms.lf m) ((nI 9 * ((nI 8 * ((nI 6 * ((Ms.s m (nI 0).toNatClampNeg) - (Ms.s m (nI 0).toNatClampNeg) / nI 10 * nI 10)) + p)) + f)) + (m_X12_countOf (Ms.s m (nI 1 + p).toNatClampNeg))).toNatClampNeg (Ms.lk m)), Ms.lk m, Ms.nx m, Ms.bo m, Ms.ra m, Ms.ki m, Ms.nu m, Ms.tv m) p f (m_X12_countOf (Ms.s m (nI 1 + p).toNatClampNeg)) ((Ms.s m (nI 0).toNatClampNeg) - (Ms.s m (nI 0).toNatClampNeg) / nI 10 * nI 10)) (fun r2 => (Ms.th r2.2, Ms.s r2.2, Ms.im r2.2, Ms.fr r2.2, Ms.hi r2.2, Ms.ac r2.2, Ms.sp r2.2, Ms.en r2.2, Ms.wr r2.2, Ms.op r2.2, Ms.bb r2.2, Ms.tr r2.2, (upd (Ms.su r2.2) ((nI 9 * ((nI 8 * ((nI 6 * ((Ms.s m (nI 0).toNatClampNeg) - (Ms.s m (nI 0).toNatClampNeg) / nI 10 * nI 10)) + p)) + f)) + (m_X12_countOf (Ms.s m (nI 1 + p).toNatClampNeg))).toNatClampNeg r2.1), Ms.lf r2.2, Ms.lk r2.2, Ms.nx r2.2, Ms.bo r2.2, Ms.ra r2.2, Ms.ki r2.2, Ms.nu r2.2, Ms.tv r2.2)))) (fun x1_0 => ((Ms.su x1_0 ((nI 9 * ((nI 8 * ((nI 6 * ((Ms.s m (nI 0).toNatClampNeg) - (Ms.s m (nI 0).toNatClampNeg) / nI 10 * nI 10)) + p)) + f)) + (m_X12_countOf (Ms.s m (nI 1 + p).toNatClampNeg))).toNatClampNeg), x1_0))
set_option maxRecDepth 100000 in
set_option maxHeartbeats 4000000 in
theorem c_X12_sumOf (l : Launch) {fv : Value} (hf : FV fv) (m : Ms) (p : Int32) (f : Int32) (hp : vp_in p 6) (hq : vp_in f 8) (ht : hT m) (hh : hH m) (hs : hS m) : CT l fv 3 jX12_sumOf [.ref 0, .int p, .int f] (hMs m) (DP (some (.int (m_X12_sumOf m p f).1)) (hMs ((m_X12_sumOf m p f).2))) := by
  refine CT_of [83] mt_X12_sumOf (by decide +kernel) (tab_X12 hf) okX12_sumOf (Nat.le_of_ble_eq_true rfl) ?_
  intro J hJ hD
  refine hJ 0 _ _ _ ?_
  refine And.intro (vp_ad 1 hp (by decide) (by decide)) ?_
  refine CALL_sub (h' := hMs m) [] (by decide) (c_X12_countOf l hf (Ms.s m (nI 1 + p).toNatClampNeg)) rfl rfl (by decide) (by decide) rfl ?_
  refine And.intro (vp_in_nI (by decide) (by decide)) ?_
  refine And.intro (by decide) ?_
  refine And.intro (vp_sums ht hp hq (rl_count _)) ?_
  have K1 : ∀ (x1_0 : Ms), (if (Ms.lf m ((nI 9 * ((nI 8 * ((nI 6 * ((Ms.s m (nI 0).toNatClampNeg) - (Ms.s m (nI 0).toNatClampNeg) / nI 10 * nI 10)) + p)) + f)) + (m_X12_countOf (Ms.s m (nI 1 + p).toNatClampNeg))).toNatClampNeg) = Ms.lk m then m else (bindv (m_X12_clausesOf (Ms.th m, Ms.s m, Ms.im m, Ms.fr m, Ms.hi m, Ms.ac m, Ms.sp m, Ms.en m, Ms.wr m, Ms.op m, Ms.bb m, Ms.tr m, Ms.su m, (upd (Ms.lf m) ((nI 9 * ((nI 8 * ((nI 6 * ((Ms.s m (nI 0).toNatClampNeg) - (Ms.s m (nI 0).toNatClampNeg) / nI 10 * nI 10)) + p)) + f)) + (m_X12_countOf (Ms.s m (nI 1 + p).toNatClampNeg))).toNatClampNeg (Ms.lk m)), Ms.lk m, Ms.nx m, Ms.bo m, Ms.ra m, Ms.ki m, Ms.nu m, Ms.tv m) p f (m_X12_countOf (Ms.s m (nI 1 + p).toNatClampNeg)) ((Ms.s m (nI 0).toNatClampNeg) - (Ms.s m (nI 0).toNatClampNeg) / nI 10 * nI 10)) (fun r2 => (Ms.th r2.2, Ms.s r2.2, Ms.im r2.2, Ms.fr r2.2, Ms.hi r2.2, Ms.ac r2.2, Ms.sp r2.2, Ms.en r2.2, Ms.wr r2.2, Ms.op r2.2, Ms.bb r2.2, Ms.tr r2.2, (upd (Ms.su r2.2) ((nI 9 * ((nI 8 * ((nI 6 * ((Ms.s m (nI 0).toNatClampNeg) - (Ms.s m (nI 0).toNatClampNeg) / nI 10 * nI 10)) + p)) + f)) + (m_X12_countOf (Ms.s m (nI 1 + p).toNatClampNeg))).toNatClampNeg r2.1), Ms.lf r2.2, Ms.lk r2.2, Ms.nx r2.2, Ms.bo r2.2, Ms.ra r2.2, Ms.ki r2.2, Ms.nu r2.2, Ms.tv r2.2)))) = x1_0 → J 83 [(0, .ref 0), (5, .int ((nI 9 * ((nI 8 * ((nI 6 * ((Ms.s m (nI 0).toNatClampNeg) - (Ms.s m (nI 0).toNatClampNeg) / nI 10 * nI 10)) + p)) + f)) + (m_X12_countOf (Ms.s m (nI 1 + p).toNatClampNeg))))] [] (hMs x1_0) := by
    intro x1_0 ex1_0
    refine hJ 83 _ _ _ ?_
    refine And.intro (vp_sums ht hp hq (rl_count _)) ?_
    exact And.intro True.intro (DPis (F := (fun z => hMs z)) (s' := x1_0) (bindv_eq ex1_0))
  refine And.intro (fun c2 => ?_) (fun c2 => ?_)
  · skip
    exact hD _ _ [3, 0] _ _ (K1 _ (if_pos c2))
  · skip
    refine And.intro (vp_sums ht hp hq (rl_count _)) ?_
    obtain ⟨r3, er3⟩ : ∃ z : Int32 × Ms, m_X12_clausesOf (Ms.th m, Ms.s m, Ms.im m, Ms.fr m, Ms.hi m, Ms.ac m, Ms.sp m, Ms.en m, Ms.wr m, Ms.op m, Ms.bb m, Ms.tr m, Ms.su m, (upd (Ms.lf m) ((nI 9 * ((nI 8 * ((nI 6 * ((Ms.s m (nI 0).toNatClampNeg) - (Ms.s m (nI 0).toNatClampNeg) / nI 10 * nI 10)) + p)) + f)) + (m_X12_countOf (Ms.s m (nI 1 + p).toNatClampNeg))).toNatClampNeg (Ms.lk m)), Ms.lk m, Ms.nx m, Ms.bo m, Ms.ra m, Ms.ki m, Ms.nu m, Ms.tv m) p f (m_X12_countOf (Ms.s m (nI 1 + p).toNatClampNeg)) ((Ms.s m (nI 0).toNatClampNeg) - (Ms.s m (nI 0).toNatClampNeg) / nI 10 * nI 10) = z := ⟨_, rfl⟩
    have hr3 := c_X12_clausesOf l hf (Ms.th m, Ms.s m, Ms.im m, Ms.fr m, Ms.hi m, Ms.ac m, Ms.sp m, Ms.en m, Ms.wr m, Ms.op m, Ms.bb m, Ms.tr m, Ms.su m, (upd (Ms.lf m) ((nI 9 * ((nI 8 * ((nI 6 * ((Ms.s m (nI 0).toNatClampNeg) - (Ms.s m (nI 0).toNatClampNeg) / nI 10 * nI 10)) + p)) + f)) + (m_X12_countOf (Ms.s m (nI 1 + p).toNatClampNeg))).toNatClampNeg (Ms.lk m)), Ms.lk m, Ms.nx m, Ms.bo m, Ms.ra m, Ms.ki m, Ms.nu m, Ms.tv m) p f (m_X12_countOf (Ms.s m (nI 1 + p).toNatClampNeg)) ((Ms.s m (nI 0).toNatClampNeg) - (Ms.s m (nI 0).toNatClampNeg) / nI 10 * nI 10) hp hh hs
    rw [er3] at hr3
    refine CALL_same (r := some (.int r3.1)) (h1 := hMs r3.2) (by decide) (hr3) ?_
    refine And.intro (vp_sums ht hp hq (rl_count _)) ?_
    exact hD _ _ [3, 0] _ _ (K1 _ ((if_neg c2).trans (bindv_eq er3)))
theorem cq_sumOf (m : Ms) (p f : Int32) : Cq m (m_X12_sumOf m p f).2 := by
  unfold m_X12_sumOf bindv
  split
  · exact Cq.rf m
  · have h := cq_clausesOf (Ms.th m, Ms.s m, Ms.im m, Ms.fr m, Ms.hi m, Ms.ac m, Ms.sp m, Ms.en m, Ms.wr m, Ms.op m, Ms.bb m, Ms.tr m, Ms.su m, (upd (Ms.lf m) ((nI 9 * ((nI 8 * ((nI 6 * ((Ms.s m (nI 0).toNatClampNeg) - (Ms.s m (nI 0).toNatClampNeg) / nI 10 * nI 10)) + p)) + f)) + (m_X12_countOf (Ms.s m (nI 1 + p).toNatClampNeg))).toNatClampNeg (Ms.lk m)), Ms.lk m, Ms.nx m, Ms.bo m, Ms.ra m, Ms.ki m, Ms.nu m, Ms.tv m) p f (m_X12_countOf (Ms.s m (nI 1 + p).toNatClampNeg)) ((Ms.s m (nI 0).toNatClampNeg) - (Ms.s m (nI 0).toNatClampNeg) / nI 10 * nI 10)
    exact ⟨h.1, h.2.1, h.2.2.1, h.2.2.2.1, h.2.2.2.2.1, h.2.2.2.2.2.1, h.2.2.2.2.2.2.1, h.2.2.2.2.2.2.2⟩
theorem cq_bind {α : Type} {m : Ms} {a : α} {f : α → Int32 × Ms} (h : ∀ x, Cq m (f x).2) : Cq m (bindv a f).2 := h a
def m_X12_heedOf (m : Ms) (p : Int32) (f : Int32) : Int32 × Ms := bindv (m_X12_sumOf m p f) (fun r1 => if (Ms.s r1.2 (nI 24 + p).toNatClampNeg) = nI 1 then ((r1.1 + (Ms.s r1.2 (nI 30 + p).toNatClampNeg)), r1.2) else (if (Ms.s r1.2 (nI 24 + p).toNatClampNeg) = nI 2 then ((r1.1 / nI 2), r1.2) else (if (Ms.s r1.2 (nI 24 + p).toNatClampNeg) = nI 3 then ((r1.1 - (m_X12_countOf (Ms.s r1.2 (nI 1 + p).toNatClampNeg))), r1.2) else (if (Ms.s r1.2 (nI 24 + p).toNatClampNeg) = nI 4 then (bindv (if (((Ms.s r1.2 (nI 1 + p).toNatClampNeg) >>> (f &&& 31)) &&& nI 1) = nI 1 then (nI 2) else (nI 1)) (fun x9_0 => (((r1.1 + (Ms.s r1.2 (nI 30 + p).toNatClampNeg)) * x9_0), r1.2))) else (if (Ms.s r1.2 (nI 24 + p).toNatClampNeg) = nI 5 then (((r1.1 / nI 2) + (Ms.s r1.2 (nI 30 + p).toNatClampNeg)), r1.2) else (if (Ms.s r1.2 (nI 24 + p).toNatClampNeg) = nI 6 then ((((r1.1 - (m_X12_countOf (Ms.s r1.2 (nI 1 + p).toNatClampNeg))) + (Ms.s r1.2 ((nI 36 + (nI 4 * p)) + (f - f / nI 4 * nI 4)).toNatClampNeg)) - nI 4), r1.2) else (r1.1, r1.2)))))))
set_option maxRecDepth 100000 in
set_option maxHeartbeats 4000000 in
theorem c_X12_heedOf (l : Launch) {fv : Value} (hf : FV fv) (m : Ms) (p : Int32) (f : Int32) (hp : vp_in p 6) (hq : vp_in f 8) (ht : hT m) (hh : hH m) (hs : hS m) : CT l fv 4 jX12_heedOf [.ref 0, .int p, .int f] (hMs m) (DP (some (.int (m_X12_heedOf m p f).1)) (hMs ((m_X12_heedOf m p f).2))) := by
  refine CT_of [119] mt_X12_heedOf (by decide +kernel) (tab_X12 hf) okX12_heedOf (Nat.le_of_ble_eq_true rfl) ?_
  intro J hJ hD
  refine hJ 0 _ _ _ ?_
  obtain ⟨r1, er1⟩ : ∃ z : Int32 × Ms, m_X12_sumOf m p f = z := ⟨_, rfl⟩
  have hr1 := c_X12_sumOf l hf m p f hp hq ht hh hs
  rw [er1] at hr1
  refine CALL_same (r := some (.int r1.1)) (h1 := hMs r1.2) (by decide) (hr1) ?_
  refine And.intro (vp_ad 1 hp (by decide) (by decide)) ?_
  refine CALL_sub (h' := hMs r1.2) [] (by decide) (c_X12_countOf l hf (Ms.s r1.2 (nI 1 + p).toNatClampNeg)) rfl rfl (by decide) (by decide) rfl ?_
  refine And.intro (vp_ad 24 hp (by decide) (by decide)) ?_
  refine And.intro (fun c2 => ?_) (And.intro (by decide) (And.intro (fun c3 => ?_) (And.intro (fun c4 => ?_) (And.intro (fun c5 => ?_) (And.intro (fun c6 => ?_) (And.intro (fun c7 => ?_) (And.intro (fun c8 => ?_) (True.intro))))))))
  · skip
    refine hJ 156 _ _ _ ?_
    exact And.intro True.intro (DPis (F := (fun z => hMs z)) (s' := r1.2) ((bindv_eq er1).trans ((if_neg (sw_ne 1 c2 (by decide) (by decide) (by decide))).trans ((if_neg (sw_ne 2 c2 (by decide) (by decide) (by decide))).trans ((if_neg (sw_ne 3 c2 (by decide) (by decide) (by decide))).trans ((if_neg (sw_ne 4 c2 (by decide) (by decide) (by decide))).trans ((if_neg (sw_ne 5 c2 (by decide) (by decide) (by decide))).trans (if_neg (sw_ne 6 c2 (by decide) (by decide) (by decide))))))))))
  · skip
    refine hJ 68 _ _ _ ?_
    refine And.intro (vp_ad 30 hp (by decide) (by decide)) ?_
    exact And.intro True.intro (DPis (F := (fun z => hMs z)) (s' := r1.2) ((bindv_eq er1).trans (if_pos (sw_eq 1 c3 rfl (by decide)))))
  · skip
    refine hJ 80 _ _ _ ?_
    refine And.intro (by decide) ?_
    exact And.intro True.intro (DPis (F := (fun z => hMs z)) (s' := r1.2) ((bindv_eq er1).trans ((if_neg (sw_ot 1 c4 (by decide) (by decide))).trans (if_pos (sw_eq 2 c4 rfl (by decide))))))
  · skip
    refine hJ 84 _ _ _ ?_
    exact And.intro True.intro (DPis (F := (fun z => hMs z)) (s' := r1.2) ((bindv_eq er1).trans ((if_neg (sw_ot 1 c5 (by decide) (by decide))).trans ((if_neg (sw_ot 2 c5 (by decide) (by decide))).trans (if_pos (sw_eq 3 c5 rfl (by decide)))))))
  · skip
    refine hJ 87 _ _ _ ?_
    refine And.intro (vp_ad 30 hp (by decide) (by decide)) ?_
    refine And.intro (vp_ad 1 hp (by decide) (by decide)) ?_
    have K9 : ∀ (x9_0 : Int32), (if (((Ms.s r1.2 (nI 1 + p).toNatClampNeg) >>> (f &&& 31)) &&& nI 1) = nI 1 then (nI 2) else (nI 1)) = x9_0 → J 119 [] [.int x9_0, .int (r1.1 + (Ms.s r1.2 (nI 30 + p).toNatClampNeg))] (hMs r1.2) := by
      intro x9_0 ex9_0
      refine hJ 119 _ _ _ ?_
      exact And.intro True.intro (DPis (F := (fun z => hMs z)) (s' := r1.2) ((bindv_eq er1).trans ((if_neg (sw_ot 1 c6 (by decide) (by decide))).trans ((if_neg (sw_ot 2 c6 (by decide) (by decide))).trans ((if_neg (sw_ot 3 c6 (by decide) (by decide))).trans ((if_pos (sw_eq 4 c6 rfl (by decide))).trans (bindv_eq ex9_0)))))))
    refine And.intro (fun c10 => ?_) (fun c10 => ?_)
    · skip
      refine hJ 118 _ _ _ ?_
      exact hD _ _ [] _ _ (K9 _ (if_neg c10))
    · skip
      exact hD _ _ [] _ _ (K9 _ (if_pos c10))
  · skip
    refine hJ 121 _ _ _ ?_
    refine And.intro (by decide) ?_
    refine And.intro (vp_ad 30 hp (by decide) (by decide)) ?_
    exact And.intro True.intro (DPis (F := (fun z => hMs z)) (s' := r1.2) ((bindv_eq er1).trans ((if_neg (sw_ot 1 c7 (by decide) (by decide))).trans ((if_neg (sw_ot 2 c7 (by decide) (by decide))).trans ((if_neg (sw_ot 3 c7 (by decide) (by decide))).trans ((if_neg (sw_ot 4 c7 (by decide) (by decide))).trans (if_pos (sw_eq 5 c7 rfl (by decide)))))))))
  · skip
    refine hJ 135 _ _ _ ?_
    refine And.intro (by decide) ?_
    refine And.intro (vp_row hp hq) ?_
    exact And.intro True.intro (DPis (F := (fun z => hMs z)) (s' := r1.2) ((bindv_eq er1).trans ((if_neg (sw_ot 1 c8 (by decide) (by decide))).trans ((if_neg (sw_ot 2 c8 (by decide) (by decide))).trans ((if_neg (sw_ot 3 c8 (by decide) (by decide))).trans ((if_neg (sw_ot 4 c8 (by decide) (by decide))).trans ((if_neg (sw_ot 5 c8 (by decide) (by decide))).trans (if_pos (sw_eq 6 c8 rfl (by decide))))))))))
theorem cq_heedOf (m : Ms) (p f : Int32) : Cq m (m_X12_heedOf m p f).2 := by
  unfold m_X12_heedOf
  simp only [bindv]
  (repeat' split) <;> exact cq_sumOf m p f
theorem hp_m1 {p : Int32} (hp : vp_in p 6) (c : ¬ p ≤ 0) (a : Nat) (ha : a + 6 ≤ 927) : vp_in ((nI a + p) - nI 1) 927 := by
  obtain ⟨k, hk, rfl⟩ := vp_in_of hp (by decide)
  have : k ≠ 0 := by rintro rfl; exact c (by decide)
  rw [nI_add, pk_sub (by omega)]
  exact vp_in_nI (by omega) (by decide)
theorem hp_p1 {p : Int32} (hp : vp_in p 6) (a : Nat) (ha : a + 7 ≤ 927) : vp_in ((nI a + p) + nI 1) 927 := by
  obtain ⟨k, hk, rfl⟩ := vp_in_of hp (by decide)
  rw [nI_add, nI_add]
  exact vp_in_nI (by omega) (by decide)
def m_X12_isPassed (zs : Fn) (p : Int32) (f : Int32) : Int32 := bindv (if p ≤ 0 then (nI 0) else (if (zs ((nI 7 + p) - nI 1).toNatClampNeg) = 0 then (if (((zs ((nI 1 + p) - nI 1).toNatClampNeg) >>> (f &&& 31)) &&& nI 1) = nI 1 then (nI 1) else (nI 0)) else (nI 0))) (fun x1_0 => bindv (if (zs (nI 17).toNatClampNeg) ≤ (p + nI 1) then (nI 0) else (if (zs ((nI 7 + p) + nI 1).toNatClampNeg) = 0 then (if (((zs ((nI 1 + p) + nI 1).toNatClampNeg) >>> (f &&& 31)) &&& nI 1) = nI 1 then (nI 1) else (nI 0)) else (nI 0))) (fun x2_0 => if x1_0 = 0 then (if x2_0 = 0 then nI 0 else nI 1) else nI 1))
theorem bl_X12_isPassed {zs : Fn} {p : Int32} {f : Int32} : bl (m_X12_isPassed zs p f) := by
  unfold m_X12_isPassed
  (repeat' split) <;> first | exact Or.inl rfl | exact Or.inr rfl
set_option maxRecDepth 100000 in
set_option maxHeartbeats 4000000 in
theorem c_X12_isPassed (l : Launch) {fv : Value} (hf : FV fv) (m : Ms) (p : Int32) (f : Int32) (hp : vp_in p 6) : CT l fv 2 jX12_isPassed [.ref 0, .int p, .int f] (hMs m) (DP (some (.int (m_X12_isPassed (Ms.s m) p f))) (hMs m)) := by
  refine CT_of [41, 92] mt_X12_isPassed (by decide +kernel) (tab_X12 hf) okX12_isPassed (Nat.le_of_ble_eq_true rfl) ?_
  intro J hJ hD
  refine hJ 0 _ _ _ ?_
  have K1 : ∀ (x1_0 : Int32), (if p ≤ 0 then (nI 0) else (if (Ms.s m ((nI 7 + p) - nI 1).toNatClampNeg) = 0 then (if (((Ms.s m ((nI 1 + p) - nI 1).toNatClampNeg) >>> (f &&& 31)) &&& nI 1) = nI 1 then (nI 1) else (nI 0)) else (nI 0))) = x1_0 → J 41 [(0, .ref 0), (1, .int p), (2, .int f)] [.int x1_0] (hMs m) := by
    intro x1_0 ex1_0
    refine hJ 41 _ _ _ ?_
    refine And.intro (vp_in_nI (by decide) (by decide)) ?_
    have K2 : ∀ (x2_0 : Int32), (if (Ms.s m (nI 17).toNatClampNeg) ≤ (p + nI 1) then (nI 0) else (if (Ms.s m ((nI 7 + p) + nI 1).toNatClampNeg) = 0 then (if (((Ms.s m ((nI 1 + p) + nI 1).toNatClampNeg) >>> (f &&& 31)) &&& nI 1) = nI 1 then (nI 1) else (nI 0)) else (nI 0))) = x2_0 → J 92 [(3, .int x1_0)] [.int x2_0] (hMs m) := by
      intro x2_0 ex2_0
      refine hJ 92 _ _ _ ?_
      refine And.intro (fun c3 => ?_) (fun c3 => ?_)
      · skip
        refine hJ 103 _ _ _ ?_
        refine hJ 108 _ _ _ ?_
        exact And.intro xb1 (DPi ((bindv_eq ex1_0).trans ((bindv_eq ex2_0).trans (if_neg c3))))
      · skip
        refine And.intro (fun c4 => ?_) (fun c4 => ?_)
        · skip
          refine hJ 107 _ _ _ ?_
          exact And.intro xb0 (DPi ((bindv_eq ex1_0).trans ((bindv_eq ex2_0).trans ((if_pos c3).trans (if_pos c4)))))
        · skip
          refine hJ 108 _ _ _ ?_
          exact And.intro xb1 (DPi ((bindv_eq ex1_0).trans ((bindv_eq ex2_0).trans ((if_pos c3).trans (if_neg c4)))))
    refine And.intro (fun c5 => ?_) (fun c5 => ?_)
    · skip
      refine hJ 91 _ _ _ ?_
      exact hD _ _ [0] _ _ (K2 _ (if_pos c5))
    · skip
      refine And.intro (hp_p1 hp 7 (by decide)) ?_
      refine And.intro (fun c6 => ?_) (fun c6 => ?_)
      · skip
        refine hJ 91 _ _ _ ?_
        exact hD _ _ [0] _ _ (K2 _ ((if_neg c5).trans (if_neg c6)))
      · skip
        refine And.intro (hp_p1 hp 1 (by decide)) ?_
        refine And.intro (fun c7 => ?_) (fun c7 => ?_)
        · skip
          refine hJ 91 _ _ _ ?_
          exact hD _ _ [0] _ _ (K2 _ ((if_neg c5).trans ((if_pos c6).trans (if_neg c7))))
        · skip
          exact hD _ _ [0] _ _ (K2 _ ((if_neg c5).trans ((if_pos c6).trans (if_pos c7))))
  refine And.intro (fun c8 => ?_) (fun c8 => ?_)
  · skip
    refine hJ 40 _ _ _ ?_
    exact hD _ _ [0, 1, 2] _ _ (K1 _ (if_pos c8))
  · skip
    have hz : ¬ p ≤ 0 := c8
    refine And.intro (hp_m1 hp hz 7 (by decide)) ?_
    refine And.intro (fun c9 => ?_) (fun c9 => ?_)
    · skip
      refine hJ 40 _ _ _ ?_
      exact hD _ _ [0, 1, 2] _ _ (K1 _ ((if_neg c8).trans (if_neg c9)))
    · skip
      refine And.intro (hp_m1 hp hz 1 (by decide)) ?_
      refine And.intro (fun c10 => ?_) (fun c10 => ?_)
      · skip
        refine hJ 40 _ _ _ ?_
        exact hD _ _ [0, 1, 2] _ _ (K1 _ ((if_neg c8).trans ((if_pos c9).trans (if_neg c10))))
      · skip
        exact hD _ _ [0, 1, 2] _ _ (K1 _ ((if_neg c8).trans ((if_pos c9).trans (if_pos c10))))
def m_X12_isKnownNext (m : Ms) (p : Int32) (f : Int32) (le : Int32) : Int32 × Ms := bindv (if (((Ms.s m (nI 1 + p).toNatClampNeg) >>> (f &&& 31)) &&& nI 1) = nI 1 then (nI 1) else (nI 0)) (fun x1_0 => if x1_0 = 0 then (if (m_X12_isPassed (Ms.s m) p f) = 0 then (if le = f then (bindv (m_X12_heedOf m p f) (fun r35 => if x1_0 = 0 then (if le = f then (if 0 < r35.1 then (nI 1, r35.2) else (if (m_X12_isPassed (Ms.s m) p f) = 0 then (nI 0, r35.2) else (if r35.1 < (m_X12_tellsOf (Ms.s r35.2) (nI 217) (nI 6)) then (nI 0, r35.2) else (nI 1, r35.2)))) else (if (m_X12_isPassed (Ms.s m) p f) = 0 then (nI 0, r35.2) else (if r35.1 < (m_X12_tellsOf (Ms.s r35.2) (nI 217) (nI 6)) then (nI 0, r35.2) else (nI 1, r35.2)))) else (if 0 ≤ r35.1 then (nI 1, r35.2) else (if le = f then (if 0 < r35.1 then (nI 1, r35.2) else (if (m_X12_isPassed (Ms.s m) p f) = 0 then (nI 0, r35.2) else (if r35.1 < (m_X12_tellsOf (Ms.s r35.2) (nI 217) (nI 6)) then (nI 0, r35.2) else (nI 1, r35.2)))) else (if (m_X12_isPassed (Ms.s m) p f) = 0 then (nI 0, r35.2) else (if r35.1 < (m_X12_tellsOf (Ms.s r35.2) (nI 217) (nI 6)) then (nI 0, r35.2) else (nI 1, r35.2))))))) else (nI 0, m)) else (bindv (m_X12_heedOf m p f) (fun r19 => if x1_0 = 0 then (if le = f then (if 0 < r19.1 then (nI 1, r19.2) else (if (m_X12_isPassed (Ms.s m) p f) = 0 then (nI 0, r19.2) else (if r19.1 < (m_X12_tellsOf (Ms.s r19.2) (nI 217) (nI 6)) then (nI 0, r19.2) else (nI 1, r19.2)))) else (if (m_X12_isPassed (Ms.s m) p f) = 0 then (nI 0, r19.2) else (if r19.1 < (m_X12_tellsOf (Ms.s r19.2) (nI 217) (nI 6)) then (nI 0, r19.2) else (nI 1, r19.2)))) else (if 0 ≤ r19.1 then (nI 1, r19.2) else (if le = f then (if 0 < r19.1 then (nI 1, r19.2) else (if (m_X12_isPassed (Ms.s m) p f) = 0 then (nI 0, r19.2) else (if r19.1 < (m_X12_tellsOf (Ms.s r19.2) (nI 217) (nI 6)) then (nI 0, r19.2) else (nI 1, r19.2)))) else (if (m_X12_isPassed (Ms.s m) p f) = 0 then (nI 0, r19.2) else (if r19.1 < (m_X12_tellsOf (Ms.s r19.2) (nI 217) (nI 6)) then (nI 0, r19.2) else (nI 1, r19.2)))))))) else (bindv (m_X12_heedOf m p f) (fun r3 => if x1_0 = 0 then (if le = f then (if 0 < r3.1 then (nI 1, r3.2) else (if (m_X12_isPassed (Ms.s m) p f) = 0 then (nI 0, r3.2) else (if r3.1 < (m_X12_tellsOf (Ms.s r3.2) (nI 217) (nI 6)) then (nI 0, r3.2) else (nI 1, r3.2)))) else (if (m_X12_isPassed (Ms.s m) p f) = 0 then (nI 0, r3.2) else (if r3.1 < (m_X12_tellsOf (Ms.s r3.2) (nI 217) (nI 6)) then (nI 0, r3.2) else (nI 1, r3.2)))) else (if 0 ≤ r3.1 then (nI 1, r3.2) else (if le = f then (if 0 < r3.1 then (nI 1, r3.2) else (if (m_X12_isPassed (Ms.s m) p f) = 0 then (nI 0, r3.2) else (if r3.1 < (m_X12_tellsOf (Ms.s r3.2) (nI 217) (nI 6)) then (nI 0, r3.2) else (nI 1, r3.2)))) else (if (m_X12_isPassed (Ms.s m) p f) = 0 then (nI 0, r3.2) else (if r3.1 < (m_X12_tellsOf (Ms.s r3.2) (nI 217) (nI 6)) then (nI 0, r3.2) else (nI 1, r3.2))))))))
set_option maxRecDepth 100000 in
set_option maxHeartbeats 4000000 in
theorem c_X12_isKnownNext (l : Launch) {fv : Value} (hf : FV fv) (m : Ms) (p : Int32) (f : Int32) (le : Int32) (hp : vp_in p 6) (hq : vp_in f 8) (ht : hT m) (hh : hH m) (hs : hS m) : CT l fv 5 jX12_isKnownNext [.ref 0, .int p, .int f, .int le] (hMs m) (DP (some (.int (m_X12_isKnownNext m p f le).1)) (hMs ((m_X12_isKnownNext m p f le).2))) := by
  refine CT_of [21] mt_X12_isKnownNext (by decide +kernel) (tab_X12 hf) okX12_isKnownNext (Nat.le_of_ble_eq_true rfl) ?_
  intro J hJ hD
  refine hJ 0 _ _ _ ?_
  refine And.intro (vp_ad 1 hp (by decide) (by decide)) ?_
  have K1 : ∀ (x1_0 : Int32), (if (((Ms.s m (nI 1 + p).toNatClampNeg) >>> (f &&& 31)) &&& nI 1) = nI 1 then (nI 1) else (nI 0)) = x1_0 → J 21 [(0, .ref 0), (1, .int p), (2, .int f), (3, .int le)] [.int x1_0] (hMs m) := by
    intro x1_0 ex1_0
    refine hJ 21 _ _ _ ?_
    refine CALL_same (r := some (.int (m_X12_isPassed (Ms.s m) p f))) (h1 := hMs m) (by decide) (c_X12_isPassed l hf m p f hp) ?_
    refine And.intro (fun c2 => ?_) (fun c2 => ?_)
    · skip
      refine hJ 48 _ _ _ ?_
      obtain ⟨r3, er3⟩ : ∃ z : Int32 × Ms, m_X12_heedOf m p f = z := ⟨_, rfl⟩
      have hr3 := c_X12_heedOf l hf m p f hp hq ht hh hs
      rw [er3] at hr3
      have cq := cq_heedOf m p f; rw [er3] at cq
      refine CALL_same (r := some (.int r3.1)) (h1 := hMs r3.2) (by decide) (hr3) ?_
      refine And.intro (fun c4 => ?_) (fun c4 => ?_)
      · skip
        refine hJ 66 _ _ _ ?_
        refine And.intro (fun c5 => ?_) (fun c5 => ?_)
        · skip
          refine hJ 76 _ _ _ ?_
          refine And.intro (fun c6 => ?_) (fun c6 => ?_)
          · skip
            refine hJ 99 _ _ _ ?_
            exact And.intro xb0 (DPis (F := (fun z => hMs z)) (s' := r3.2) ((bindv_eq ex1_0).trans ((if_neg c2).trans ((bindv_eq er3).trans ((if_pos c4).trans ((if_neg c5).trans (if_pos c6)))))))
          · skip
            refine CALL_same (r := some (.int (m_X12_tellsOf (Ms.s r3.2) (nI 217) (nI 6)))) (h1 := hMs r3.2) (by decide) (c_X12_tellsOf l hf r3.2 (nI 217) (nI 6) (fun c => hH_ad (hh.cq cq) 217 (by decide) c)) ?_
            refine And.intro (fun c7 => ?_) (fun c7 => ?_)
            · skip
              refine hJ 99 _ _ _ ?_
              exact And.intro xb0 (DPis (F := (fun z => hMs z)) (s' := r3.2) ((bindv_eq ex1_0).trans ((if_neg c2).trans ((bindv_eq er3).trans ((if_pos c4).trans ((if_neg c5).trans ((if_neg c6).trans (if_pos c7))))))))
            · skip
              refine hJ 100 _ _ _ ?_
              exact And.intro xb1 (DPis (F := (fun z => hMs z)) (s' := r3.2) ((bindv_eq ex1_0).trans ((if_neg c2).trans ((bindv_eq er3).trans ((if_pos c4).trans ((if_neg c5).trans ((if_neg c6).trans (if_neg c7))))))))
        · skip
          refine And.intro (fun c8 => ?_) (fun c8 => ?_)
          · skip
            refine hJ 95 _ _ _ ?_
            refine hJ 100 _ _ _ ?_
            exact And.intro xb1 (DPis (F := (fun z => hMs z)) (s' := r3.2) ((bindv_eq ex1_0).trans ((if_neg c2).trans ((bindv_eq er3).trans ((if_pos c4).trans ((if_pos c5).trans (if_pos c8)))))))
          · skip
            refine And.intro (fun c9 => ?_) (fun c9 => ?_)
            · skip
              refine hJ 99 _ _ _ ?_
              exact And.intro xb0 (DPis (F := (fun z => hMs z)) (s' := r3.2) ((bindv_eq ex1_0).trans ((if_neg c2).trans ((bindv_eq er3).trans ((if_pos c4).trans ((if_pos c5).trans ((if_neg c8).trans (if_pos c9))))))))
            · skip
              refine CALL_same (r := some (.int (m_X12_tellsOf (Ms.s r3.2) (nI 217) (nI 6)))) (h1 := hMs r3.2) (by decide) (c_X12_tellsOf l hf r3.2 (nI 217) (nI 6) (fun c => hH_ad (hh.cq cq) 217 (by decide) c)) ?_
              refine And.intro (fun c10 => ?_) (fun c10 => ?_)
              · skip
                refine hJ 99 _ _ _ ?_
                exact And.intro xb0 (DPis (F := (fun z => hMs z)) (s' := r3.2) ((bindv_eq ex1_0).trans ((if_neg c2).trans ((bindv_eq er3).trans ((if_pos c4).trans ((if_pos c5).trans ((if_neg c8).trans ((if_neg c9).trans (if_pos c10)))))))))
              · skip
                refine hJ 100 _ _ _ ?_
                exact And.intro xb1 (DPis (F := (fun z => hMs z)) (s' := r3.2) ((bindv_eq ex1_0).trans ((if_neg c2).trans ((bindv_eq er3).trans ((if_pos c4).trans ((if_pos c5).trans ((if_neg c8).trans ((if_neg c9).trans (if_neg c10)))))))))
      · skip
        refine And.intro (fun c11 => ?_) (fun c11 => ?_)
        · skip
          refine hJ 95 _ _ _ ?_
          refine hJ 100 _ _ _ ?_
          exact And.intro xb1 (DPis (F := (fun z => hMs z)) (s' := r3.2) ((bindv_eq ex1_0).trans ((if_neg c2).trans ((bindv_eq er3).trans ((if_neg c4).trans (if_pos c11))))))
        · skip
          refine And.intro (fun c12 => ?_) (fun c12 => ?_)
          · skip
            refine hJ 76 _ _ _ ?_
            refine And.intro (fun c13 => ?_) (fun c13 => ?_)
            · skip
              refine hJ 99 _ _ _ ?_
              exact And.intro xb0 (DPis (F := (fun z => hMs z)) (s' := r3.2) ((bindv_eq ex1_0).trans ((if_neg c2).trans ((bindv_eq er3).trans ((if_neg c4).trans ((if_neg c11).trans ((if_neg c12).trans (if_pos c13))))))))
            · skip
              refine CALL_same (r := some (.int (m_X12_tellsOf (Ms.s r3.2) (nI 217) (nI 6)))) (h1 := hMs r3.2) (by decide) (c_X12_tellsOf l hf r3.2 (nI 217) (nI 6) (fun c => hH_ad (hh.cq cq) 217 (by decide) c)) ?_
              refine And.intro (fun c14 => ?_) (fun c14 => ?_)
              · skip
                refine hJ 99 _ _ _ ?_
                exact And.intro xb0 (DPis (F := (fun z => hMs z)) (s' := r3.2) ((bindv_eq ex1_0).trans ((if_neg c2).trans ((bindv_eq er3).trans ((if_neg c4).trans ((if_neg c11).trans ((if_neg c12).trans ((if_neg c13).trans (if_pos c14)))))))))
              · skip
                refine hJ 100 _ _ _ ?_
                exact And.intro xb1 (DPis (F := (fun z => hMs z)) (s' := r3.2) ((bindv_eq ex1_0).trans ((if_neg c2).trans ((bindv_eq er3).trans ((if_neg c4).trans ((if_neg c11).trans ((if_neg c12).trans ((if_neg c13).trans (if_neg c14)))))))))
          · skip
            refine And.intro (fun c15 => ?_) (fun c15 => ?_)
            · skip
              refine hJ 95 _ _ _ ?_
              refine hJ 100 _ _ _ ?_
              exact And.intro xb1 (DPis (F := (fun z => hMs z)) (s' := r3.2) ((bindv_eq ex1_0).trans ((if_neg c2).trans ((bindv_eq er3).trans ((if_neg c4).trans ((if_neg c11).trans ((if_pos c12).trans (if_pos c15))))))))
            · skip
              refine And.intro (fun c16 => ?_) (fun c16 => ?_)
              · skip
                refine hJ 99 _ _ _ ?_
                exact And.intro xb0 (DPis (F := (fun z => hMs z)) (s' := r3.2) ((bindv_eq ex1_0).trans ((if_neg c2).trans ((bindv_eq er3).trans ((if_neg c4).trans ((if_neg c11).trans ((if_pos c12).trans ((if_neg c15).trans (if_pos c16)))))))))
              · skip
                refine CALL_same (r := some (.int (m_X12_tellsOf (Ms.s r3.2) (nI 217) (nI 6)))) (h1 := hMs r3.2) (by decide) (c_X12_tellsOf l hf r3.2 (nI 217) (nI 6) (fun c => hH_ad (hh.cq cq) 217 (by decide) c)) ?_
                refine And.intro (fun c17 => ?_) (fun c17 => ?_)
                · skip
                  refine hJ 99 _ _ _ ?_
                  exact And.intro xb0 (DPis (F := (fun z => hMs z)) (s' := r3.2) ((bindv_eq ex1_0).trans ((if_neg c2).trans ((bindv_eq er3).trans ((if_neg c4).trans ((if_neg c11).trans ((if_pos c12).trans ((if_neg c15).trans ((if_neg c16).trans (if_pos c17))))))))))
                · skip
                  refine hJ 100 _ _ _ ?_
                  exact And.intro xb1 (DPis (F := (fun z => hMs z)) (s' := r3.2) ((bindv_eq ex1_0).trans ((if_neg c2).trans ((bindv_eq er3).trans ((if_neg c4).trans ((if_neg c11).trans ((if_pos c12).trans ((if_neg c15).trans ((if_neg c16).trans (if_neg c17))))))))))
    · skip
      refine And.intro (fun c18 => ?_) (fun c18 => ?_)
      · skip
        refine hJ 48 _ _ _ ?_
        obtain ⟨r19, er19⟩ : ∃ z : Int32 × Ms, m_X12_heedOf m p f = z := ⟨_, rfl⟩
        have hr19 := c_X12_heedOf l hf m p f hp hq ht hh hs
        rw [er19] at hr19
        have cq := cq_heedOf m p f; rw [er19] at cq
        refine CALL_same (r := some (.int r19.1)) (h1 := hMs r19.2) (by decide) (hr19) ?_
        refine And.intro (fun c20 => ?_) (fun c20 => ?_)
        · skip
          refine hJ 66 _ _ _ ?_
          refine And.intro (fun c21 => ?_) (fun c21 => ?_)
          · skip
            refine hJ 76 _ _ _ ?_
            refine And.intro (fun c22 => ?_) (fun c22 => ?_)
            · skip
              refine hJ 99 _ _ _ ?_
              exact And.intro xb0 (DPis (F := (fun z => hMs z)) (s' := r19.2) ((bindv_eq ex1_0).trans ((if_pos c2).trans ((if_neg c18).trans ((bindv_eq er19).trans ((if_pos c20).trans ((if_neg c21).trans (if_pos c22))))))))
            · skip
              refine CALL_same (r := some (.int (m_X12_tellsOf (Ms.s r19.2) (nI 217) (nI 6)))) (h1 := hMs r19.2) (by decide) (c_X12_tellsOf l hf r19.2 (nI 217) (nI 6) (fun c => hH_ad (hh.cq cq) 217 (by decide) c)) ?_
              refine And.intro (fun c23 => ?_) (fun c23 => ?_)
              · skip
                refine hJ 99 _ _ _ ?_
                exact And.intro xb0 (DPis (F := (fun z => hMs z)) (s' := r19.2) ((bindv_eq ex1_0).trans ((if_pos c2).trans ((if_neg c18).trans ((bindv_eq er19).trans ((if_pos c20).trans ((if_neg c21).trans ((if_neg c22).trans (if_pos c23)))))))))
              · skip
                refine hJ 100 _ _ _ ?_
                exact And.intro xb1 (DPis (F := (fun z => hMs z)) (s' := r19.2) ((bindv_eq ex1_0).trans ((if_pos c2).trans ((if_neg c18).trans ((bindv_eq er19).trans ((if_pos c20).trans ((if_neg c21).trans ((if_neg c22).trans (if_neg c23)))))))))
          · skip
            refine And.intro (fun c24 => ?_) (fun c24 => ?_)
            · skip
              refine hJ 95 _ _ _ ?_
              refine hJ 100 _ _ _ ?_
              exact And.intro xb1 (DPis (F := (fun z => hMs z)) (s' := r19.2) ((bindv_eq ex1_0).trans ((if_pos c2).trans ((if_neg c18).trans ((bindv_eq er19).trans ((if_pos c20).trans ((if_pos c21).trans (if_pos c24))))))))
            · skip
              refine And.intro (fun c25 => ?_) (fun c25 => ?_)
              · skip
                refine hJ 99 _ _ _ ?_
                exact And.intro xb0 (DPis (F := (fun z => hMs z)) (s' := r19.2) ((bindv_eq ex1_0).trans ((if_pos c2).trans ((if_neg c18).trans ((bindv_eq er19).trans ((if_pos c20).trans ((if_pos c21).trans ((if_neg c24).trans (if_pos c25)))))))))
              · skip
                refine CALL_same (r := some (.int (m_X12_tellsOf (Ms.s r19.2) (nI 217) (nI 6)))) (h1 := hMs r19.2) (by decide) (c_X12_tellsOf l hf r19.2 (nI 217) (nI 6) (fun c => hH_ad (hh.cq cq) 217 (by decide) c)) ?_
                refine And.intro (fun c26 => ?_) (fun c26 => ?_)
                · skip
                  refine hJ 99 _ _ _ ?_
                  exact And.intro xb0 (DPis (F := (fun z => hMs z)) (s' := r19.2) ((bindv_eq ex1_0).trans ((if_pos c2).trans ((if_neg c18).trans ((bindv_eq er19).trans ((if_pos c20).trans ((if_pos c21).trans ((if_neg c24).trans ((if_neg c25).trans (if_pos c26))))))))))
                · skip
                  refine hJ 100 _ _ _ ?_
                  exact And.intro xb1 (DPis (F := (fun z => hMs z)) (s' := r19.2) ((bindv_eq ex1_0).trans ((if_pos c2).trans ((if_neg c18).trans ((bindv_eq er19).trans ((if_pos c20).trans ((if_pos c21).trans ((if_neg c24).trans ((if_neg c25).trans (if_neg c26))))))))))
        · skip
          refine And.intro (fun c27 => ?_) (fun c27 => ?_)
          · skip
            refine hJ 95 _ _ _ ?_
            refine hJ 100 _ _ _ ?_
            exact And.intro xb1 (DPis (F := (fun z => hMs z)) (s' := r19.2) ((bindv_eq ex1_0).trans ((if_pos c2).trans ((if_neg c18).trans ((bindv_eq er19).trans ((if_neg c20).trans (if_pos c27)))))))
          · skip
            refine And.intro (fun c28 => ?_) (fun c28 => ?_)
            · skip
              refine hJ 76 _ _ _ ?_
              refine And.intro (fun c29 => ?_) (fun c29 => ?_)
              · skip
                refine hJ 99 _ _ _ ?_
                exact And.intro xb0 (DPis (F := (fun z => hMs z)) (s' := r19.2) ((bindv_eq ex1_0).trans ((if_pos c2).trans ((if_neg c18).trans ((bindv_eq er19).trans ((if_neg c20).trans ((if_neg c27).trans ((if_neg c28).trans (if_pos c29)))))))))
              · skip
                refine CALL_same (r := some (.int (m_X12_tellsOf (Ms.s r19.2) (nI 217) (nI 6)))) (h1 := hMs r19.2) (by decide) (c_X12_tellsOf l hf r19.2 (nI 217) (nI 6) (fun c => hH_ad (hh.cq cq) 217 (by decide) c)) ?_
                refine And.intro (fun c30 => ?_) (fun c30 => ?_)
                · skip
                  refine hJ 99 _ _ _ ?_
                  exact And.intro xb0 (DPis (F := (fun z => hMs z)) (s' := r19.2) ((bindv_eq ex1_0).trans ((if_pos c2).trans ((if_neg c18).trans ((bindv_eq er19).trans ((if_neg c20).trans ((if_neg c27).trans ((if_neg c28).trans ((if_neg c29).trans (if_pos c30))))))))))
                · skip
                  refine hJ 100 _ _ _ ?_
                  exact And.intro xb1 (DPis (F := (fun z => hMs z)) (s' := r19.2) ((bindv_eq ex1_0).trans ((if_pos c2).trans ((if_neg c18).trans ((bindv_eq er19).trans ((if_neg c20).trans ((if_neg c27).trans ((if_neg c28).trans ((if_neg c29).trans (if_neg c30))))))))))
            · skip
              refine And.intro (fun c31 => ?_) (fun c31 => ?_)
              · skip
                refine hJ 95 _ _ _ ?_
                refine hJ 100 _ _ _ ?_
                exact And.intro xb1 (DPis (F := (fun z => hMs z)) (s' := r19.2) ((bindv_eq ex1_0).trans ((if_pos c2).trans ((if_neg c18).trans ((bindv_eq er19).trans ((if_neg c20).trans ((if_neg c27).trans ((if_pos c28).trans (if_pos c31)))))))))
              · skip
                refine And.intro (fun c32 => ?_) (fun c32 => ?_)
                · skip
                  refine hJ 99 _ _ _ ?_
                  exact And.intro xb0 (DPis (F := (fun z => hMs z)) (s' := r19.2) ((bindv_eq ex1_0).trans ((if_pos c2).trans ((if_neg c18).trans ((bindv_eq er19).trans ((if_neg c20).trans ((if_neg c27).trans ((if_pos c28).trans ((if_neg c31).trans (if_pos c32))))))))))
                · skip
                  refine CALL_same (r := some (.int (m_X12_tellsOf (Ms.s r19.2) (nI 217) (nI 6)))) (h1 := hMs r19.2) (by decide) (c_X12_tellsOf l hf r19.2 (nI 217) (nI 6) (fun c => hH_ad (hh.cq cq) 217 (by decide) c)) ?_
                  refine And.intro (fun c33 => ?_) (fun c33 => ?_)
                  · skip
                    refine hJ 99 _ _ _ ?_
                    exact And.intro xb0 (DPis (F := (fun z => hMs z)) (s' := r19.2) ((bindv_eq ex1_0).trans ((if_pos c2).trans ((if_neg c18).trans ((bindv_eq er19).trans ((if_neg c20).trans ((if_neg c27).trans ((if_pos c28).trans ((if_neg c31).trans ((if_neg c32).trans (if_pos c33)))))))))))
                  · skip
                    refine hJ 100 _ _ _ ?_
                    exact And.intro xb1 (DPis (F := (fun z => hMs z)) (s' := r19.2) ((bindv_eq ex1_0).trans ((if_pos c2).trans ((if_neg c18).trans ((bindv_eq er19).trans ((if_neg c20).trans ((if_neg c27).trans ((if_pos c28).trans ((if_neg c31).trans ((if_neg c32).trans (if_neg c33)))))))))))
      · skip
        refine And.intro (fun c34 => ?_) (fun c34 => ?_)
        · skip
          refine hJ 48 _ _ _ ?_
          obtain ⟨r35, er35⟩ : ∃ z : Int32 × Ms, m_X12_heedOf m p f = z := ⟨_, rfl⟩
          have hr35 := c_X12_heedOf l hf m p f hp hq ht hh hs
          rw [er35] at hr35
          have cq := cq_heedOf m p f; rw [er35] at cq
          refine CALL_same (r := some (.int r35.1)) (h1 := hMs r35.2) (by decide) (hr35) ?_
          refine And.intro (fun c36 => ?_) (fun c36 => ?_)
          · skip
            refine hJ 66 _ _ _ ?_
            refine And.intro (fun c37 => ?_) (fun c37 => ?_)
            · skip
              refine hJ 76 _ _ _ ?_
              refine And.intro (fun c38 => ?_) (fun c38 => ?_)
              · skip
                refine hJ 99 _ _ _ ?_
                exact And.intro xb0 (DPis (F := (fun z => hMs z)) (s' := r35.2) ((bindv_eq ex1_0).trans ((if_pos c2).trans ((if_pos c18).trans ((if_pos c34).trans ((bindv_eq er35).trans ((if_pos c36).trans ((if_neg c37).trans (if_pos c38)))))))))
              · skip
                refine CALL_same (r := some (.int (m_X12_tellsOf (Ms.s r35.2) (nI 217) (nI 6)))) (h1 := hMs r35.2) (by decide) (c_X12_tellsOf l hf r35.2 (nI 217) (nI 6) (fun c => hH_ad (hh.cq cq) 217 (by decide) c)) ?_
                refine And.intro (fun c39 => ?_) (fun c39 => ?_)
                · skip
                  refine hJ 99 _ _ _ ?_
                  exact And.intro xb0 (DPis (F := (fun z => hMs z)) (s' := r35.2) ((bindv_eq ex1_0).trans ((if_pos c2).trans ((if_pos c18).trans ((if_pos c34).trans ((bindv_eq er35).trans ((if_pos c36).trans ((if_neg c37).trans ((if_neg c38).trans (if_pos c39))))))))))
                · skip
                  refine hJ 100 _ _ _ ?_
                  exact And.intro xb1 (DPis (F := (fun z => hMs z)) (s' := r35.2) ((bindv_eq ex1_0).trans ((if_pos c2).trans ((if_pos c18).trans ((if_pos c34).trans ((bindv_eq er35).trans ((if_pos c36).trans ((if_neg c37).trans ((if_neg c38).trans (if_neg c39))))))))))
            · skip
              refine And.intro (fun c40 => ?_) (fun c40 => ?_)
              · skip
                refine hJ 95 _ _ _ ?_
                refine hJ 100 _ _ _ ?_
                exact And.intro xb1 (DPis (F := (fun z => hMs z)) (s' := r35.2) ((bindv_eq ex1_0).trans ((if_pos c2).trans ((if_pos c18).trans ((if_pos c34).trans ((bindv_eq er35).trans ((if_pos c36).trans ((if_pos c37).trans (if_pos c40)))))))))
              · skip
                refine And.intro (fun c41 => ?_) (fun c41 => ?_)
                · skip
                  refine hJ 99 _ _ _ ?_
                  exact And.intro xb0 (DPis (F := (fun z => hMs z)) (s' := r35.2) ((bindv_eq ex1_0).trans ((if_pos c2).trans ((if_pos c18).trans ((if_pos c34).trans ((bindv_eq er35).trans ((if_pos c36).trans ((if_pos c37).trans ((if_neg c40).trans (if_pos c41))))))))))
                · skip
                  refine CALL_same (r := some (.int (m_X12_tellsOf (Ms.s r35.2) (nI 217) (nI 6)))) (h1 := hMs r35.2) (by decide) (c_X12_tellsOf l hf r35.2 (nI 217) (nI 6) (fun c => hH_ad (hh.cq cq) 217 (by decide) c)) ?_
                  refine And.intro (fun c42 => ?_) (fun c42 => ?_)
                  · skip
                    refine hJ 99 _ _ _ ?_
                    exact And.intro xb0 (DPis (F := (fun z => hMs z)) (s' := r35.2) ((bindv_eq ex1_0).trans ((if_pos c2).trans ((if_pos c18).trans ((if_pos c34).trans ((bindv_eq er35).trans ((if_pos c36).trans ((if_pos c37).trans ((if_neg c40).trans ((if_neg c41).trans (if_pos c42)))))))))))
                  · skip
                    refine hJ 100 _ _ _ ?_
                    exact And.intro xb1 (DPis (F := (fun z => hMs z)) (s' := r35.2) ((bindv_eq ex1_0).trans ((if_pos c2).trans ((if_pos c18).trans ((if_pos c34).trans ((bindv_eq er35).trans ((if_pos c36).trans ((if_pos c37).trans ((if_neg c40).trans ((if_neg c41).trans (if_neg c42)))))))))))
          · skip
            refine And.intro (fun c43 => ?_) (fun c43 => ?_)
            · skip
              refine hJ 95 _ _ _ ?_
              refine hJ 100 _ _ _ ?_
              exact And.intro xb1 (DPis (F := (fun z => hMs z)) (s' := r35.2) ((bindv_eq ex1_0).trans ((if_pos c2).trans ((if_pos c18).trans ((if_pos c34).trans ((bindv_eq er35).trans ((if_neg c36).trans (if_pos c43))))))))
            · skip
              refine And.intro (fun c44 => ?_) (fun c44 => ?_)
              · skip
                refine hJ 76 _ _ _ ?_
                refine And.intro (fun c45 => ?_) (fun c45 => ?_)
                · skip
                  refine hJ 99 _ _ _ ?_
                  exact And.intro xb0 (DPis (F := (fun z => hMs z)) (s' := r35.2) ((bindv_eq ex1_0).trans ((if_pos c2).trans ((if_pos c18).trans ((if_pos c34).trans ((bindv_eq er35).trans ((if_neg c36).trans ((if_neg c43).trans ((if_neg c44).trans (if_pos c45))))))))))
                · skip
                  refine CALL_same (r := some (.int (m_X12_tellsOf (Ms.s r35.2) (nI 217) (nI 6)))) (h1 := hMs r35.2) (by decide) (c_X12_tellsOf l hf r35.2 (nI 217) (nI 6) (fun c => hH_ad (hh.cq cq) 217 (by decide) c)) ?_
                  refine And.intro (fun c46 => ?_) (fun c46 => ?_)
                  · skip
                    refine hJ 99 _ _ _ ?_
                    exact And.intro xb0 (DPis (F := (fun z => hMs z)) (s' := r35.2) ((bindv_eq ex1_0).trans ((if_pos c2).trans ((if_pos c18).trans ((if_pos c34).trans ((bindv_eq er35).trans ((if_neg c36).trans ((if_neg c43).trans ((if_neg c44).trans ((if_neg c45).trans (if_pos c46)))))))))))
                  · skip
                    refine hJ 100 _ _ _ ?_
                    exact And.intro xb1 (DPis (F := (fun z => hMs z)) (s' := r35.2) ((bindv_eq ex1_0).trans ((if_pos c2).trans ((if_pos c18).trans ((if_pos c34).trans ((bindv_eq er35).trans ((if_neg c36).trans ((if_neg c43).trans ((if_neg c44).trans ((if_neg c45).trans (if_neg c46)))))))))))
              · skip
                refine And.intro (fun c47 => ?_) (fun c47 => ?_)
                · skip
                  refine hJ 95 _ _ _ ?_
                  refine hJ 100 _ _ _ ?_
                  exact And.intro xb1 (DPis (F := (fun z => hMs z)) (s' := r35.2) ((bindv_eq ex1_0).trans ((if_pos c2).trans ((if_pos c18).trans ((if_pos c34).trans ((bindv_eq er35).trans ((if_neg c36).trans ((if_neg c43).trans ((if_pos c44).trans (if_pos c47))))))))))
                · skip
                  refine And.intro (fun c48 => ?_) (fun c48 => ?_)
                  · skip
                    refine hJ 99 _ _ _ ?_
                    exact And.intro xb0 (DPis (F := (fun z => hMs z)) (s' := r35.2) ((bindv_eq ex1_0).trans ((if_pos c2).trans ((if_pos c18).trans ((if_pos c34).trans ((bindv_eq er35).trans ((if_neg c36).trans ((if_neg c43).trans ((if_pos c44).trans ((if_neg c47).trans (if_pos c48)))))))))))
                  · skip
                    refine CALL_same (r := some (.int (m_X12_tellsOf (Ms.s r35.2) (nI 217) (nI 6)))) (h1 := hMs r35.2) (by decide) (c_X12_tellsOf l hf r35.2 (nI 217) (nI 6) (fun c => hH_ad (hh.cq cq) 217 (by decide) c)) ?_
                    refine And.intro (fun c49 => ?_) (fun c49 => ?_)
                    · skip
                      refine hJ 99 _ _ _ ?_
                      exact And.intro xb0 (DPis (F := (fun z => hMs z)) (s' := r35.2) ((bindv_eq ex1_0).trans ((if_pos c2).trans ((if_pos c18).trans ((if_pos c34).trans ((bindv_eq er35).trans ((if_neg c36).trans ((if_neg c43).trans ((if_pos c44).trans ((if_neg c47).trans ((if_neg c48).trans (if_pos c49))))))))))))
                    · skip
                      refine hJ 100 _ _ _ ?_
                      exact And.intro xb1 (DPis (F := (fun z => hMs z)) (s' := r35.2) ((bindv_eq ex1_0).trans ((if_pos c2).trans ((if_pos c18).trans ((if_pos c34).trans ((bindv_eq er35).trans ((if_neg c36).trans ((if_neg c43).trans ((if_pos c44).trans ((if_neg c47).trans ((if_neg c48).trans (if_neg c49))))))))))))
        · skip
          exact And.intro xb0 (DPis (F := (fun z => hMs z)) (s' := m) ((bindv_eq ex1_0).trans ((if_pos c2).trans ((if_pos c18).trans (if_neg c34)))))
  refine And.intro (fun c50 => ?_) (fun c50 => ?_)
  · skip
    refine hJ 20 _ _ _ ?_
    exact hD _ _ [0, 1, 2, 3] _ _ (K1 _ (if_neg c50))
  · skip
    exact hD _ _ [0, 1, 2, 3] _ _ (K1 _ (if_pos c50))
theorem cq_isKnownNext (m : Ms) (p f le : Int32) : Cq m (m_X12_isKnownNext m p f le).2 := by
  unfold m_X12_isKnownNext
  refine cq_bind fun x => ?_
  simp only [bindv]
  (repeat' split) <;> first | exact Cq.rf m | exact cq_heedOf m p f

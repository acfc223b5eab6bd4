/-! printed by wip/whole/gen/specs34.py: tides of the model -/
theorem hU.s {m m' : Ms} (h : hU m) (q : Ms.s m' = Ms.s m) : hU m' := by unfold hU at *; rw [q]; exact h
theorem hT.s {m m' : Ms} (h : hT m) (q : Ms.s m' = Ms.s m) : hT m' := by unfold hT at *; rw [q]; exact h
theorem hH.s {m m' : Ms} (h : hH m) (q : Ms.s m' = Ms.s m) : hH m' := by unfold hH at *; rw [q]; exact h
theorem hS.s {m m' : Ms} (h : hS m) (q : Ms.s m' = Ms.s m) : hS m' := by unfold hS at *; rw [q]; exact h
def l_X12_knownNext_15 (m : Ms) (p : Int32) (le : Int32) : Nat → Int32 → Int32 → Int32 → Ms → Int32 × Ms
  | 0, _, _, _, _ => (0, m)
  | n15 + 1, a, room, f, m1 => if nI 8 ≤ f then (a, m1) else (if room ≤ 0 then (a, m1) else (bindv (m_X12_isKnownNext m1 p f le) (fun r3 => bindv (if r3.1 = 0 then a else (a ||| (nI 1 <<< (f &&& 31)))) (fun x4_0 => bindv (if r3.1 = 0 then room else (room + (-nI 1))) (fun x4_1 => l_X12_knownNext_15 m p le n15 x4_0 x4_1 (f + nI 1) r3.2)))))
theorem q_X12_knownNext_15 (m : Ms) (p : Int32) (le : Int32) (n15 : Nat) (a : Int32) (room : Int32) (f : Int32) (m1 : Ms) : l_X12_knownNext_15 m p le (n15 + 1) a room f m1 = (if nI 8 ≤ f then (a, m1) else (if room ≤ 0 then (a, m1) else (bindv (m_X12_isKnownNext m1 p f le) (fun r3 => bindv (if r3.1 = 0 then a else (a ||| (nI 1 <<< (f &&& 31)))) (fun x4_0 => bindv (if r3.1 = 0 then room else (room + (-nI 1))) (fun x4_1 => l_X12_knownNext_15 m p le n15 x4_0 x4_1 (f + nI 1) r3.2)))))) := rfl
def m_X12_knownNext (m : Ms) (p : Int32) (le : Int32) : Int32 × Ms := l_X12_knownNext_15 m p le 9 (nI 0) (m_X12_tellsOf (Ms.s m) (nI 212) (nI 4)) (nI 0) m
set_option maxRecDepth 100000 in
set_option maxHeartbeats 4000000 in
theorem c_X12_knownNext (l : Launch) {fv : Value} (hf : FV fv) (m : Ms) (p : Int32) (le : Int32) (hp : vp_in p 6) (ht : hT m) (hh : hH m) (hs : hS m) : CT l fv 6 jX12_knownNext [.ref 0, .int p, .int le] (hMs m) (DP (some (.int (m_X12_knownNext m p le).1)) (hMs ((m_X12_knownNext m p le).2))) := by
  refine CT_of [15, 48] mt_X12_knownNext (by decide +kernel) (tab_X12 hf) okX12_knownNext (Nat.le_of_ble_eq_true rfl) ?_
  intro J hJ hD
  refine hJ 0 _ _ _ ?_
  refine CALL_same (r := some (.int (m_X12_tellsOf (Ms.s m) (nI 212) (nI 4)))) (h1 := hMs m) (by decide) (c_X12_tellsOf l hf m (nI 212) (nI 4) (fun c => hH_ad hh 212 (by decide) c)) ?_
  have L15 : ∀ (n15 : Nat) (a : Int32) (room : Int32) (f : Int32) (m1 : Ms), (∃ z9 : Nat, z9 ≤ 8 ∧ n15 + z9 = 9 ∧ f = nI z9 ∧ Cq m m1) → m_X12_knownNext m p le = l_X12_knownNext_15 m p le n15 a room f m1 → J 15 [(0, .ref 0), (1, .int p), (2, .int le), (3, .int a), (4, .int room), (5, .int f)] [] (hMs m1) := by
    intro n15
    induction n15 with
    | zero =>
      intro a room f m1 hv
      obtain ⟨z9, h1, h2, h3, h5⟩ := hv
      omega
    | succ n15 ih15 =>
      intro a room f m1 hv e15
      obtain ⟨z9, h1, h2, h3, h5⟩ := hv
      refine hJ 15 _ _ _ ?_
      refine And.intro (fun c1 => ?_) (fun c1 => ?_)
      · skip
        refine hJ 54 _ _ _ ?_
        exact And.intro True.intro (DPis (F := (fun z => hMs z)) (s' := m1) (e15.trans ((q_X12_knownNext_15 m p le n15 a room f m1).trans (if_pos c1))))
      · skip
        have h4 := cnt_lt h3 h1 (by decide) c1
        have hq := vp_nI h3 h4 (by decide)
        refine And.intro (fun c2 => ?_) (fun c2 => ?_)
        · skip
          refine hJ 54 _ _ _ ?_
          exact And.intro True.intro (DPis (F := (fun z => hMs z)) (s' := m1) (e15.trans ((q_X12_knownNext_15 m p le n15 a room f m1).trans ((if_neg c1).trans (if_pos c2)))))
        · skip
          obtain ⟨r3, er3⟩ : ∃ z : Int32 × Ms, m_X12_isKnownNext m1 p f le = z := ⟨_, rfl⟩
          have hr3 := c_X12_isKnownNext l hf m1 p f le hp hq (ht.cq h5) (hh.cq h5) (hs.cq h5)
          rw [er3] at hr3
          have cq := cq_isKnownNext m1 p f le; rw [er3] at cq
          refine CALL_same (r := some (.int r3.1)) (h1 := hMs r3.2) (by decide) (hr3) ?_
          have K4 : ∀ (x4_0 : Int32), ∀ (x4_1 : Int32), (if r3.1 = 0 then a else (a ||| (nI 1 <<< (f &&& 31)))) = x4_0 → (if r3.1 = 0 then room else (room + (-nI 1))) = x4_1 → J 48 [(0, .ref 0), (1, .int p), (2, .int le), (3, .int x4_0), (4, .int x4_1), (5, .int f)] [] (hMs r3.2) := by
            intro x4_0 x4_1 ex4_0 ex4_1
            refine hJ 48 _ _ _ ?_
            exact hD _ _ [1, 2, 3, 4, 5, 0] _ _ (ih15 _ _ _ _ ⟨z9 + 1, h4, by omega, by rw [h3]; exact nI_add z9 1, h5.tr cq⟩ (e15.trans ((q_X12_knownNext_15 m p le n15 a room f m1).trans ((if_neg c1).trans ((if_neg c2).trans ((bindv_eq er3).trans ((bindv_eq ex4_0).trans (bindv_eq ex4_1))))))))
          refine And.intro (fun c5 => ?_) (fun c5 => ?_)
          · skip
            exact hD _ _ [0, 1, 2, 3, 4, 5] _ _ (K4 _ _ (if_pos c5) (if_pos c5))
          · skip
            exact hD _ _ [2, 3, 4, 1, 0, 5] _ _ (K4 _ _ (if_neg c5) (if_neg c5))
  exact hD _ _ [3, 4, 5, 2, 1, 0] _ _ (L15 9 _ _ _ _ ⟨0, by decide, by decide, rfl, Cq.rf m⟩ (rfl))
theorem cq_l_knownNext (m : Ms) (p le : Int32) : ∀ (n : Nat) (a room f : Int32) (m1 : Ms), Cq m m1 → Cq m (l_X12_knownNext_15 m p le n a room f m1).2 := by
  intro n
  induction n with
  | zero => intro a room f m1 h; exact Cq.rf m
  | succ n ih =>
    intro a room f m1 h
    rw [q_X12_knownNext_15]
    have h2 := h.tr (cq_isKnownNext m1 p f le)
    simp only [bindv]
    (repeat' split) <;> first | exact h | exact ih _ _ _ _ h2
theorem cq_knownNext (m : Ms) (p le : Int32) : Cq m (m_X12_knownNext m p le).2 := cq_l_knownNext m p le _ _ _ _ _ (Cq.rf m)
/-- the same but for sums and what comes next -/
def Cn (m m' : Ms) : Prop := Ms.s m' = Ms.s m ∧ Ms.im m' = Ms.im m ∧ Ms.fr m' = Ms.fr m ∧ Ms.hi m' = Ms.hi m ∧ Ms.lk m' = Ms.lk m ∧ Ms.bo m' = Ms.bo m ∧ Ms.ra m' = Ms.ra m
theorem Cn.rf (m : Ms) : Cn m m := ⟨rfl, rfl, rfl, rfl, rfl, rfl, rfl⟩
theorem Cq.cn {m m' : Ms} (h : Cq m m') : Cn m m' := ⟨h.1, h.2.1, h.2.2.1, h.2.2.2.1, h.2.2.2.2.1, h.2.2.2.2.2.2.1, h.2.2.2.2.2.2.2⟩
theorem Cn.tr {a b c : Ms} (h : Cn a b) (g : Cn b c) : Cn a c := by
  obtain ⟨h1, h2, h3, h4, h5, h7, h8⟩ := h
  obtain ⟨g1, g2, g3, g4, g5, g7, g8⟩ := g
  exact ⟨g1.trans h1, g2.trans h2, g3.trans h3, g4.trans h4, g5.trans h5, g7.trans h7, g8.trans h8⟩
theorem Cn.nx {m m' : Ms} (h : Cn m m') (f : Fn) : Cn m (Ms.th m', Ms.s m', Ms.im m', Ms.fr m', Ms.hi m', Ms.ac m', Ms.sp m', Ms.en m', Ms.wr m', Ms.op m', Ms.bb m', Ms.tr m', Ms.su m', Ms.lf m', Ms.lk m', f, Ms.bo m', Ms.ra m', Ms.ki m', Ms.nu m', Ms.tv m') := h
theorem lt17 {f : Fn} (hu : rl 6 (f (nI 17).toNatClampNeg)) {k : Nat} {i : Int32} (hi : i = nI k) (hk : k ≤ 6) (c : ¬ f (nI 17).toNatClampNeg ≤ i) : k < 6 := by
  obtain ⟨q, hq, e⟩ := hu
  rw [e, hi, nI_leI (by omega) (by omega)] at c
  omega
theorem up17 {f : Fn} {p x : Int32} (hp : vp_in p 6) (h : rl 6 (f (nI 17).toNatClampNeg)) : rl 6 (upd f (nI 1 + p).toNatClampNeg x (nI 17).toNatClampNeg) := by
  obtain ⟨k, hk, rfl⟩ := vp_in_of hp (by decide)
  have e : (nI 1 + nI k).toNatClampNeg = 1 + k := by rw [nI_add, nI_clamp (by omega)]
  have e2 : (nI 17).toNatClampNeg = 17 := nI_clamp (by decide)
  rw [e, e2] at *
  rw [pk_un (by omega)]
  exact h
def l_X12_goesBy_57 (m : Ms) (le : Int32) (p : Int32) (m1 : Ms) : Nat → Int32 → Fn → Ms
  | 0, _, _ => m
  | n57 + 1, b, s1 => if (s1 (nI 17).toNatClampNeg) ≤ b then (Ms.th m1, (upd s1 (nI 0).toNatClampNeg ((s1 (nI 0).toNatClampNeg) + nI 1)), Ms.im m1, Ms.fr m1, Ms.hi m1, Ms.ac m1, Ms.sp m1, Ms.en m1, Ms.wr m1, Ms.op m1, Ms.bb m1, Ms.tr m1, Ms.su m1, Ms.lf m1, Ms.lk m1, Ms.nx m1, Ms.bo m1, Ms.ra m1, Ms.ki m1, Ms.nu m1, Ms.tv m1) else l_X12_goesBy_57 m le p m1 n57 (b + nI 1) (upd s1 (nI 1 + b).toNatClampNeg (Ms.nx m1 b.toNatClampNeg))
theorem q_X12_goesBy_57 (m : Ms) (le : Int32) (p : Int32) (m1 : Ms) (n57 : Nat) (b : Int32) (s1 : Fn) : l_X12_goesBy_57 m le p m1 (n57 + 1) b s1 = (if (s1 (nI 17).toNatClampNeg) ≤ b then (Ms.th m1, (upd s1 (nI 0).toNatClampNeg ((s1 (nI 0).toNatClampNeg) + nI 1)), Ms.im m1, Ms.fr m1, Ms.hi m1, Ms.ac m1, Ms.sp m1, Ms.en m1, Ms.wr m1, Ms.op m1, Ms.bb m1, Ms.tr m1, Ms.su m1, Ms.lf m1, Ms.lk m1, Ms.nx m1, Ms.bo m1, Ms.ra m1, Ms.ki m1, Ms.nu m1, Ms.tv m1) else l_X12_goesBy_57 m le p m1 n57 (b + nI 1) (upd s1 (nI 1 + b).toNatClampNeg (Ms.nx m1 b.toNatClampNeg))) := rfl
def l_X12_goesBy_2 (m : Ms) (le : Int32) : Nat → Int32 → Ms → Ms
  | 0, _, _ => m
  | n2 + 1, p, m1 => if (Ms.s m1 (nI 17).toNatClampNeg) ≤ p then l_X12_goesBy_57 m le p m1 7 (nI 0) (Ms.s m1) else (if (Ms.s m1 (nI 7 + p).toNatClampNeg) = nI 1 then l_X12_goesBy_2 m le n2 (p + nI 1) (Ms.th m1, Ms.s m1, Ms.im m1, Ms.fr m1, Ms.hi m1, Ms.ac m1, Ms.sp m1, Ms.en m1, Ms.wr m1, Ms.op m1, Ms.bb m1, Ms.tr m1, Ms.su m1, Ms.lf m1, Ms.lk m1, (upd (Ms.nx m1) p.toNatClampNeg (Ms.s m1 (nI 1 + p).toNatClampNeg)), Ms.bo m1, Ms.ra m1, Ms.ki m1, Ms.nu m1, Ms.tv m1) else (bindv (m_X12_knownNext m1 p le) (fun r4 => l_X12_goesBy_2 m le n2 (p + nI 1) (Ms.th r4.2, Ms.s r4.2, Ms.im r4.2, Ms.fr r4.2, Ms.hi r4.2, Ms.ac r4.2, Ms.sp r4.2, Ms.en r4.2, Ms.wr r4.2, Ms.op r4.2, Ms.bb r4.2, Ms.tr r4.2, Ms.su r4.2, Ms.lf r4.2, Ms.lk r4.2, (upd (Ms.nx r4.2) p.toNatClampNeg r4.1), Ms.bo r4.2, Ms.ra r4.2, Ms.ki r4.2, Ms.nu r4.2, Ms.tv r4.2))))
theorem q_X12_goesBy_2 (m : Ms) (le : Int32) (n2 : Nat) (p : Int32) (m1 : Ms) : l_X12_goesBy_2 m le (n2 + 1) p m1 = (if (Ms.s m1 (nI 17).toNatClampNeg) ≤ p then l_X12_goesBy_57 m le p m1 7 (nI 0) (Ms.s m1) else (if (Ms.s m1 (nI 7 + p).toNatClampNeg) = nI 1 then l_X12_goesBy_2 m le n2 (p + nI 1) (Ms.th m1, Ms.s m1, Ms.im m1, Ms.fr m1, Ms.hi m1, Ms.ac m1, Ms.sp m1, Ms.en m1, Ms.wr m1, Ms.op m1, Ms.bb m1, Ms.tr m1, Ms.su m1, Ms.lf m1, Ms.lk m1, (upd (Ms.nx m1) p.toNatClampNeg (Ms.s m1 (nI 1 + p).toNatClampNeg)), Ms.bo m1, Ms.ra m1, Ms.ki m1, Ms.nu m1, Ms.tv m1) else (bindv (m_X12_knownNext m1 p le) (fun r4 => l_X12_goesBy_2 m le n2 (p + nI 1) (Ms.th r4.2, Ms.s r4.2, Ms.im r4.2, Ms.fr r4.2, Ms.hi r4.2, Ms.ac r4.2, Ms.sp r4.2, Ms.en r4.2, Ms.wr r4.2, Ms.op r4.2, Ms.bb r4.2, Ms.tr r4.2, Ms.su r4.2, Ms.lf r4.2, Ms.lk r4.2, (upd (Ms.nx r4.2) p.toNatClampNeg r4.1), Ms.bo r4.2, Ms.ra r4.2, Ms.ki r4.2, Ms.nu r4.2, Ms.tv r4.2))))) := rfl
def m_X12_goesBy (m : Ms) (le : Int32) : Ms := l_X12_goesBy_2 m le 7 (nI 0) m
set_option maxRecDepth 100000 in
set_option maxHeartbeats 4000000 in
theorem c_X12_goesBy (l : Launch) {fv : Value} (hf : FV fv) (m : Ms) (le : Int32) (hu : hU m) (ht : hT m) (hh : hH m) (hs : hS m) : CT l fv 7 jX12_goesBy [.ref 0, .int le] (hMs m) (DP none (hMs (m_X12_goesBy m le))) := by
  refine CT_of [2, 57] mt_X12_goesBy (by decide +kernel) (tab_X12 hf) okX12_goesBy (Nat.le_of_ble_eq_true rfl) ?_
  intro J hJ hD
  refine hJ 0 _ _ _ ?_
  have L2 : ∀ (n2 : Nat) (p : Int32) (m1 : Ms), (∃ z9 : Nat, z9 ≤ 6 ∧ n2 + z9 = 7 ∧ p = nI z9 ∧ Cn m m1) → m_X12_goesBy m le = l_X12_goesBy_2 m le n2 p m1 → J 2 [(0, .ref 0), (1, .int le), (2, .int p)] [] (hMs m1) := by
    intro n2
    induction n2 with
    | zero =>
      intro p m1 hv
      obtain ⟨z9, h1, h2, h3, h5⟩ := hv
      omega
    | succ n2 ih2 =>
      intro p m1 hv e2
      obtain ⟨z9, h1, h2, h3, h5⟩ := hv
      refine hJ 2 _ _ _ ?_
      refine And.intro (vp_in_nI (by decide) (by decide)) ?_
      refine And.intro (fun c1 => ?_) (fun c1 => ?_)
      · skip
        refine hJ 55 _ _ _ ?_
        have L57 : ∀ (n57 : Nat) (b : Int32) (s1 : Fn), (∃ z9 : Nat, z9 ≤ 6 ∧ n57 + z9 = 7 ∧ b = nI z9 ∧ rl 6 (s1 (nI 17).toNatClampNeg)) → m_X12_goesBy m le = l_X12_goesBy_57 m le p m1 n57 b s1 → J 57 [(0, .ref 0), (2, .int b)] [] (wMs (Ms.th m1) s1 (Ms.im m1) (Ms.fr m1) (Ms.hi m1) (Ms.ac m1) (Ms.sp m1) (Ms.en m1) (Ms.wr m1) (Ms.op m1) (Ms.bb m1) (Ms.tr m1) (Ms.su m1) (Ms.lf m1) (Ms.lk m1) (Ms.nx m1) (Ms.bo m1) (Ms.ra m1) (Ms.ki m1) (Ms.nu m1) (Ms.tv m1)) := by
          intro n57
          induction n57 with
          | zero =>
            intro b s1 hv
            obtain ⟨z9, g1, g2, g3, g5⟩ := hv
            omega
          | succ n57 ih57 =>
            intro b s1 hv e57
            obtain ⟨z9, g1, g2, g3, g5⟩ := hv
            refine hJ 57 _ _ _ ?_
            refine And.intro (vp_in_nI (by decide) (by decide)) ?_
            refine And.intro (fun c2 => ?_) (fun c2 => ?_)
            · skip
              refine hJ 88 _ _ _ ?_
              refine And.intro (vp_in_nI (by decide) (by decide)) ?_
              refine And.intro (vp_in_nI (by decide) (by decide)) ?_
              exact And.intro rfl (DPs (F := (fun z => hMs z)) (s' := (Ms.th m1, (upd s1 (nI 0).toNatClampNeg ((s1 (nI 0).toNatClampNeg) + nI 1)), Ms.im m1, Ms.fr m1, Ms.hi m1, Ms.ac m1, Ms.sp m1, Ms.en m1, Ms.wr m1, Ms.op m1, Ms.bb m1, Ms.tr m1, Ms.su m1, Ms.lf m1, Ms.lk m1, Ms.nx m1, Ms.bo m1, Ms.ra m1, Ms.ki m1, Ms.nu m1, Ms.tv m1)) (e57.trans ((q_X12_goesBy_57 m le p m1 n57 b s1).trans (if_pos c2))))
            · skip
              have g4 := lt17 g5 g3 g1 c2
              have hp := vp_nI g3 g4 (by decide)
              refine And.intro (hp) ?_
              refine And.intro (vp_ad 1 hp (by decide) (by decide)) ?_
              exact hD _ _ [1, 0] _ _ (ih57 _ _ ⟨z9 + 1, g4, by omega, by rw [g3]; exact nI_add z9 1, up17 hp g5⟩ (e57.trans ((q_X12_goesBy_57 m le p m1 n57 b s1).trans (if_neg c2))))
        exact hD _ _ [1, 0] _ _ (L57 7 _ _ ⟨0, by decide, by decide, rfl, hu.s h5.1⟩ (e2.trans ((q_X12_goesBy_2 m le n2 p m1).trans (if_pos c1))))
      · skip
        have h4 := hU_lt (hu.s h5.1) h3 h1 c1
        have hp := vp_nI h3 h4 (by decide)
        refine And.intro (vp_ad 7 hp (by decide) (by decide)) ?_
        refine And.intro (fun c3 => ?_) (fun c3 => ?_)
        · skip
          refine hJ 42 _ _ _ ?_
          obtain ⟨r4, er4⟩ : ∃ z : Int32 × Ms, m_X12_knownNext m1 p le = z := ⟨_, rfl⟩
          have hr4 := c_X12_knownNext l hf m1 p le hp (ht.s h5.1) (hh.s h5.1) (hs.s h5.1)
          rw [er4] at hr4
          have cq := (cq_knownNext m1 p le).cn; rw [er4] at cq
          have h5 := h5.tr cq
          refine CALL_same (r := some (.int r4.1)) (h1 := hMs r4.2) (by decide) (hr4) ?_
          refine And.intro (hp) ?_
          exact hD _ _ [1, 2, 0] _ _ (ih2 _ (Ms.th r4.2, Ms.s r4.2, Ms.im r4.2, Ms.fr r4.2, Ms.hi r4.2, Ms.ac r4.2, Ms.sp r4.2, Ms.en r4.2, Ms.wr r4.2, Ms.op r4.2, Ms.bb r4.2, Ms.tr r4.2, Ms.su r4.2, Ms.lf r4.2, Ms.lk r4.2, (upd (Ms.nx r4.2) p.toNatClampNeg r4.1), Ms.bo r4.2, Ms.ra r4.2, Ms.ki r4.2, Ms.nu r4.2, Ms.tv r4.2) ⟨z9 + 1, h4, by omega, by rw [h3]; exact nI_add z9 1, h5.nx _⟩ (e2.trans ((q_X12_goesBy_2 m le n2 p m1).trans ((if_neg c1).trans ((if_neg c3).trans (bindv_eq er4))))))
        · skip
          refine And.intro (vp_ad 1 hp (by decide) (by decide)) ?_
          refine hJ 48 _ _ _ ?_
          refine And.intro (hp) ?_
          exact hD _ _ [1, 2, 0] _ _ (ih2 _ (Ms.th m1, Ms.s m1, Ms.im m1, Ms.fr m1, Ms.hi m1, Ms.ac m1, Ms.sp m1, Ms.en m1, Ms.wr m1, Ms.op m1, Ms.bb m1, Ms.tr m1, Ms.su m1, Ms.lf m1, Ms.lk m1, (upd (Ms.nx m1) p.toNatClampNeg (Ms.s m1 (nI 1 + p).toNatClampNeg)), Ms.bo m1, Ms.ra m1, Ms.ki m1, Ms.nu m1, Ms.tv m1) ⟨z9 + 1, h4, by omega, by rw [h3]; exact nI_add z9 1, h5.nx _⟩ (e2.trans ((q_X12_goesBy_2 m le n2 p m1).trans ((if_neg c1).trans (if_pos c3)))))
  exact hD _ _ [1, 2, 0] _ _ (L2 7 _ _ ⟨0, by decide, by decide, rfl, Cn.rf m⟩ (rfl))

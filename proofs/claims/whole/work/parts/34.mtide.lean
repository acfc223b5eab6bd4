/-! printed by wip/whole/gen/specs34.py: tides of the model -/
theorem hU.s {m m' : Ms} (h : hU m) (q : Ms.s m' = Ms.s m) : hU m' := by unfold hU at *; rw [q]; exact h
theorem hT.s {m m' : Ms} (h : hT m) (q : Ms.s m' = Ms.s m) : hT m' := by unfold hT at *; rw [q]; exact h
theorem hH.s {m m' : Ms} (h : hH m) (q : Ms.s m' = Ms.s m) : hH m' := by unfold hH at *; rw [q]; exact h
theorem hS.s {m m' : Ms} (h : hS m) (q : Ms.s m' = Ms.s m) : hS m' := by unfold hS at *; rw [q]; exact h
def l_X12_knownNext_15 (m : Ms) (p : Int32) (le : Int32) : Nat → Int32 → Int32 → Int32 → Ms → Int32 × Ms
  | 0, _, _, _, _ => (0, m)
  | n15 + 1, a, room, f, m1 => if nI 8 ≤ f then (a, m1) else (if room ≤ 0 then (a, m1) else (bindv (m_X12_isKnownNext m1 p f le) (fun r3 => bindv (if r3.1 = 0 then a else (a ||| (nI 1 <<< (f &&& 31)))) (fun x4_0 => bindv (if r3.1 = 0 then room else (room + (-nI 1))) (fun x4_1 => l_X12_knownNext_15 m p le n15 x4_0 x4_1 (f + nI 1) r3.2)))))
theorem q_X12_knownNext_15 (m : Ms) (p : Int32) (le : Int32) (n15 : Nat) (a : Int32) (room : Int32) (f : Int32) (m1 : Ms) : l_X12_knownNext_15 m p le (n15 + 1) a room f m1 = (if nI 8 ≤ f then (a, m1) else (if room ≤ 0 then (a, m1) else (bindv (m_X12_isKnownNext m1 p f le) (fun r3 => bindv (if r3.1 = 0 then a else (a ||| (nI 1 <<< (f &&& 31)))) (fun x4_0 => bindv (if r3.1 = 0 then room else (room + (-nI 1))) (fun x4_1 => l_X12_knownNext_15 m p le n15 x4_0 x4_1 (f + nI 1) r3.2)))))) := rfl
def m_X12_knownNext (m : Ms) (p : Int32) (le : Int32) : Int32 × Ms := l_X12_knownNext_15 m p le 9 (nI 0) (m_X12_tellsOf (Ms.s m) (nI 212) (nI 4)) (nI 0) m
set_option maxRecDepth 100000 in
set_option maxHeartbeats 4000000 in
theorem c_X12_knownNext (l : Launch) {fv : Value} (hf : FV fv) (m : Ms) (p : Int32) (le : Int32) (hp : vp_in p 6) (ht : hT m) (hh : hH m) (hs : hS m) : CT l fv 6 jX12_knownNext [.ref 0, .int p, .int le] (hMs m) (DP (some (.int (m_X12_knownNext m p le).1)) (hMs ((m_X12_knownNext m p le).2))) := by
  refine CT_of [15, 48] mt_X12_knownNext (by decide +kernel) (tab_X12 hf) okX12_knownNext (Nat.le_of_ble_eq_true rfl) ?_
  intro J hJ hD
  refine hJ 0 _ _ _ ?_
  refine CALL_same (r := some (.int (m_X12_tellsOf (Ms.s m) (nI 212) (nI 4)))) (h1 := hMs m) (by decide) (c_X12_tellsOf l hf m (nI 212) (nI 4) (fun c => hH_ad hh 212 (by decide) c)) ?_
  have L15 : ∀ (n15 : Nat) (a : Int32) (room : Int32) (f : Int32) (m1 : Ms), (∃ z9 : Nat, z9 ≤ 8 ∧ n15 + z9 = 9 ∧ f = nI z9 ∧ Cq m m1) → m_X12_knownNext m p le = l_X12_knownNext_15 m p le n15 a room f m1 → J 15 [(0, .ref 0), (1, .int p), (2, .int le), (3, .int a), (4, .int room), (5, .int f)] [] (hMs m1) := by
    intro n15
    induction n15 with
    | zero =>
      intro a room f m1 hv
      obtain ⟨z9, h1, h2, h3, h5⟩ := hv
      omega
    | succ n15 ih15 =>
      intro a room f m1 hv e15
      obtain ⟨z9, h1, h2, h3, h5⟩ := hv
      refine hJ 15 _ _ _ ?_
      refine And.intro (fun c1 => ?_) (fun c1 => ?_)
      · skip
        refine hJ 54 _ _ _ ?_
        exact And.intro True.intro (DPis (F := (fun z => hMs z)) (s' := m1) (e15.trans ((q_X12_knownNext_15 m p le n15 a room f m1).trans (if_pos c1))))
      · skip
        have h4 := cnt_lt h3 h1 (by decide) c1
        have hq := vp_nI h3 h4 (by decide)
        refine And.intro (fun c2 => ?_) (fun c2 => ?_)
        · skip
          refine hJ 54 _ _ _ ?_
          exact And.intro True.intro (DPis (F := (fun z => hMs z)) (s' := m1) (e15.trans ((q_X12_knownNext_15 m p le n15 a room f m1).trans ((if_neg c1).trans (if_pos c2)))))
        · skip
          obtain ⟨r3, er3⟩ : ∃ z : Int32 × Ms, m_X12_isKnownNext m1 p f le = z := ⟨_, rfl⟩
          have hr3 := c_X12_isKnownNext l hf m1 p f le hp hq (ht.cq h5) (hh.cq h5) (hs.cq h5)
          rw [er3] at hr3
          have cq := cq_isKnownNext m1 p f le; rw [er3] at cq
          refine CALL_same (r := some (.int r3.1)) (h1 := hMs r3.2) (by decide) (hr3) ?_
          have K4 : ∀ (x4_0 : Int32), ∀ (x4_1 : Int32), (if r3.1 = 0 then a else (a ||| (nI 1 <<< (f &&& 31)))) = x4_0 → (if r3.1 = 0 then room else (room + (-nI 1))) = x4_1 → J 48 [(0, .ref 0), (1, .int p), (2, .int le), (3, .int x4_0), (4, .int x4_1), (5, .int f)] [] (hMs r3.2) := by
            intro x4_0 x4_1 ex4_0 ex4_1
            refine hJ 48 _ _ _ ?_
            exact hD _ _ [1, 2, 3, 4, 5, 0] _ _ (ih15 _ _ _ _ ⟨z9 + 1, h4, by omega, by rw [h3]; exact nI_add z9 1, h5.tr cq⟩ (e15.trans ((q_X12_knownNext_15 m p le n15 a room f m1).trans ((if_neg c1).trans ((if_neg c2).trans ((bindv_eq er3).trans ((bindv_eq ex4_0).trans (bindv_eq ex4_1))))))))
          refine And.intro (fun c5 => ?_) (fun c5 => ?_)
          · skip
            exact hD _ _ [0, 1, 2, 3, 4, 5] _ _ (K4 _ _ (if_pos c5) (if_pos c5))
          · skip
            exact hD _ _ [2, 3, 4, 1, 0, 5] _ _ (K4 _ _ (if_neg c5) (if_neg c5))
  exact hD _ _ [3, 4, 5, 2, 1, 0] _ _ (L15 9 _ _ _ _ ⟨0, by decide, by decide, rfl, Cq.rf m⟩ (rfl))
theorem cq_l_knownNext (m : Ms) (p le : Int32) : ∀ (n : Nat) (a room f : Int32) (m1 : Ms), Cq m m1 → Cq m (l_X12_knownNext_15 m p le n a room f m1).2 := by
  intro n
  induction n with
  | zero => intro a room f m1 h; exact Cq.rf m
  | succ n ih =>
    intro a room f m1 h
    rw [q_X12_knownNext_15]
    have h2 := h.tr (cq_isKnownNext m1 p f le)
    simp only [bindv]
    (repeat' split) <;> first | exact h | exact ih _ _ _ _ h2
theorem cq_knownNext (m : Ms) (p le : Int32) : Cq m (m_X12_knownNext m p le).2 := cq_l_knownNext m p le _ _ _ _ _ (Cq.rf m)

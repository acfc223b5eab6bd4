/-! what the contracts need of both, out of the relation -/
set_option maxRecDepth 100000 in
set_option maxHeartbeats 4000000 in
theorem c_X12_mean2 (l : Launch) {fv : Value} (hf : FV fv) (m : Ms) (pa : Int32) (hu : hU m) (ha : ∃ b, b ≤ 6 ∧ (Ms.s m (nI 17).toNatClampNeg - m_X12_countOf (m_X12_awayOnes (Ms.s m))).toInt64 = lN b) : CT l fv 11 jX12_mean [.ref 0, .int pa] (hMs m) (DP (some (.long (m_X12_mean (Ms.s m) pa))) (hMs m)) := by
  refine CT_of [] mt_X12_mean (by decide +kernel) (tab_X12 hf) okX12_mean (Nat.le_of_ble_eq_true rfl) ?_
  intro J hJ hD
  obtain ⟨b, hb, hbe⟩ := ha
  obtain ⟨a, ha2, hae⟩ := held_n (Ms.s m)
  refine hJ 0 _ _ _ ?_
  refine And.intro (vp_in_nI (by decide) (by decide)) ?_
  refine CALL_same (r := some (.int (m_X12_awayOnes (Ms.s m)))) (h1 := hMs m) (by decide) (c_X12_awayOnes l hf m hu) ?_
  refine CALL_sub (h' := hMs m) [] (by decide) (c_X12_countOf l hf (m_X12_awayOnes (Ms.s m))) rfl rfl (by decide) (by decide) rfl ?_
  refine CALL_sub (h' := hMs m) [] (by decide) (c_X12_in l hf pa (nI 0) (nI 1)) rfl rfl (by decide) (by decide) rfl ?_
  refine And.intro (fun c1 => ?_) (fun c1 => ?_)
  · skip
    refine hJ 32 _ _ _ ?_
    refine hJ 48 _ _ _ ?_
    exact And.intro rfl (DPl (if_pos c1))
  · skip
    refine And.intro (fun c2 => ?_) (fun c2 => ?_)
    · skip
      have hz : 0 < b := Nat.pos_of_ne_zero (fun z => c2 ((lc0 hbe (by omega)).mpr z))
      refine hJ 38 _ _ _ ?_
      refine CALL_same (r := some (.int (m_X12_heldByAll (Ms.s m)))) (h1 := hMs m) (by decide) (c_X12_heldByAll l hf m hu) ?_
      refine CALL_sub (h' := hMs m) [] (by decide) (c_X12_lowest l hf ((m_X12_heldByAll (Ms.s m)).toInt64) (((Ms.s m (nI 17).toNatClampNeg) - (m_X12_countOf (m_X12_awayOnes (Ms.s m)))).toInt64) pa hae hbe hz (by omega) (by omega)) rfl rfl (by decide) (by decide) rfl ?_
      exact And.intro rfl (DPl ((if_neg c1).trans (if_neg c2)))
    · skip
      refine hJ 48 _ _ _ ?_
      exact And.intro rfl (DPl ((if_neg c1).trans (if_pos c2)))
section RF
variable {s : Us} {m : Ms} {f : Fn} {sf : Sf} {A : Nat → Lg} {U T G : Nat}
theorem w_hK (h : RelS f sf A U T G) : hK (Sc.sz (Sf.c sf)) (Sc.kd (Sf.c sf)) := by
  obtain ⟨⟨u1, u2, u3⟩, -, -, -, h5, -⟩ := h
  intro i hi
  rw [u2] at hi
  obtain ⟨k, hk, rfl⟩ := has_ex hi u1
  rw [nI_clamp (by omega)]
  exact (h5 k hk).2.2.2.2.1
theorem w_sz (h : RelS f sf A U T G) : rl 6 (Sc.sz (Sf.c sf)) := ⟨U, h.1.1, h.1.2.1⟩
theorem w_lg (h : RelS f sf A U T G) : rl 5 (Sc.lg (Sf.c sf)) := ⟨G, h.2.2.1.1, h.2.2.1.2.1⟩
theorem w_ti (h : RelS f sf A U T G) : rl 9999 (Sc.ti (Sf.c sf)) := ⟨T, h.2.1.1, h.2.1.2.1⟩
theorem w_sg (h : RelS f sf A U T G) : rl 100 (Sc.sg (Sf.c sf)) := by
  obtain ⟨n, n1, n2, -⟩ := h.2.2.2.2.2.2.1
  exact ⟨n, n1, n2⟩
theorem w_22 (h : RelS f sf A U T G) : rl 100 (f (nI 22).toNatClampNeg) := by
  obtain ⟨n, n1, n2, n3, -⟩ := h.2.2.2.2.2.2.1
  rw [c22]
  exact ⟨n, n1, n3⟩
theorem w_18 (h : RelS f sf A U T G) : rl 5 (f (nI 18).toNatClampNeg) := by
  rw [c18]
  exact ⟨G, h.2.2.1.1, h.2.2.1.2.2.1⟩
theorem w_U (h : RelS (Ms.s m) sf A U T G) : hU m := by
  unfold hU
  rw [c17]
  exact ⟨U, h.1.1, h.1.2.2⟩
theorem w_se (h : RelS f sf A U T G) : Tb.li (Sf.se sf) = nI 5 ∧ rl 5 (f (nI 19).toNatClampNeg) ∧ rl 8 (Tb.n (Sf.se sf)) := by
  obtain ⟨n, n1, n2, n3, n4, -⟩ := h.2.2.2.2.2.2.2.1
  rw [c19]
  exact ⟨n4, ⟨n, n1, n3⟩, ⟨n, by omega, n2⟩⟩
theorem w_pl (h : RelS f sf A U T G) : Tb.li (Sf.pl sf) = nI 8 ∧ rl 8 (f (nI 20).toNatClampNeg) ∧ rl 8 (Tb.n (Sf.pl sf)) := by
  obtain ⟨n, n1, n2, n3, n4, -⟩ := h.2.2.2.2.2.2.2.2.1
  rw [c20]
  exact ⟨n4, ⟨n, n1, n3⟩, ⟨n, by omega, n2⟩⟩
theorem w_bk (h : RelS f sf A U T G) : Tb.li (Sf.bk sf) = nI 8 ∧ rl 8 (f (nI 21).toNatClampNeg) ∧ rl 8 (Tb.n (Sf.bk sf)) := by
  obtain ⟨n, n1, n2, n3, n4, -⟩ := h.2.2.2.2.2.2.2.2.2.1
  rw [c21]
  exact ⟨n4, ⟨n, n1, n3⟩, ⟨n, by omega, n2⟩⟩
theorem w_Sn (h : RelS f sf A U T G) : Sn sf := ⟨(w_se h).2.2, h.2.2.2.2.2.2.2.2.2.2.1⟩
theorem w_ft (h : RelS f sf A U T G) : ∀ j, fits .byte (.int (Sf.tp sf j)) = true := h.2.2.2.2.2.2.2.2.2.2.2.1.1
theorem w_W (h : RelS (Ms.s m) sf A U T G) : hW m := by
  obtain ⟨n, n1, n2, n3, n4, n5⟩ := h.2.2.2.2.2.2.2.1
  refine ⟨n, n1, n3, fun j hj => ?_⟩
  obtain ⟨u, t, g, b, q1, -, -, -, -, -, -, -, q2, -⟩ := n5 j hj
  rw [q2]
  have := h.1.1
  exact vp_in_nI (by omega) (by decide)
theorem w_B (h : RelS (Ms.s m) sf A U T G) : hB m := by
  obtain ⟨n, n1, n2, n3, n4, n5⟩ := h.2.2.2.2.2.2.2.2.2.1
  refine ⟨n, n1, n3, fun j hj => ?_⟩
  obtain ⟨u, x, q1, -, -, -, q2, -⟩ := n5 j hj
  rw [q2]
  have := h.1.1
  exact vp_in_nI (by omega) (by decide)
theorem w_L (h : RelS (Ms.s m) sf A U T G) : hL m := by
  obtain ⟨n, n1, n2, n3, n4, n5⟩ := h.2.2.2.2.2.2.2.2.1
  refine ⟨n, n1, n3, fun j hj => ?_⟩
  obtain ⟨w, p, -, -, q1, q2, q3⟩ := n5 j hj
  rw [q1, q2]
  have hu := h.1.1
  rcases plan_is hu h.1.2.2 q3 with rfl | ⟨i, hi, rfl, hw⟩ | ⟨rfl, i, g, hi, hg, e1, e2⟩
  · exact ⟨fun z => by rcases z with z | z <;> exact absurd z (by decide), fun z => absurd rfl z⟩
  · exact ⟨fun _ => vp_in_nI (by omega) (by decide), fun _ z1 z2 => (hw.elim z1 z2).elim⟩
  · refine ⟨fun z => by rcases z with z | z <;> exact absurd z (by decide), fun _ _ _ => ?_⟩
    rw [e1]
    exact vp_in_nI (by omega) (by decide)
theorem w_mean (h : RelS (Ms.s m) sf A U T G) : ∃ b, b ≤ 6 ∧ (Ms.s m (nI 17).toNatClampNeg - m_X12_countOf (m_X12_awayOnes (Ms.s m))).toInt64 = lN b := by
  obtain ⟨x, x1, x2, x3⟩ := h.away
  have hu := h.1.1
  obtain ⟨n1, n2, n3⟩ := no_f U hu x (by have := pw_64 U hu; omega) x1
  rw [c17, h.1.2.2, x3, n3, n2]
  exact ⟨_, n1, l64 _ (by omega)⟩
end RF
theorem w_V {s : Us} {f : Fn} {U T G : Nat} (h : RelS f (Us.nw s) (slots s) U T G) (ht : TPs s) : Vn s := ⟨w_lg h, ht, w_hK h, w_ti h, w_sz h⟩
theorem w_ra {s : Us} {m : Ms} (h : Rac s m) : rl 1000 (Ms.ra m) := by
  rcases h with ⟨-, h⟩ | ⟨j, r, -, h1, -, -, h2, -⟩
  · exact ⟨0, by decide, h⟩
  · exact ⟨r, h1, h2⟩

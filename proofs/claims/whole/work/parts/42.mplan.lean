/-! printed by wip/whole/gen/specs42.py: mean, plans, books, acts, image of the model -/
/-- who is out stands as 0 or 1 -/
def hA (m : Ms) : Prop := ∀ p, p < 6 → bl (Ms.s m (7 + p))
theorem or_bit : ∀ k, k < 6 → ∀ x, x < 2 ^ k → nI x ||| (nI 1 <<< (nI k &&& 31)) = nI (x + 2 ^ k) := by decide +kernel
theorem or_nil : ∀ k, k < 6 → ∀ x, x < 2 ^ k → nI x ||| (nI 0 <<< (nI k &&& 31)) = nI x := by decide +kernel
theorem cnt_bits : ∀ u, u < 7 → ∀ y, y < 2 ^ u → (m_X12_countOf (nI y)).toNatClampNeg ≤ u ∧ m_X12_countOf (nI y) = nI (m_X12_countOf (nI y)).toNatClampNeg := by decide +kernel
theorem away_l {m : Ms} (ha : hA m) {U : Nat} (hU : U ≤ 6) (hu : Ms.s m (nI 17).toNatClampNeg = nI U) : ∀ (n k : Nat) (a p : Int32) (x : Nat), k ≤ U → n + k = 7 → p = nI k → a = nI x → x < 2 ^ k → ∃ y, y < 2 ^ U ∧ l_X12_awayOnes_4 (Ms.s m) n a p = nI y := by
  intro n
  induction n with
  | zero => intro k a p x h1 h2; omega
  | succ n ih =>
    intro k a p x h1 h2 h3 h4 h5
    rw [q_X12_awayOnes_4]
    by_cases c : Ms.s m (nI 17).toNatClampNeg ≤ p
    · rw [if_pos c]
      rw [hu, h3, nI_leI (by omega) (by omega)] at c
      have : k = U := by omega
      exact ⟨x, by rw [← this]; exact h5, h4⟩
    · rw [if_neg c]
      rw [hu, h3, nI_leI (by omega) (by omega)] at c
      have e7 : (nI 7 + p).toNatClampNeg = 7 + k := by rw [h3, nI_add, nI_clamp (by omega)]
      rw [e7]
      have hp : 2 ^ (k + 1) = 2 ^ k + 2 ^ k := by rw [Nat.pow_succ]; omega
      rcases ha k (by omega) with z | z
      · exact ih (k + 1) _ _ x (by omega) (by omega) (by rw [h3]; exact nI_add k 1) (by rw [z, h4, h3]; exact or_nil k (by omega) x h5) (by omega)
      · exact ih (k + 1) _ _ (x + 2 ^ k) (by omega) (by omega) (by rw [h3]; exact nI_add k 1) (by rw [z, h4, h3]; exact or_bit k (by omega) x h5) (by omega)
theorem mean_n {m : Ms} (ha : hA m) (hu : hU m) : ∃ b, b ≤ 6 ∧ (Ms.s m (nI 17).toNatClampNeg - m_X12_countOf (m_X12_awayOnes (Ms.s m))).toInt64 = lN b := by
  obtain ⟨U, hU, e⟩ := hu
  obtain ⟨y, hy, e2⟩ := away_l ha hU e 7 0 (nI 0) (nI 0) 0 (by omega) rfl rfl rfl (by decide)
  have e3 : m_X12_awayOnes (Ms.s m) = nI y := e2
  obtain ⟨h1, h2⟩ := cnt_bits U (by omega) y hy
  rw [e, e3, h2, pk_sub h1]
  exact ⟨U - (m_X12_countOf (nI y)).toNatClampNeg, by omega, nI_l (by omega)⟩
theorem held_l (s : Fn) : ∀ (n k : Nat) (a p : Int32), n + k = 7 → rl (8 * k) a → rl 56 (l_X12_heldByAll_4 s n a p) := by
  intro n
  induction n with
  | zero => intro k a p h1 h2; exact ⟨0, by omega, rfl⟩
  | succ n ih =>
    intro k a p h1 h2
    rw [q_X12_heldByAll_4]
    unfold bindv
    split
    · exact h2.mono (by omega)
    · refine ih (k + 1) _ _ (by omega) ?_
      have h3 : rl 8 (if (s (nI 7 + p).toNatClampNeg) = 0 then (m_X12_countOf (s (nI 1 + p).toNatClampNeg)) else (nI 0)) := by
        split
        · exact rl_count _
        · exact ⟨0, by omega, rfl⟩
      obtain ⟨u, hu, rfl⟩ := h2
      obtain ⟨v, hv, e⟩ := h3
      rw [e]
      exact ⟨u + v, by omega, nI_add u v⟩
theorem held_n (s : Fn) : ∃ b, b ≤ 56 ∧ (m_X12_heldByAll s).toInt64 = lN b := by
  obtain ⟨b, hb, e⟩ := held_l s 7 0 (nI 0) (nI 0) rfl ⟨0, by omega, rfl⟩
  exact ⟨b, hb, by rw [show m_X12_heldByAll s = nI b from e]; exact nI_l (by omega)⟩
def m_X12_mean (zs : Fn) (pa : Int32) : Int64 := if (m_X12_in pa (nI 0) (nI 1)) = 0 then (-9223372036854775808) else (if (lg_cmp (((zs (nI 17).toNatClampNeg) - (m_X12_countOf (m_X12_awayOnes (zs)))).toInt64) (lN 0)) = 0 then (-9223372036854775808) else (m_X12_lowest ((m_X12_heldByAll (zs)).toInt64) (((zs (nI 17).toNatClampNeg) - (m_X12_countOf (m_X12_awayOnes (zs)))).toInt64) pa))
set_option maxRecDepth 100000 in
set_option maxHeartbeats 4000000 in
theorem c_X12_mean (l : Launch) {fv : Value} (hf : FV fv) (m : Ms) (pa : Int32) (hu : hU m) (ha : hA m) : CT l fv 11 jX12_mean [.ref 0, .int pa] (hMs m) (DP (some (.long (m_X12_mean (Ms.s m) pa))) (hMs m)) := by
  refine CT_of [] mt_X12_mean (by decide +kernel) (tab_X12 hf) okX12_mean (Nat.le_of_ble_eq_true rfl) ?_
  intro J hJ hD
  obtain ⟨b, hb, hbe⟩ := mean_n ha hu
  obtain ⟨a, ha2, hae⟩ := held_n (Ms.s m)
  refine hJ 0 _ _ _ ?_
  refine And.intro (vp_in_nI (by decide) (by decide)) ?_
  refine CALL_same (r := some (.int (m_X12_awayOnes (Ms.s m)))) (h1 := hMs m) (by decide) (c_X12_awayOnes l hf m hu) ?_
  refine CALL_sub (h' := hMs m) [] (by decide) (c_X12_countOf l hf (m_X12_awayOnes (Ms.s m))) rfl rfl (by decide) (by decide) rfl ?_
  refine CALL_sub (h' := hMs m) [] (by decide) (c_X12_in l hf pa (nI 0) (nI 1)) rfl rfl (by decide) (by decide) rfl ?_
  refine And.intro (fun c1 => ?_) (fun c1 => ?_)
  · skip
    refine hJ 32 _ _ _ ?_
    refine hJ 48 _ _ _ ?_
    exact And.intro rfl (DPl (if_pos c1))
  · skip
    refine And.intro (fun c2 => ?_) (fun c2 => ?_)
    · skip
      have hz : 0 < b := Nat.pos_of_ne_zero (fun z => c2 ((lc0 hbe (by omega)).mpr z))
      refine hJ 38 _ _ _ ?_
      refine CALL_same (r := some (.int (m_X12_heldByAll (Ms.s m)))) (h1 := hMs m) (by decide) (c_X12_heldByAll l hf m hu) ?_
      refine CALL_sub (h' := hMs m) [] (by decide) (c_X12_lowest l hf ((m_X12_heldByAll (Ms.s m)).toInt64) (((Ms.s m (nI 17).toNatClampNeg) - (m_X12_countOf (m_X12_awayOnes (Ms.s m)))).toInt64) pa hae hbe hz (by omega) (by omega)) rfl rfl (by decide) (by decide) rfl ?_
      exact And.intro rfl (DPl ((if_neg c1).trans (if_neg c2)))
    · skip
      refine hJ 48 _ _ _ ?_
      exact And.intro rfl (DPl ((if_neg c1).trans (if_pos c2)))
def m_X12_isPlan (zs : Fn) (w : Int32) (n : Int32) : Int32 := if w = 0 then nI 1 else (if (m_X12_in w (nI 1) (nI 2)) = 0 then (if w = nI 3 then (if n < 0 then nI 0 else (if (m_X12_isUrchin (zs) (n / nI 10)) = 0 then nI 0 else (if (m_X12_isFact (n - n / nI 10 * nI 10)) = 0 then nI 0 else nI 1))) else nI 0) else (if (m_X12_isUrchin (zs) n) = 0 then (if w = nI 3 then (if n < 0 then nI 0 else (if (m_X12_isUrchin (zs) (n / nI 10)) = 0 then nI 0 else (if (m_X12_isFact (n - n / nI 10 * nI 10)) = 0 then nI 0 else nI 1))) else nI 0) else nI 1))
theorem bl_X12_isPlan {zs : Fn} {w : Int32} {n : Int32} : bl (m_X12_isPlan zs w n) := by
  unfold m_X12_isPlan
  (repeat' split) <;> first | exact Or.inl rfl | exact Or.inr rfl | exact bl_X12_in | exact bl_X12_isFact | exact bl_X12_isUrchin
set_option maxRecDepth 100000 in
set_option maxHeartbeats 4000000 in
theorem c_X12_isPlan (l : Launch) {fv : Value} (hf : FV fv) (m : Ms) (w : Int32) (n : Int32) : CT l fv 3 jX12_isPlan [.ref 0, .int w, .int n] (hMs m) (DP (some (.int (m_X12_isPlan (Ms.s m) w n))) (hMs m)) := by
  refine CT_of [] mt_X12_isPlan (by decide +kernel) (tab_X12 hf) okX12_isPlan (Nat.le_of_ble_eq_true rfl) ?_
  intro J hJ hD
  refine hJ 0 _ _ _ ?_
  refine And.intro (fun c1 => ?_) (fun c1 => ?_)
  · skip
    refine hJ 51 _ _ _ ?_
    refine hJ 56 _ _ _ ?_
    exact And.intro xb1 (DPi (if_pos c1))
  · skip
    refine CALL_sub (h' := hMs m) [] (by decide) (c_X12_in l hf w (nI 1) (nI 2)) rfl rfl (by decide) (by decide) rfl ?_
    refine And.intro (fun c2 => ?_) (fun c2 => ?_)
    · skip
      refine hJ 21 _ _ _ ?_
      refine And.intro (fun c3 => ?_) (fun c3 => ?_)
      · skip
        refine hJ 55 _ _ _ ?_
        exact And.intro xb0 (DPi ((if_neg c1).trans ((if_pos c2).trans (if_neg c3))))
      · skip
        refine And.intro (fun c4 => ?_) (fun c4 => ?_)
        · skip
          refine hJ 55 _ _ _ ?_
          exact And.intro xb0 (DPi ((if_neg c1).trans ((if_pos c2).trans ((if_pos c3).trans (if_pos c4)))))
        · skip
          refine And.intro (by decide) ?_
          refine CALL_same (r := some (.int (m_X12_isUrchin (Ms.s m) (n / nI 10)))) (h1 := hMs m) (by decide) (c_X12_isUrchin l hf m (n / nI 10)) ?_
          refine And.intro (fun c5 => ?_) (fun c5 => ?_)
          · skip
            refine hJ 55 _ _ _ ?_
            exact And.intro xb0 (DPi ((if_neg c1).trans ((if_pos c2).trans ((if_pos c3).trans ((if_neg c4).trans (if_pos c5))))))
          · skip
            refine And.intro (by decide) ?_
            refine CALL_sub (h' := hMs m) [] (by decide) (c_X12_isFact l hf (n - n / nI 10 * nI 10)) rfl rfl (by decide) (by decide) rfl ?_
            refine And.intro (fun c6 => ?_) (fun c6 => ?_)
            · skip
              refine hJ 55 _ _ _ ?_
              exact And.intro xb0 (DPi ((if_neg c1).trans ((if_pos c2).trans ((if_pos c3).trans ((if_neg c4).trans ((if_neg c5).trans (if_pos c6)))))))
            · skip
              refine hJ 56 _ _ _ ?_
              exact And.intro xb1 (DPi ((if_neg c1).trans ((if_pos c2).trans ((if_pos c3).trans ((if_neg c4).trans ((if_neg c5).trans (if_neg c6)))))))
    · skip
      refine CALL_same (r := some (.int (m_X12_isUrchin (Ms.s m) n))) (h1 := hMs m) (by decide) (c_X12_isUrchin l hf m n) ?_
      refine And.intro (fun c7 => ?_) (fun c7 => ?_)
      · skip
        refine hJ 51 _ _ _ ?_
        refine hJ 56 _ _ _ ?_
        exact And.intro xb1 (DPi ((if_neg c1).trans ((if_neg c2).trans (if_neg c7))))
      · skip
        refine And.intro (fun c8 => ?_) (fun c8 => ?_)
        · skip
          refine hJ 55 _ _ _ ?_
          exact And.intro xb0 (DPi ((if_neg c1).trans ((if_neg c2).trans ((if_pos c7).trans (if_neg c8)))))
        · skip
          refine And.intro (fun c9 => ?_) (fun c9 => ?_)
          · skip
            refine hJ 55 _ _ _ ?_
            exact And.intro xb0 (DPi ((if_neg c1).trans ((if_neg c2).trans ((if_pos c7).trans ((if_pos c8).trans (if_pos c9))))))
          · skip
            refine And.intro (by decide) ?_
            refine CALL_same (r := some (.int (m_X12_isUrchin (Ms.s m) (n / nI 10)))) (h1 := hMs m) (by decide) (c_X12_isUrchin l hf m (n / nI 10)) ?_
            refine And.intro (fun c10 => ?_) (fun c10 => ?_)
            · skip
              refine hJ 55 _ _ _ ?_
              exact And.intro xb0 (DPi ((if_neg c1).trans ((if_neg c2).trans ((if_pos c7).trans ((if_pos c8).trans ((if_neg c9).trans (if_pos c10)))))))
            · skip
              refine And.intro (by decide) ?_
              refine CALL_sub (h' := hMs m) [] (by decide) (c_X12_isFact l hf (n - n / nI 10 * nI 10)) rfl rfl (by decide) (by decide) rfl ?_
              refine And.intro (fun c11 => ?_) (fun c11 => ?_)
              · skip
                refine hJ 55 _ _ _ ?_
                exact And.intro xb0 (DPi ((if_neg c1).trans ((if_neg c2).trans ((if_pos c7).trans ((if_pos c8).trans ((if_neg c9).trans ((if_neg c10).trans (if_pos c11))))))))
              · skip
                refine hJ 56 _ _ _ ?_
                exact And.intro xb1 (DPi ((if_neg c1).trans ((if_neg c2).trans ((if_pos c7).trans ((if_pos c8).trans ((if_neg c9).trans ((if_neg c10).trans (if_neg c11))))))))
def m_X12_plan (m : Ms) (w : Int32) (n : Int32) : Int32 × Ms := if w = (-nI 1) then (nI 0, (Ms.th m, (upd (Ms.s m) (nI 20).toNatClampNeg (nI 0)), Ms.im m, Ms.fr m, Ms.hi m, Ms.ac m, Ms.sp m, Ms.en m, Ms.wr m, Ms.op m, Ms.bb m, Ms.tr m, Ms.su m, Ms.lf m, Ms.lk m, Ms.nx m, Ms.bo m, Ms.ra m, Ms.ki m, Ms.nu m, Ms.tv m)) else (if (m_X12_isPlan (Ms.s m) w n) = 0 then ((-nI 1), m) else (if (Ms.s m (nI 20).toNatClampNeg) = nI 8 then ((-nI 4), m) else (bindv (upd (Ms.s m) (nI 80 + (Ms.s m (nI 20).toNatClampNeg)).toNatClampNeg w) (fun y4_0 => bindv (upd y4_0 (nI 88 + (y4_0 (nI 20).toNatClampNeg)).toNatClampNeg n) (fun y5_0 => (((upd y5_0 (nI 20).toNatClampNeg ((y5_0 (nI 20).toNatClampNeg) + nI 1)) (nI 20).toNatClampNeg), (Ms.th m, (upd y5_0 (nI 20).toNatClampNeg ((y5_0 (nI 20).toNatClampNeg) + nI 1)), Ms.im m, Ms.fr m, Ms.hi m, Ms.ac m, Ms.sp m, Ms.en m, Ms.wr m, Ms.op m, Ms.bb m, Ms.tr m, Ms.su m, Ms.lf m, Ms.lk m, Ms.nx m, Ms.bo m, Ms.ra m, Ms.ki m, Ms.nu m, Ms.tv m)))))))
set_option maxRecDepth 100000 in
set_option maxHeartbeats 4000000 in
theorem c_X12_plan (l : Launch) {fv : Value} (hf : FV fv) (m : Ms) (w : Int32) (n : Int32) (h9 : rl 8 (Ms.s m (nI 20).toNatClampNeg)) : CT l fv 11 jX12_plan [.ref 0, .int w, .int n] (hMs m) (DP (some (.int (m_X12_plan m w n).1)) (hMs ((m_X12_plan m w n).2))) := by
  refine CT_of [57, 73] mt_X12_plan (by decide +kernel) (tab_X12 hf) okX12_plan (Nat.le_of_ble_eq_true rfl) ?_
  intro J hJ hD
  refine hJ 0 _ _ _ ?_
  refine And.intro (fun c1 => ?_) (fun c1 => ?_)
  · skip
    refine hJ 15 _ _ _ ?_
    refine CALL_same (r := some (.int (m_X12_isPlan (Ms.s m) w n))) (h1 := hMs m) (by decide) (c_X12_isPlan l hf m w n) ?_
    refine And.intro (fun c2 => ?_) (fun c2 => ?_)
    · skip
      refine hJ 26 _ _ _ ?_
      refine And.intro (vp_in_nI (by decide) (by decide)) ?_
      refine And.intro (fun c3 => ?_) (fun c3 => ?_)
      · skip
        have hx0 := rl_ne h9 c3 (by decide)
        refine hJ 41 _ _ _ ?_
        refine And.intro (vp_in_nI (by decide) (by decide)) ?_
        refine And.intro (vp_ad 80 hx0 (by decide) (by decide)) ?_
        have K4 : ∀ (y4_0 : Fn), ((upd (Ms.s m) (nI 80 + (Ms.s m (nI 20).toNatClampNeg)).toNatClampNeg w)) = y4_0 → J 57 [(0, .ref 0), (2, .int n)] [] (wMs (Ms.th m) y4_0 (Ms.im m) (Ms.fr m) (Ms.hi m) (Ms.ac m) (Ms.sp m) (Ms.en m) (Ms.wr m) (Ms.op m) (Ms.bb m) (Ms.tr m) (Ms.su m) (Ms.lf m) (Ms.lk m) (Ms.nx m) (Ms.bo m) (Ms.ra m) (Ms.ki m) (Ms.nu m) (Ms.tv m)) := by
          intro y4_0 ey4_0
          have hx1 : vp_in (y4_0 (nI 20).toNatClampNeg) 8 := by rw [← ey4_0, up_other hx0 (by decide) (by decide)]; exact hx0
          refine hJ 57 _ _ _ ?_
          refine And.intro (vp_in_nI (by decide) (by decide)) ?_
          refine And.intro (vp_ad 88 hx1 (by decide) (by decide)) ?_
          have K5 : ∀ (y5_0 : Fn), ((upd y4_0 (nI 88 + (y4_0 (nI 20).toNatClampNeg)).toNatClampNeg n)) = y5_0 → J 73 [(0, .ref 0)] [] (wMs (Ms.th m) y5_0 (Ms.im m) (Ms.fr m) (Ms.hi m) (Ms.ac m) (Ms.sp m) (Ms.en m) (Ms.wr m) (Ms.op m) (Ms.bb m) (Ms.tr m) (Ms.su m) (Ms.lf m) (Ms.lk m) (Ms.nx m) (Ms.bo m) (Ms.ra m) (Ms.ki m) (Ms.nu m) (Ms.tv m)) := by
            intro y5_0 ey5_0
            have hx2 : vp_in (y5_0 (nI 20).toNatClampNeg) 8 := by rw [← ey5_0, up_other hx1 (by decide) (by decide)]; exact hx1
            refine hJ 73 _ _ _ ?_
            refine And.intro (vp_in_nI (by decide) (by decide)) ?_
            refine And.intro (vp_in_nI (by decide) (by decide)) ?_
            refine And.intro (vp_in_nI (by decide) (by decide)) ?_
            exact And.intro True.intro (DPis (F := (fun z => hMs z)) (s' := (Ms.th m, (upd y5_0 (nI 20).toNatClampNeg ((y5_0 (nI 20).toNatClampNeg) + nI 1)), Ms.im m, Ms.fr m, Ms.hi m, Ms.ac m, Ms.sp m, Ms.en m, Ms.wr m, Ms.op m, Ms.bb m, Ms.tr m, Ms.su m, Ms.lf m, Ms.lk m, Ms.nx m, Ms.bo m, Ms.ra m, Ms.ki m, Ms.nu m, Ms.tv m)) ((if_neg c1).trans ((if_neg c2).trans ((if_neg c3).trans ((bindv_eq ey4_0).trans (bindv_eq ey5_0))))))
          exact hD _ _ [0] _ _ (K5 _ rfl)
        exact hD _ _ [0, 2] _ _ (K4 _ rfl)
      · skip
        exact And.intro True.intro (DPis (F := (fun z => hMs z)) (s' := m) ((if_neg c1).trans ((if_neg c2).trans (if_pos c3))))
    · skip
      exact And.intro True.intro (DPis (F := (fun z => hMs z)) (s' := m) ((if_neg c1).trans (if_pos c2)))
  · skip
    refine And.intro (vp_in_nI (by decide) (by decide)) ?_
    exact And.intro True.intro (DPis (F := (fun z => hMs z)) (s' := (Ms.th m, (upd (Ms.s m) (nI 20).toNatClampNeg (nI 0)), Ms.im m, Ms.fr m, Ms.hi m, Ms.ac m, Ms.sp m, Ms.en m, Ms.wr m, Ms.op m, Ms.bb m, Ms.tr m, Ms.su m, Ms.lf m, Ms.lk m, Ms.nx m, Ms.bo m, Ms.ra m, Ms.ki m, Ms.nu m, Ms.tv m)) (if_pos c1))
def m_X12_book (m : Ms) (u : Int32) (x : Int32) : Int32 × Ms := if u = (-nI 1) then (nI 0, (Ms.th m, (upd (Ms.s m) (nI 21).toNatClampNeg (nI 0)), Ms.im m, Ms.fr m, Ms.hi m, Ms.ac m, Ms.sp m, Ms.en m, Ms.wr m, Ms.op m, Ms.bb m, Ms.tr m, Ms.su m, Ms.lf m, Ms.lk m, Ms.nx m, Ms.bo m, Ms.ra m, Ms.ki m, Ms.nu m, Ms.tv m)) else (if (m_X12_isUrchin (Ms.s m) u) = 0 then ((-nI 1), m) else (if (m_X12_in x (nI 0) (nI 255)) = 0 then ((-nI 2), m) else (if (Ms.s m (nI 21).toNatClampNeg) = nI 8 then ((-nI 4), m) else (bindv (upd (Ms.s m) (nI 96 + (Ms.s m (nI 21).toNatClampNeg)).toNatClampNeg u) (fun y5_0 => bindv (upd y5_0 (nI 104 + (y5_0 (nI 21).toNatClampNeg)).toNatClampNeg x) (fun y6_0 => (((upd y6_0 (nI 21).toNatClampNeg ((y6_0 (nI 21).toNatClampNeg) + nI 1)) (nI 21).toNatClampNeg), (Ms.th m, (upd y6_0 (nI 21).toNatClampNeg ((y6_0 (nI 21).toNatClampNeg) + nI 1)), Ms.im m, Ms.fr m, Ms.hi m, Ms.ac m, Ms.sp m, Ms.en m, Ms.wr m, Ms.op m, Ms.bb m, Ms.tr m, Ms.su m, Ms.lf m, Ms.lk m, Ms.nx m, Ms.bo m, Ms.ra m, Ms.ki m, Ms.nu m, Ms.tv m))))))))
set_option maxRecDepth 100000 in
set_option maxHeartbeats 4000000 in
theorem c_X12_book (l : Launch) {fv : Value} (hf : FV fv) (m : Ms) (u : Int32) (x : Int32) (h9 : rl 8 (Ms.s m (nI 21).toNatClampNeg)) : CT l fv 11 jX12_book [.ref 0, .int u, .int x] (hMs m) (DP (some (.int (m_X12_book m u x).1)) (hMs ((m_X12_book m u x).2))) := by
  refine CT_of [70, 86] mt_X12_book (by decide +kernel) (tab_X12 hf) okX12_book (Nat.le_of_ble_eq_true rfl) ?_
  intro J hJ hD
  refine hJ 0 _ _ _ ?_
  refine And.intro (fun c1 => ?_) (fun c1 => ?_)
  · skip
    refine hJ 15 _ _ _ ?_
    refine CALL_same (r := some (.int (m_X12_isUrchin (Ms.s m) u))) (h1 := hMs m) (by decide) (c_X12_isUrchin l hf m u) ?_
    refine And.intro (fun c2 => ?_) (fun c2 => ?_)
    · skip
      refine hJ 25 _ _ _ ?_
      refine CALL_sub (h' := hMs m) [] (by decide) (c_X12_in l hf x (nI 0) (nI 255)) rfl rfl (by decide) (by decide) rfl ?_
      refine And.intro (fun c3 => ?_) (fun c3 => ?_)
      · skip
        refine hJ 39 _ _ _ ?_
        refine And.intro (vp_in_nI (by decide) (by decide)) ?_
        refine And.intro (fun c4 => ?_) (fun c4 => ?_)
        · skip
          have hx0 := rl_ne h9 c4 (by decide)
          refine hJ 54 _ _ _ ?_
          refine And.intro (vp_in_nI (by decide) (by decide)) ?_
          refine And.intro (vp_ad 96 hx0 (by decide) (by decide)) ?_
          have K5 : ∀ (y5_0 : Fn), ((upd (Ms.s m) (nI 96 + (Ms.s m (nI 21).toNatClampNeg)).toNatClampNeg u)) = y5_0 → J 70 [(0, .ref 0), (2, .int x)] [] (wMs (Ms.th m) y5_0 (Ms.im m) (Ms.fr m) (Ms.hi m) (Ms.ac m) (Ms.sp m) (Ms.en m) (Ms.wr m) (Ms.op m) (Ms.bb m) (Ms.tr m) (Ms.su m) (Ms.lf m) (Ms.lk m) (Ms.nx m) (Ms.bo m) (Ms.ra m) (Ms.ki m) (Ms.nu m) (Ms.tv m)) := by
            intro y5_0 ey5_0
            have hx1 : vp_in (y5_0 (nI 21).toNatClampNeg) 8 := by rw [← ey5_0, up_other hx0 (by decide) (by decide)]; exact hx0
            refine hJ 70 _ _ _ ?_
            refine And.intro (vp_in_nI (by decide) (by decide)) ?_
            refine And.intro (vp_ad 104 hx1 (by decide) (by decide)) ?_
            have K6 : ∀ (y6_0 : Fn), ((upd y5_0 (nI 104 + (y5_0 (nI 21).toNatClampNeg)).toNatClampNeg x)) = y6_0 → J 86 [(0, .ref 0)] [] (wMs (Ms.th m) y6_0 (Ms.im m) (Ms.fr m) (Ms.hi m) (Ms.ac m) (Ms.sp m) (Ms.en m) (Ms.wr m) (Ms.op m) (Ms.bb m) (Ms.tr m) (Ms.su m) (Ms.lf m) (Ms.lk m) (Ms.nx m) (Ms.bo m) (Ms.ra m) (Ms.ki m) (Ms.nu m) (Ms.tv m)) := by
              intro y6_0 ey6_0
              have hx2 : vp_in (y6_0 (nI 21).toNatClampNeg) 8 := by rw [← ey6_0, up_other hx1 (by decide) (by decide)]; exact hx1
              refine hJ 86 _ _ _ ?_
              refine And.intro (vp_in_nI (by decide) (by decide)) ?_
              refine And.intro (vp_in_nI (by decide) (by decide)) ?_
              refine And.intro (vp_in_nI (by decide) (by decide)) ?_
              exact And.intro True.intro (DPis (F := (fun z => hMs z)) (s' := (Ms.th m, (upd y6_0 (nI 21).toNatClampNeg ((y6_0 (nI 21).toNatClampNeg) + nI 1)), Ms.im m, Ms.fr m, Ms.hi m, Ms.ac m, Ms.sp m, Ms.en m, Ms.wr m, Ms.op m, Ms.bb m, Ms.tr m, Ms.su m, Ms.lf m, Ms.lk m, Ms.nx m, Ms.bo m, Ms.ra m, Ms.ki m, Ms.nu m, Ms.tv m)) ((if_neg c1).trans ((if_neg c2).trans ((if_neg c3).trans ((if_neg c4).trans ((bindv_eq ey5_0).trans (bindv_eq ey6_0)))))))
            exact hD _ _ [0] _ _ (K6 _ rfl)
          exact hD _ _ [0, 2] _ _ (K5 _ rfl)
        · skip
          exact And.intro True.intro (DPis (F := (fun z => hMs z)) (s' := m) ((if_neg c1).trans ((if_neg c2).trans ((if_neg c3).trans (if_pos c4)))))
      · skip
        exact And.intro True.intro (DPis (F := (fun z => hMs z)) (s' := m) ((if_neg c1).trans ((if_neg c2).trans (if_pos c3))))
    · skip
      exact And.intro True.intro (DPis (F := (fun z => hMs z)) (s' := m) ((if_neg c1).trans (if_pos c2)))
  · skip
    refine And.intro (vp_in_nI (by decide) (by decide)) ?_
    exact And.intro True.intro (DPis (F := (fun z => hMs z)) (s' := (Ms.th m, (upd (Ms.s m) (nI 21).toNatClampNeg (nI 0)), Ms.im m, Ms.fr m, Ms.hi m, Ms.ac m, Ms.sp m, Ms.en m, Ms.wr m, Ms.op m, Ms.bb m, Ms.tr m, Ms.su m, Ms.lf m, Ms.lk m, Ms.nx m, Ms.bo m, Ms.ra m, Ms.ki m, Ms.nu m, Ms.tv m)) (if_pos c1))
def hB (m : Ms) : Prop := Tab 21 8 96 6 (Ms.s m)
/-- a planned row that may be done -/
def PlO (w n : Int32) : Prop := (w = nI 1 ∨ w = nI 2 → vp_in n 6) ∧ (¬ w = nI 0 → ¬ w = nI 1 → ¬ w = nI 2 → vp_in (n / nI 10) 6)
def hL (m : Ms) : Prop := ∃ q, q ≤ 8 ∧ Ms.s m 20 = nI q ∧ ∀ j, j < q → PlO (Ms.s m (80 + j)) (Ms.s m (88 + j))
theorem c20 : (nI 20).toNatClampNeg = 20 := nI_clamp (by decide)
theorem hL.kp {x : Nat} {m m' : Ms} (h : hL m) (k : Kp x m m') (hx : x ≤ 17) : hL m' := by
  obtain ⟨q, h1, h2, h3⟩ := h
  exact ⟨q, h1, by rw [k.1 20 (by omega)]; exact h2, fun j hj => by rw [k.1 (80 + j) (by omega), k.1 (88 + j) (by omega)]; exact h3 j hj⟩
theorem hL.lt {m : Ms} (h : hL m) {k : Nat} {i : Int32} (hi : i = nI k) (hk : k ≤ 8) (g : ¬ Ms.s m (nI 20).toNatClampNeg ≤ i) : k < 8 ∧ PlO (Ms.s m (nI 80 + i).toNatClampNeg) (Ms.s m (nI 88 + i).toNatClampNeg) := by
  obtain ⟨q, h1, h2, h3⟩ := h
  rw [c20, h2, hi, nI_leI (by omega) (by omega)] at g
  refine ⟨by omega, ?_⟩
  rw [hi, nI_add, nI_add, nI_clamp (by omega), nI_clamp (by omega)]
  exact h3 k (by omega)
def l_X12_looked_2 (zs : Fn) : Nat → Int32 → Int32
  | 0, _ => 0
  | n2 + 1, k => if (zs (nI 21).toNatClampNeg) ≤ k then (-nI 5) else (if (zs (nI 1 + (zs (nI 96 + k).toNatClampNeg)).toNatClampNeg) = (zs (nI 104 + k).toNatClampNeg) then l_X12_looked_2 zs n2 (k + nI 1) else k)
theorem q_X12_looked_2 (zs : Fn) (n2 : Nat) (k : Int32) : l_X12_looked_2 zs (n2 + 1) k = (if (zs (nI 21).toNatClampNeg) ≤ k then (-nI 5) else (if (zs (nI 1 + (zs (nI 96 + k).toNatClampNeg)).toNatClampNeg) = (zs (nI 104 + k).toNatClampNeg) then l_X12_looked_2 zs n2 (k + nI 1) else k)) := rfl
def m_X12_looked (zs : Fn) : Int32 := l_X12_looked_2 zs 9 (nI 0)
set_option maxRecDepth 100000 in
set_option maxHeartbeats 4000000 in
theorem c_X12_looked (l : Launch) {fv : Value} (hf : FV fv) (m : Ms) (hw : hB m) : CT l fv 2 jX12_looked [.ref 0] (hMs m) (DP (some (.int (m_X12_looked (Ms.s m)))) (hMs m)) := by
  refine CT_of [2] mt_X12_looked (by decide +kernel) (tab_X12 hf) okX12_looked (Nat.le_of_ble_eq_true rfl) ?_
  intro J hJ hD
  refine hJ 0 _ _ _ ?_
  have L2 : ∀ (n2 : Nat) (k : Int32), (∃ z9 : Nat, z9 ≤ 8 ∧ n2 + z9 = 9 ∧ k = nI z9) → m_X12_looked (Ms.s m) = l_X12_looked_2 (Ms.s m) n2 k → J 2 [(0, .ref 0), (1, .int k)] [] (hMs m) := by
    intro n2
    induction n2 with
    | zero =>
      intro k hv
      obtain ⟨z9, h1, h2, h3⟩ := hv
      omega
    | succ n2 ih2 =>
      intro k hv e2
      obtain ⟨z9, h1, h2, h3⟩ := hv
      refine hJ 2 _ _ _ ?_
      refine And.intro (vp_in_nI (by decide) (by decide)) ?_
      refine And.intro (fun c1 => ?_) (fun c1 => ?_)
      · skip
        refine hJ 49 _ _ _ ?_
        exact And.intro True.intro (DPi (e2.trans ((q_X12_looked_2 (Ms.s m) n2 k).trans (if_pos c1))))
      · skip
        obtain ⟨h4, hr⟩ := hw.lt (by decide) (by decide) h3 (by decide) h1 c1
        have hk := vp_nI h3 h4 (by decide)
        refine And.intro (vp_ad 96 hk (by decide) (by decide)) ?_
        refine And.intro (vp_ad 1 hr (by decide) (by decide)) ?_
        refine And.intro (vp_ad 104 hk (by decide) (by decide)) ?_
        refine And.intro (fun c2 => ?_) (fun c2 => ?_)
        · skip
          refine hJ 43 _ _ _ ?_
          exact hD _ _ [1, 0] _ _ (ih2 _ ⟨z9 + 1, by omega, by omega, by rw [h3]; exact nI_add z9 1⟩ (e2.trans ((q_X12_looked_2 (Ms.s m) n2 k).trans ((if_neg c1).trans (if_pos c2)))))
        · skip
          exact And.intro True.intro (DPi (e2.trans ((q_X12_looked_2 (Ms.s m) n2 k).trans ((if_neg c1).trans (if_neg c2)))))
  exact hD _ _ [1, 0] _ _ (L2 9 _ ⟨0, by decide, by decide, rfl⟩ (rfl))
def m_X12_does (m : Ms) (w : Int32) (n : Int32) : Ms := if w = nI 0 then (bindv (m_X12_goes m) (fun r5 => r5)) else (if w = nI 1 then (Ms.th m, (upd (Ms.s m) (nI 7 + n).toNatClampNeg (nI 1)), Ms.im m, Ms.fr m, Ms.hi m, Ms.ac m, Ms.sp m, Ms.en m, Ms.wr m, Ms.op m, Ms.bb m, Ms.tr m, Ms.su m, Ms.lf m, Ms.lk m, Ms.nx m, Ms.bo m, Ms.ra m, Ms.ki m, Ms.nu m, Ms.tv m) else (if w = nI 2 then (Ms.th m, (upd (Ms.s m) (nI 7 + n).toNatClampNeg (nI 0)), Ms.im m, Ms.fr m, Ms.hi m, Ms.ac m, Ms.sp m, Ms.en m, Ms.wr m, Ms.op m, Ms.bb m, Ms.tr m, Ms.su m, Ms.lf m, Ms.lk m, Ms.nx m, Ms.bo m, Ms.ra m, Ms.ki m, Ms.nu m, Ms.tv m) else (Ms.th m, (upd (Ms.s m) (nI 1 + (n / nI 10)).toNatClampNeg ((Ms.s m (nI 1 + (n / nI 10)).toNatClampNeg) ||| (nI 1 <<< ((n - n / nI 10 * nI 10) &&& 31)))), Ms.im m, Ms.fr m, Ms.hi m, Ms.ac m, Ms.sp m, Ms.en m, Ms.wr m, Ms.op m, Ms.bb m, Ms.tr m, Ms.su m, Ms.lf m, Ms.lk m, Ms.nx m, Ms.bo m, Ms.ra m, Ms.ki m, Ms.nu m, Ms.tv m)))
set_option maxRecDepth 100000 in
set_option maxHeartbeats 4000000 in
theorem c_X12_does (l : Launch) {fv : Value} (hf : FV fv) (m : Ms) (w : Int32) (n : Int32) {B : Nat} (hg : Gd B m) (hB : B ≤ 999999) (hp : PlO w n) : CT l fv 9 jX12_does [.ref 0, .int w, .int n] (hMs m) (DP none (hMs (m_X12_does m w n))) := by
  refine CT_of [] mt_X12_does (by decide +kernel) (tab_X12 hf) okX12_does (Nat.le_of_ble_eq_true rfl) ?_
  intro J hJ hD
  refine hJ 0 _ _ _ ?_
  refine And.intro (fun c1 => ?_) (And.intro (by decide) (And.intro (fun c2 => ?_) (And.intro (fun c3 => ?_) (And.intro (fun c4 => ?_) (True.intro)))))
  · skip
    have hq := hp.2 (sw_ne 0 c1 (by decide) (by decide) (by decide)) (sw_ne 1 c1 (by decide) (by decide) (by decide)) (sw_ne 2 c1 (by decide) (by decide) (by decide))
    refine hJ 61 _ _ _ ?_
    refine And.intro (by decide) ?_
    refine And.intro (vp_ad 1 hq (by decide) (by decide)) ?_
    refine And.intro (by decide) ?_
    refine And.intro (vp_ad 1 hq (by decide) (by decide)) ?_
    exact And.intro rfl (DPs (F := (fun z => hMs z)) (s' := (Ms.th m, (upd (Ms.s m) (nI 1 + (n / nI 10)).toNatClampNeg ((Ms.s m (nI 1 + (n / nI 10)).toNatClampNeg) ||| (nI 1 <<< ((n - n / nI 10 * nI 10) &&& 31)))), Ms.im m, Ms.fr m, Ms.hi m, Ms.ac m, Ms.sp m, Ms.en m, Ms.wr m, Ms.op m, Ms.bb m, Ms.tr m, Ms.su m, Ms.lf m, Ms.lk m, Ms.nx m, Ms.bo m, Ms.ra m, Ms.ki m, Ms.nu m, Ms.tv m)) ((if_neg (sw_ne 0 c1 (by decide) (by decide) (by decide))).trans ((if_neg (sw_ne 1 c1 (by decide) (by decide) (by decide))).trans (if_neg (sw_ne 2 c1 (by decide) (by decide) (by decide))))))
  · skip
    refine hJ 28 _ _ _ ?_
    obtain ⟨r5, er5⟩ : ∃ z : Ms, m_X12_goes m = z := ⟨_, rfl⟩
    have hr5 := c_X12_goes l hf m hg hB
    rw [er5] at hr5
    refine CALL_same (r := none) (h1 := hMs r5) (by decide) (hr5) ?_
    refine hJ 81 _ _ _ ?_
    exact And.intro rfl (DPs (F := (fun z => hMs z)) (s' := r5) ((if_pos (sw_eq 0 c2 rfl (by decide))).trans (bindv_eq er5)))
  · skip
    have hq := hp.1 (Or.inl (sw_eq 1 c3 rfl (by decide)))
    refine hJ 35 _ _ _ ?_
    refine And.intro (vp_ad 7 hq (by decide) (by decide)) ?_
    refine hJ 81 _ _ _ ?_
    exact And.intro rfl (DPs (F := (fun z => hMs z)) (s' := (Ms.th m, (upd (Ms.s m) (nI 7 + n).toNatClampNeg (nI 1)), Ms.im m, Ms.fr m, Ms.hi m, Ms.ac m, Ms.sp m, Ms.en m, Ms.wr m, Ms.op m, Ms.bb m, Ms.tr m, Ms.su m, Ms.lf m, Ms.lk m, Ms.nx m, Ms.bo m, Ms.ra m, Ms.ki m, Ms.nu m, Ms.tv m)) ((if_neg (sw_ot 0 c3 (by decide) (by decide))).trans (if_pos (sw_eq 1 c3 rfl (by decide)))))
  · skip
    have hq := hp.1 (Or.inr (sw_eq 2 c4 rfl (by decide)))
    refine hJ 48 _ _ _ ?_
    refine And.intro (vp_ad 7 hq (by decide) (by decide)) ?_
    refine hJ 81 _ _ _ ?_
    exact And.intro rfl (DPs (F := (fun z => hMs z)) (s' := (Ms.th m, (upd (Ms.s m) (nI 7 + n).toNatClampNeg (nI 0)), Ms.im m, Ms.fr m, Ms.hi m, Ms.ac m, Ms.sp m, Ms.en m, Ms.wr m, Ms.op m, Ms.bb m, Ms.tr m, Ms.su m, Ms.lf m, Ms.lk m, Ms.nx m, Ms.bo m, Ms.ra m, Ms.ki m, Ms.nu m, Ms.tv m)) ((if_neg (sw_ot 0 c4 (by decide) (by decide))).trans ((if_neg (sw_ot 1 c4 (by decide) (by decide))).trans (if_pos (sw_eq 2 c4 rfl (by decide))))))
theorem ef_does {B : Nat} {m : Ms} {w n : Int32} (g : Gd B m) (hp : PlO w n) : Gd (B + 1) (m_X12_does m w n) ∧ Kp 13 m (m_X12_does m w n) ∧ Ms.fr (m_X12_does m w n) = Ms.fr m := by
  unfold m_X12_does bindv
  by_cases c0 : w = nI 0
  · rw [if_pos c0]
    have e := ef_goes g
    exact ⟨e.1, e.2.1.mono (by omega), e.2.2.1⟩
  · rw [if_neg c0]
    by_cases c1 : w = nI 1
    · rw [if_pos c1]
      have hq := hp.1 (Or.inl c1)
      exact ⟨(Gd.fs (a := 13) g (up_lo hq (by decide) (by decide)) (up_0 hq (by decide) (by decide)) (by decide)).mono (by omega), Kp.up _ (up_lo hq (by decide) (by decide)), rfl⟩
    · rw [if_neg c1]
      by_cases c2 : w = nI 2
      · rw [if_pos c2]
        have hq := hp.1 (Or.inr c2)
        exact ⟨(Gd.fs (a := 13) g (up_lo hq (by decide) (by decide)) (up_0 hq (by decide) (by decide)) (by decide)).mono (by omega), Kp.up _ (up_lo hq (by decide) (by decide)), rfl⟩
      · rw [if_neg c2]
        have hq := hp.2 c0 c1 c2
        exact ⟨(Gd.fs (a := 13) g (up_lo hq (by decide) (by decide)) (up_0 hq (by decide) (by decide)) (by decide)).mono (by omega), Kp.up _ (up_lo hq (by decide) (by decide)), rfl⟩
theorem ef_does_r {B : Nat} {m r : Ms} {w n : Int32} (e : m_X12_does m w n = r) (g : Gd B m) (hp : PlO w n) : Gd (B + 1) r ∧ Kp 13 m r ∧ Ms.fr r = Ms.fr m := by rw [← e]; exact ef_does g hp
def l_X12_done_21 (m : Ms) (w : Int32) (r2 : Ms) (r3 : Ms) : Nat → Int32 → Ms → Int32 × Ms
  | 0, _, _ => (0, m)
  | n21 + 1, k, m1 => if (Ms.s m1 (nI 20).toNatClampNeg) ≤ k then (if w = 0 then (bindv (m_X12_goesBack m1) (fun r7 => ((m_X12_knownByAny (Ms.s m1)), r7))) else (bindv (m_X12_goesBack m1) (fun r6 => ((m_X12_heldByAll (Ms.s m1)), r6)))) else (bindv (m_X12_does m1 (Ms.s m1 (nI 80 + k).toNatClampNeg) (Ms.s m1 (nI 88 + k).toNatClampNeg)) (fun r8 => l_X12_done_21 m w r2 r3 n21 (k + nI 1) r8))
theorem q_X12_done_21 (m : Ms) (w : Int32) (r2 : Ms) (r3 : Ms) (n21 : Nat) (k : Int32) (m1 : Ms) : l_X12_done_21 m w r2 r3 (n21 + 1) k m1 = (if (Ms.s m1 (nI 20).toNatClampNeg) ≤ k then (if w = 0 then (bindv (m_X12_goesBack m1) (fun r7 => ((m_X12_knownByAny (Ms.s m1)), r7))) else (bindv (m_X12_goesBack m1) (fun r6 => ((m_X12_heldByAll (Ms.s m1)), r6)))) else (bindv (m_X12_does m1 (Ms.s m1 (nI 80 + k).toNatClampNeg) (Ms.s m1 (nI 88 + k).toNatClampNeg)) (fun r8 => l_X12_done_21 m w r2 r3 n21 (k + nI 1) r8))) := rfl
def m_X12_done (m : Ms) (w : Int32) : Int32 × Ms := if (m_X12_in w (nI 0) (nI 1)) = 0 then ((-nI 1), m) else (bindv (m_X12_looksAnew m) (fun r2 => bindv (m_X12_keeps r2) (fun r3 => l_X12_done_21 m w r2 r3 9 (nI 0) r3)))
set_option maxRecDepth 100000 in
set_option maxHeartbeats 4000000 in
theorem c_X12_done (l : Launch) {fv : Value} (hf : FV fv) (m : Ms) (w : Int32) (hg : Gd 9999 m) (hw : hL m) : CT l fv 10 jX12_done [.ref 0, .int w] (hMs m) (DP (some (.int (m_X12_done m w).1)) (hMs ((m_X12_done m w).2))) := by
  refine CT_of [21] mt_X12_done (by decide +kernel) (tab_X12 hf) okX12_done (Nat.le_of_ble_eq_true rfl) ?_
  intro J hJ hD
  refine hJ 0 _ _ _ ?_
  refine CALL_sub (h' := hMs m) [] (by decide) (c_X12_in l hf w (nI 0) (nI 1)) rfl rfl (by decide) (by decide) rfl ?_
  refine And.intro (fun c1 => ?_) (fun c1 => ?_)
  · skip
    refine hJ 11 _ _ _ ?_
    obtain ⟨r2, er2⟩ : ∃ z : Ms, m_X12_looksAnew m = z := ⟨_, rfl⟩
    have hr2 := c_X12_looksAnew l hf m
    rw [er2] at hr2
    have h1 := hg.k0 (ef_looksAnew m).1; rw [er2] at h1
    have w1 := hw.kp (ef_looksAnew m).1 (by decide); rw [er2] at w1
    refine CALL_same (r := none) (h1 := hMs r2) (by decide) (hr2) ?_
    obtain ⟨r3, er3⟩ : ∃ z : Ms, m_X12_keeps r2 = z := ⟨_, rfl⟩
    have hr3 := c_X12_keeps l hf r2
    rw [er3] at hr3
    have h2 := h1.k0 (ef_keeps _).1; rw [er3] at h2
    have w2 := w1.kp (ef_keeps _).1 (by decide); rw [er3] at w2
    refine CALL_same (r := none) (h1 := hMs r3) (by decide) (hr3) ?_
    have L21 : ∀ (n21 : Nat) (k : Int32) (m1 : Ms), (∃ z9 : Nat, z9 ≤ 8 ∧ n21 + z9 = 9 ∧ k = nI z9 ∧ Gd (9999 + z9) m1 ∧ hL m1) → m_X12_done m w = l_X12_done_21 m w r2 r3 n21 k m1 → J 21 [(0, .ref 0), (1, .int w), (2, .int k)] [] (hMs m1) := by
      intro n21
      induction n21 with
      | zero =>
        intro k m1 hv
        obtain ⟨z9, h1, h2, h3, h5, h7⟩ := hv
        omega
      | succ n21 ih21 =>
        intro k m1 hv e21
        obtain ⟨z9, h1, h2, h3, h5, h7⟩ := hv
        refine hJ 21 _ _ _ ?_
        refine And.intro (vp_in_nI (by decide) (by decide)) ?_
        refine And.intro (fun c4 => ?_) (fun c4 => ?_)
        · skip
          refine hJ 60 _ _ _ ?_
          refine And.intro (fun c5 => ?_) (fun c5 => ?_)
          · skip
            refine hJ 71 _ _ _ ?_
            refine CALL_same (r := some (.int (m_X12_heldByAll (Ms.s m1)))) (h1 := hMs m1) (by decide) (c_X12_heldByAll l hf m1 h5.2.1) ?_
            obtain ⟨r6, er6⟩ : ∃ z : Ms, m_X12_goesBack m1 = z := ⟨_, rfl⟩
            have hr6 := c_X12_goesBack l hf m1
            rw [er6] at hr6
            refine CALL_same (r := none) (h1 := hMs r6) (by decide) (hr6) ?_
            exact And.intro True.intro (DPis (F := (fun z => hMs z)) (s' := r6) (e21.trans ((q_X12_done_21 m w r2 r3 n21 k m1).trans ((if_pos c4).trans ((if_neg c5).trans (bindv_eq er6))))))
          · skip
            refine CALL_same (r := some (.int (m_X12_knownByAny (Ms.s m1)))) (h1 := hMs m1) (by decide) (c_X12_knownByAny l hf m1 h5.2.1) ?_
            refine hJ 75 _ _ _ ?_
            obtain ⟨r7, er7⟩ : ∃ z : Ms, m_X12_goesBack m1 = z := ⟨_, rfl⟩
            have hr7 := c_X12_goesBack l hf m1
            rw [er7] at hr7
            refine CALL_same (r := none) (h1 := hMs r7) (by decide) (hr7) ?_
            exact And.intro True.intro (DPis (F := (fun z => hMs z)) (s' := r7) (e21.trans ((q_X12_done_21 m w r2 r3 n21 k m1).trans ((if_pos c4).trans ((if_pos c5).trans (bindv_eq er7))))))
        · skip
          obtain ⟨h4, hr⟩ := h7.lt h3 h1 c4
          have hk := vp_nI h3 h4 (by decide)
          refine And.intro (vp_ad 80 hk (by decide) (by decide)) ?_
          refine And.intro (vp_ad 88 hk (by decide) (by decide)) ?_
          obtain ⟨r8, er8⟩ : ∃ z : Ms, m_X12_does m1 (Ms.s m1 (nI 80 + k).toNatClampNeg) (Ms.s m1 (nI 88 + k).toNatClampNeg) = z := ⟨_, rfl⟩
          have hr8 := c_X12_does l hf m1 (Ms.s m1 (nI 80 + k).toNatClampNeg) (Ms.s m1 (nI 88 + k).toNatClampNeg) h5 (by omega) hr
          rw [er8] at hr8
          have h6 := ef_does_r er8 h5 hr
          refine CALL_same (r := none) (h1 := hMs r8) (by decide) (hr8) ?_
          exact hD _ _ [1, 2, 0] _ _ (ih21 _ _ ⟨z9 + 1, by omega, by omega, by rw [h3]; exact nI_add z9 1, h6.1, h7.kp h6.2.1 (by decide)⟩ (e21.trans ((q_X12_done_21 m w r2 r3 n21 k m1).trans ((if_neg c4).trans (bindv_eq er8)))))
    exact hD _ _ [1, 2, 0] _ _ (L21 9 _ _ ⟨0, by decide, by decide, rfl, h2, w2⟩ ((if_neg c1).trans ((bindv_eq er2).trans (bindv_eq er3))))
  · skip
    exact And.intro True.intro (DPis (F := (fun z => hMs z)) (s' := m) (if_pos c1))

/-! printed by wip/whole/gen/specs31.py: sums of the model -/
def l_X12_clausesOf_96 (m : Ms) (p : Int32) (f : Int32) (many : Int32) (tide : Int32) : Nat → Int32 → Int32 → Int32 → Fn → Int32 × Ms
  | 0, _, _, _, _ => (0, m)
  | n96 + 1, sum, top, i, tr => if ((nI 227 + (nI 140 * (Ms.s m (nI 23).toNatClampNeg))) + (m_X12_tellsOf (Ms.s m) (nI 222) (nI 0))) ≤ i then (sum, (Ms.th m, Ms.s m, Ms.im m, Ms.fr m, Ms.hi m, Ms.ac m, Ms.sp m, Ms.en m, Ms.wr m, Ms.op m, (upd (upd (upd (upd (upd (upd (Ms.bb m) (nI 0).toNatClampNeg p) (nI 1).toNatClampNeg (Ms.s m (nI 24 + p).toNatClampNeg)) (nI 2).toNatClampNeg (Ms.s m (nI 30 + p).toNatClampNeg)) (nI 3).toNatClampNeg f) (nI 4).toNatClampNeg many) (nI 5).toNatClampNeg tide), tr, Ms.su m, Ms.lf m, Ms.lk m, Ms.nx m, Ms.bo m, Ms.ra m, Ms.ki m, Ms.nu m, Ms.tv m)) else (if (Ms.s m i.toNatClampNeg) < 0 then (if (Ms.s m i.toNatClampNeg) = (-nI 1) then (bindv (if (tr (top - nI 1).toNatClampNeg) = 0 then (nI 1) else (nI 0)) (fun x17_0 => l_X12_clausesOf_96 m p f many tide n96 sum top (i + nI 1) (upd tr (top - nI 1).toNatClampNeg (vp_nar .boolean x17_0)))) else (if (Ms.s m i.toNatClampNeg) ≤ (-nI 10) then (bindv (if (tr (nI 0).toNatClampNeg) = 0 then (nI 0) else (if (Ms.s m i.toNatClampNeg) ≤ (-nI 200) then (nI 0) else ((-nI 10) - (Ms.s m i.toNatClampNeg)))) (fun x5_0 => bindv (if (tr (nI 0).toNatClampNeg) = 0 then (nI 0) else (if (-nI 200) < (Ms.s m i.toNatClampNeg) then (nI 0) else ((-nI 200) - (Ms.s m i.toNatClampNeg)))) (fun x6_0 => l_X12_clausesOf_96 m p f many tide n96 ((sum + x5_0) - x6_0) (nI 0) (i + nI 1) tr))) else (bindv (if (Ms.s m i.toNatClampNeg) = (-nI 2) then (if (tr ((top + (-nI 1)) - nI 1).toNatClampNeg) = 0 then (nI 0) else (if (tr (top + (-nI 1)).toNatClampNeg) = 0 then (nI 0) else (nI 1))) else (if (tr ((top + (-nI 1)) - nI 1).toNatClampNeg) = 0 then (if (tr (top + (-nI 1)).toNatClampNeg) = 0 then (nI 0) else (nI 1)) else (nI 1))) (fun x11_0 => l_X12_clausesOf_96 m p f many tide n96 sum (top + (-nI 1)) (i + nI 1) (upd tr ((top + (-nI 1)) - nI 1).toNatClampNeg (vp_nar .boolean x11_0)))))) else (bindv (if (((Ms.s m i.toNatClampNeg) / nI 8) - ((Ms.s m i.toNatClampNeg) / nI 8) / nI 4 * nI 4) = 0 then (if ((Ms.s m i.toNatClampNeg) / nI 32) ≤ ((upd (upd (upd (upd (upd (upd (Ms.bb m) (nI 0).toNatClampNeg p) (nI 1).toNatClampNeg (Ms.s m (nI 24 + p).toNatClampNeg)) (nI 2).toNatClampNeg (Ms.s m (nI 30 + p).toNatClampNeg)) (nI 3).toNatClampNeg f) (nI 4).toNatClampNeg many) (nI 5).toNatClampNeg tide) ((Ms.s m i.toNatClampNeg) - (Ms.s m i.toNatClampNeg) / nI 8 * nI 8).toNatClampNeg) then (nI 0) else (nI 1)) else (if (((Ms.s m i.toNatClampNeg) / nI 8) - ((Ms.s m i.toNatClampNeg) / nI 8) / nI 4 * nI 4) = nI 1 then (if ((upd (upd (upd (upd (upd (upd (Ms.bb m) (nI 0).toNatClampNeg p) (nI 1).toNatClampNeg (Ms.s m (nI 24 + p).toNatClampNeg)) (nI 2).toNatClampNeg (Ms.s m (nI 30 + p).toNatClampNeg)) (nI 3).toNatClampNeg f) (nI 4).toNatClampNeg many) (nI 5).toNatClampNeg tide) ((Ms.s m i.toNatClampNeg) - (Ms.s m i.toNatClampNeg) / nI 8 * nI 8).toNatClampNeg) = ((Ms.s m i.toNatClampNeg) / nI 32) then (nI 1) else (nI 0)) else (if ((upd (upd (upd (upd (upd (upd (Ms.bb m) (nI 0).toNatClampNeg p) (nI 1).toNatClampNeg (Ms.s m (nI 24 + p).toNatClampNeg)) (nI 2).toNatClampNeg (Ms.s m (nI 30 + p).toNatClampNeg)) (nI 3).toNatClampNeg f) (nI 4).toNatClampNeg many) (nI 5).toNatClampNeg tide) ((Ms.s m i.toNatClampNeg) - (Ms.s m i.toNatClampNeg) / nI 8 * nI 8).toNatClampNeg) ≤ ((Ms.s m i.toNatClampNeg) / nI 32) then (nI 0) else (nI 1)))) (fun x19_0 => l_X12_clausesOf_96 m p f many tide n96 sum (top + nI 1) (i + nI 1) (upd tr top.toNatClampNeg (vp_nar .boolean x19_0)))))
theorem q_X12_clausesOf_96 (m : Ms) (p : Int32) (f : Int32) (many : Int32) (tide : Int32) (n96 : Nat) (sum : Int32) (top : Int32) (i : Int32) (tr : Fn) : l_X12_clausesOf_96 m p f many tide (n96 + 1) sum top i tr = (if ((nI 227 + (nI 140 * (Ms.s m (nI 23).toNatClampNeg))) + (m_X12_tellsOf (Ms.s m) (nI 222) (nI 0))) ≤ i then (sum, (Ms.th m, Ms.s m, Ms.im m, Ms.fr m, Ms.hi m, Ms.ac m, Ms.sp m, Ms.en m, Ms.wr m, Ms.op m, (upd (upd (upd (upd (upd (upd (Ms.bb m) (nI 0).toNatClampNeg p) (nI 1).toNatClampNeg (Ms.s m (nI 24 + p).toNatClampNeg)) (nI 2).toNatClampNeg (Ms.s m (nI 30 + p).toNatClampNeg)) (nI 3).toNatClampNeg f) (nI 4).toNatClampNeg many) (nI 5).toNatClampNeg tide), tr, Ms.su m, Ms.lf m, Ms.lk m, Ms.nx m, Ms.bo m, Ms.ra m, Ms.ki m, Ms.nu m, Ms.tv m)) else (if (Ms.s m i.toNatClampNeg) < 0 then (if (Ms.s m i.toNatClampNeg) = (-nI 1) then (bindv (if (tr (top - nI 1).toNatClampNeg) = 0 then (nI 1) else (nI 0)) (fun x17_0 => l_X12_clausesOf_96 m p f many tide n96 sum top (i + nI 1) (upd tr (top - nI 1).toNatClampNeg (vp_nar .boolean x17_0)))) else (if (Ms.s m i.toNatClampNeg) ≤ (-nI 10) then (bindv (if (tr (nI 0).toNatClampNeg) = 0 then (nI 0) else (if (Ms.s m i.toNatClampNeg) ≤ (-nI 200) then (nI 0) else ((-nI 10) - (Ms.s m i.toNatClampNeg)))) (fun x5_0 => bindv (if (tr (nI 0).toNatClampNeg) = 0 then (nI 0) else (if (-nI 200) < (Ms.s m i.toNatClampNeg) then (nI 0) else ((-nI 200) - (Ms.s m i.toNatClampNeg)))) (fun x6_0 => l_X12_clausesOf_96 m p f many tide n96 ((sum + x5_0) - x6_0) (nI 0) (i + nI 1) tr))) else (bindv (if (Ms.s m i.toNatClampNeg) = (-nI 2) then (if (tr ((top + (-nI 1)) - nI 1).toNatClampNeg) = 0 then (nI 0) else (if (tr (top + (-nI 1)).toNatClampNeg) = 0 then (nI 0) else (nI 1))) else (if (tr ((top + (-nI 1)) - nI 1).toNatClampNeg) = 0 then (if (tr (top + (-nI 1)).toNatClampNeg) = 0 then (nI 0) else (nI 1)) else (nI 1))) (fun x11_0 => l_X12_clausesOf_96 m p f many tide n96 sum (top + (-nI 1)) (i + nI 1) (upd tr ((top + (-nI 1)) - nI 1).toNatClampNeg (vp_nar .boolean x11_0)))))) else (bindv (if (((Ms.s m i.toNatClampNeg) / nI 8) - ((Ms.s m i.toNatClampNeg) / nI 8) / nI 4 * nI 4) = 0 then (if ((Ms.s m i.toNatClampNeg) / nI 32) ≤ ((upd (upd (upd (upd (upd (upd (Ms.bb m) (nI 0).toNatClampNeg p) (nI 1).toNatClampNeg (Ms.s m (nI 24 + p).toNatClampNeg)) (nI 2).toNatClampNeg (Ms.s m (nI 30 + p).toNatClampNeg)) (nI 3).toNatClampNeg f) (nI 4).toNatClampNeg many) (nI 5).toNatClampNeg tide) ((Ms.s m i.toNatClampNeg) - (Ms.s m i.toNatClampNeg) / nI 8 * nI 8).toNatClampNeg) then (nI 0) else (nI 1)) else (if (((Ms.s m i.toNatClampNeg) / nI 8) - ((Ms.s m i.toNatClampNeg) / nI 8) / nI 4 * nI 4) = nI 1 then (if ((upd (upd (upd (upd (upd (upd (Ms.bb m) (nI 0).toNatClampNeg p) (nI 1).toNatClampNeg (Ms.s m (nI 24 + p).toNatClampNeg)) (nI 2).toNatClampNeg (Ms.s m (nI 30 + p).toNatClampNeg)) (nI 3).toNatClampNeg f) (nI 4).toNatClampNeg many) (nI 5).toNatClampNeg tide) ((Ms.s m i.toNatClampNeg) - (Ms.s m i.toNatClampNeg) / nI 8 * nI 8).toNatClampNeg) = ((Ms.s m i.toNatClampNeg) / nI 32) then (nI 1) else (nI 0)) else (if ((upd (upd (upd (upd (upd (upd (Ms.bb m) (nI 0).toNatClampNeg p) (nI 1).toNatClampNeg (Ms.s m (nI 24 + p).toNatClampNeg)) (nI 2).toNatClampNeg (Ms.s m (nI 30 + p).toNatClampNeg)) (nI 3).toNatClampNeg f) (nI 4).toNatClampNeg many) (nI 5).toNatClampNeg tide) ((Ms.s m i.toNatClampNeg) - (Ms.s m i.toNatClampNeg) / nI 8 * nI 8).toNatClampNeg) ≤ ((Ms.s m i.toNatClampNeg) / nI 32) then (nI 0) else (nI 1)))) (fun x19_0 => l_X12_clausesOf_96 m p f many tide n96 sum (top + nI 1) (i + nI 1) (upd tr top.toNatClampNeg (vp_nar .boolean x19_0)))))) := rfl
def m_X12_clausesOf (m : Ms) (p : Int32) (f : Int32) (many : Int32) (tide : Int32) : Int32 × Ms := l_X12_clausesOf_96 m p f many tide 1000 (nI 3) (nI 0) (nI 227 + (nI 140 * (Ms.s m (nI 23).toNatClampNeg))) (Ms.tr m)
set_option maxRecDepth 100000 in
set_option maxHeartbeats 4000000 in
theorem c_X12_clausesOf (l : Launch) {fv : Value} (hf : FV fv) (m : Ms) (p : Int32) (f : Int32) (many : Int32) (tide : Int32) (hp : vp_in p 6) (hh : hH m) (hs : hS m) : CT l fv 2 jX12_clausesOf [.ref 0, .int p, .int f, .int many, .int tide] (hMs m) (DP (some (.int (m_X12_clausesOf m p f many tide).1)) (hMs ((m_X12_clausesOf m p f many tide).2))) := by
  refine CT_of [96, 207, 245, 331, 370, 398] mt_X12_clausesOf (by decide +kernel) (tab_X12 hf) okX12_clausesOf (Nat.le_of_ble_eq_true rfl) ?_
  intro J hJ hD
  refine hJ 0 _ _ _ ?_
  refine And.intro (vp_in_nI (by decide) (by decide)) ?_
  refine And.intro (vp_ad 24 hp (by decide) (by decide)) ?_
  refine And.intro (vp_in_nI (by decide) (by decide)) ?_
  refine And.intro (vp_ad 30 hp (by decide) (by decide)) ?_
  refine And.intro (vp_in_nI (by decide) (by decide)) ?_
  refine And.intro (vp_in_nI (by decide) (by decide)) ?_
  refine And.intro (vp_in_nI (by decide) (by decide)) ?_
  refine And.intro (vp_in_nI (by decide) (by decide)) ?_
  refine CALL_same (r := some (.int (m_X12_tellsOf (Ms.s m) (nI 222) (nI 0)))) (h1 := wMs (Ms.th m) (Ms.s m) (Ms.im m) (Ms.fr m) (Ms.hi m) (Ms.ac m) (Ms.sp m) (Ms.en m) (Ms.wr m) (Ms.op m) (upd (upd (upd (upd (upd (upd (Ms.bb m) (nI 0).toNatClampNeg p) (nI 1).toNatClampNeg (Ms.s m (nI 24 + p).toNatClampNeg)) (nI 2).toNatClampNeg (Ms.s m (nI 30 + p).toNatClampNeg)) (nI 3).toNatClampNeg f) (nI 4).toNatClampNeg many) (nI 5).toNatClampNeg tide) (Ms.tr m) (Ms.su m) (Ms.lf m) (Ms.lk m) (Ms.nx m) (Ms.bo m) (Ms.ra m) (Ms.ki m) (Ms.nu m) (Ms.tv m)) (by decide) (c_X12_tellsOf l hf (Ms.th m, Ms.s m, Ms.im m, Ms.fr m, Ms.hi m, Ms.ac m, Ms.sp m, Ms.en m, Ms.wr m, Ms.op m, (upd (upd (upd (upd (upd (upd (Ms.bb m) (nI 0).toNatClampNeg p) (nI 1).toNatClampNeg (Ms.s m (nI 24 + p).toNatClampNeg)) (nI 2).toNatClampNeg (Ms.s m (nI 30 + p).toNatClampNeg)) (nI 3).toNatClampNeg f) (nI 4).toNatClampNeg many) (nI 5).toNatClampNeg tide), Ms.tr m, Ms.su m, Ms.lf m, Ms.lk m, Ms.nx m, Ms.bo m, Ms.ra m, Ms.ki m, Ms.nu m, Ms.tv m) (nI 222) (nI 0) (fun c => hH_ad hh 222 (by decide) c)) ?_
  refine And.intro (vp_in_nI (by decide) (by decide)) ?_
  have L96 : ∀ (n96 : Nat) (sum : Int32) (top : Int32) (i : Int32) (tr : Fn), (∃ (F n j : Nat) (dp : Nat → Nat), (nI 227 + (nI 140 * (Ms.s m (nI 23).toNatClampNeg))) = nI F ∧ m_X12_tellsOf (Ms.s m) (nI 222) (nI 0) = nI n ∧ F + n ≤ 927 ∧ RPs (fun j => Ms.s m (F + j)) n dp ∧ n96 + j = 1000 ∧ j ≤ n ∧ i = nI (F + j) ∧ top = nI (dp j)) → m_X12_clausesOf m p f many tide = l_X12_clausesOf_96 m p f many tide n96 sum top i tr → J 96 [(0, .ref 0), (5, .int sum), (6, .int (m_X12_tellsOf (Ms.s m) (nI 222) (nI 0))), (7, .int (nI 227 + (nI 140 * (Ms.s m (nI 23).toNatClampNeg)))), (8, .int top), (9, .int i)] [] (wMs (Ms.th m) (Ms.s m) (Ms.im m) (Ms.fr m) (Ms.hi m) (Ms.ac m) (Ms.sp m) (Ms.en m) (Ms.wr m) (Ms.op m) (upd (upd (upd (upd (upd (upd (Ms.bb m) (nI 0).toNatClampNeg p) (nI 1).toNatClampNeg (Ms.s m (nI 24 + p).toNatClampNeg)) (nI 2).toNatClampNeg (Ms.s m (nI 30 + p).toNatClampNeg)) (nI 3).toNatClampNeg f) (nI 4).toNatClampNeg many) (nI 5).toNatClampNeg tide) tr (Ms.su m) (Ms.lf m) (Ms.lk m) (Ms.nx m) (Ms.bo m) (Ms.ra m) (Ms.ki m) (Ms.nu m) (Ms.tv m)) := by
    intro n96
    induction n96 with
    | zero =>
      intro sum top i tr hv
      obtain ⟨F, n, j, dp, g1, g2, g3, g4, g5, g6, g7, g8⟩ := hv
      omega
    | succ n96 ih96 =>
      intro sum top i tr hv e96
      obtain ⟨F, n, j, dp, g1, g2, g3, g4, g5, g6, g7, g8⟩ := hv
      refine hJ 96 _ _ _ ?_
      refine And.intro (fun c1 => ?_) (fun c1 => ?_)
      · skip
        refine hJ 407 _ _ _ ?_
        exact And.intro True.intro (DPis (F := (fun z => hMs z)) (s' := (Ms.th m, Ms.s m, Ms.im m, Ms.fr m, Ms.hi m, Ms.ac m, Ms.sp m, Ms.en m, Ms.wr m, Ms.op m, (upd (upd (upd (upd (upd (upd (Ms.bb m) (nI 0).toNatClampNeg p) (nI 1).toNatClampNeg (Ms.s m (nI 24 + p).toNatClampNeg)) (nI 2).toNatClampNeg (Ms.s m (nI 30 + p).toNatClampNeg)) (nI 3).toNatClampNeg f) (nI 4).toNatClampNeg many) (nI 5).toNatClampNeg tide), tr, Ms.su m, Ms.lf m, Ms.lk m, Ms.nx m, Ms.bo m, Ms.ra m, Ms.ki m, Ms.nu m, Ms.tv m)) (e96.trans ((q_X12_clausesOf_96 m p f many tide n96 sum top i tr).trans (if_pos c1))))
      · skip
        have c0 : ¬ (nI 227 + (nI 140 * (Ms.s m (nI 23).toNatClampNeg))) + m_X12_tellsOf (Ms.s m) (nI 222) (nI 0) ≤ i := c1
        rw [g1, g2] at c0
        have hj := lt_of_cond g7 g3 g6 c0
        obtain ⟨ti, tt, t0, t1, t2, t3⟩ := RP_step g4 hj g3 g7 g8
        refine And.intro (ti) ?_
        refine And.intro (fun c2 => ?_) (fun c2 => ?_)
        · skip
          refine hJ 214 _ _ _ ?_
          refine And.intro (fun c3 => ?_) (fun c3 => ?_)
          · skip
            refine hJ 249 _ _ _ ?_
            refine And.intro (fun c4 => ?_) (fun c4 => ?_)
            · skip
              refine hJ 335 _ _ _ ?_
              refine And.intro (vp_in_nI (by decide) (by decide)) ?_
              have K5 : ∀ (x5_0 : Int32), (if (tr (nI 0).toNatClampNeg) = 0 then (nI 0) else (if (Ms.s m i.toNatClampNeg) ≤ (-nI 200) then (nI 0) else ((-nI 10) - (Ms.s m i.toNatClampNeg)))) = x5_0 → J 370 [(0, .ref 0), (6, .int (m_X12_tellsOf (Ms.s m) (nI 222) (nI 0))), (7, .int (nI 227 + (nI 140 * (Ms.s m (nI 23).toNatClampNeg)))), (8, .int (nI 0)), (9, .int i), (10, .int (Ms.s m i.toNatClampNeg)), (11, .int (tr (nI 0).toNatClampNeg))] [.int x5_0, .int sum] (wMs (Ms.th m) (Ms.s m) (Ms.im m) (Ms.fr m) (Ms.hi m) (Ms.ac m) (Ms.sp m) (Ms.en m) (Ms.wr m) (Ms.op m) (upd (upd (upd (upd (upd (upd (Ms.bb m) (nI 0).toNatClampNeg p) (nI 1).toNatClampNeg (Ms.s m (nI 24 + p).toNatClampNeg)) (nI 2).toNatClampNeg (Ms.s m (nI 30 + p).toNatClampNeg)) (nI 3).toNatClampNeg f) (nI 4).toNatClampNeg many) (nI 5).toNatClampNeg tide) tr (Ms.su m) (Ms.lf m) (Ms.lk m) (Ms.nx m) (Ms.bo m) (Ms.ra m) (Ms.ki m) (Ms.nu m) (Ms.tv m)) := by
                intro x5_0 ex5_0
                refine hJ 370 _ _ _ ?_
                have K6 : ∀ (x6_0 : Int32), (if (tr (nI 0).toNatClampNeg) = 0 then (nI 0) else (if (-nI 200) < (Ms.s m i.toNatClampNeg) then (nI 0) else ((-nI 200) - (Ms.s m i.toNatClampNeg)))) = x6_0 → J 398 [(0, .ref 0), (6, .int (m_X12_tellsOf (Ms.s m) (nI 222) (nI 0))), (7, .int (nI 227 + (nI 140 * (Ms.s m (nI 23).toNatClampNeg)))), (8, .int (nI 0)), (9, .int i)] [.int x6_0, .int (sum + x5_0)] (wMs (Ms.th m) (Ms.s m) (Ms.im m) (Ms.fr m) (Ms.hi m) (Ms.ac m) (Ms.sp m) (Ms.en m) (Ms.wr m) (Ms.op m) (upd (upd (upd (upd (upd (upd (Ms.bb m) (nI 0).toNatClampNeg p) (nI 1).toNatClampNeg (Ms.s m (nI 24 + p).toNatClampNeg)) (nI 2).toNatClampNeg (Ms.s m (nI 30 + p).toNatClampNeg)) (nI 3).toNatClampNeg f) (nI 4).toNatClampNeg many) (nI 5).toNatClampNeg tide) tr (Ms.su m) (Ms.lf m) (Ms.lk m) (Ms.nx m) (Ms.bo m) (Ms.ra m) (Ms.ki m) (Ms.nu m) (Ms.tv m)) := by
                  intro x6_0 ex6_0
                  refine hJ 398 _ _ _ ?_
                  exact hD _ _ [2, 1, 3, 4, 5, 0] _ _ (ih96 _ _ _ _ ⟨F, n, j + 1, dp, g1, g2, g3, g4, by omega, by omega, by rw [g7]; exact nI_add (F + j) 1, by first | with_reducible exact (t0 (by assumption)).2 | with_reducible exact (t1 (by assumption)).2 | with_reducible exact (t2 (by assumption) (by assumption) (by assumption)).2.2 | with_reducible exact t3 (by assumption)⟩ (e96.trans ((q_X12_clausesOf_96 m p f many tide n96 sum top i tr).trans ((if_neg c1).trans ((if_pos c2).trans ((if_neg c3).trans ((if_pos c4).trans ((bindv_eq ex5_0).trans (bindv_eq ex6_0)))))))))
                refine And.intro (fun c7 => ?_) (fun c7 => ?_)
                · skip
                  refine hJ 397 _ _ _ ?_
                  exact hD _ _ [1, 2, 3, 4, 5] _ _ (K6 _ (if_pos c7))
                · skip
                  refine And.intro (fun c8 => ?_) (fun c8 => ?_)
                  · skip
                    refine hJ 397 _ _ _ ?_
                    exact hD _ _ [1, 2, 3, 4, 5] _ _ (K6 _ ((if_neg c7).trans (if_pos c8)))
                  · skip
                    exact hD _ _ [1, 2, 3, 4, 5] _ _ (K6 _ ((if_neg c7).trans (if_neg c8)))
              refine And.intro (fun c9 => ?_) (fun c9 => ?_)
              · skip
                refine hJ 369 _ _ _ ?_
                exact hD _ _ [3, 5, 6, 1, 7, 2, 0] _ _ (K5 _ (if_pos c9))
              · skip
                refine And.intro (fun c10 => ?_) (fun c10 => ?_)
                · skip
                  refine hJ 369 _ _ _ ?_
                  exact hD _ _ [3, 5, 6, 1, 7, 2, 0] _ _ (K5 _ ((if_neg c9).trans (if_pos c10)))
                · skip
                  exact hD _ _ [3, 5, 6, 1, 7, 2, 0] _ _ (K5 _ ((if_neg c9).trans (if_neg c10)))
            · skip
              have K11 : ∀ (x11_0 : Int32), (if (Ms.s m i.toNatClampNeg) = (-nI 2) then (if (tr ((top + (-nI 1)) - nI 1).toNatClampNeg) = 0 then (nI 0) else (if (tr (top + (-nI 1)).toNatClampNeg) = 0 then (nI 0) else (nI 1))) else (if (tr ((top + (-nI 1)) - nI 1).toNatClampNeg) = 0 then (if (tr (top + (-nI 1)).toNatClampNeg) = 0 then (nI 0) else (nI 1)) else (nI 1))) = x11_0 → J 331 [(0, .ref 0), (5, .int sum), (6, .int (m_X12_tellsOf (Ms.s m) (nI 222) (nI 0))), (7, .int (nI 227 + (nI 140 * (Ms.s m (nI 23).toNatClampNeg)))), (8, .int (top + (-nI 1))), (9, .int i)] [.int x11_0, .int ((top + (-nI 1)) - nI 1), .ref 5] (wMs (Ms.th m) (Ms.s m) (Ms.im m) (Ms.fr m) (Ms.hi m) (Ms.ac m) (Ms.sp m) (Ms.en m) (Ms.wr m) (Ms.op m) (upd (upd (upd (upd (upd (upd (Ms.bb m) (nI 0).toNatClampNeg p) (nI 1).toNatClampNeg (Ms.s m (nI 24 + p).toNatClampNeg)) (nI 2).toNatClampNeg (Ms.s m (nI 30 + p).toNatClampNeg)) (nI 3).toNatClampNeg f) (nI 4).toNatClampNeg many) (nI 5).toNatClampNeg tide) tr (Ms.su m) (Ms.lf m) (Ms.lk m) (Ms.nx m) (Ms.bo m) (Ms.ra m) (Ms.ki m) (Ms.nu m) (Ms.tv m)) := by
                intro x11_0 ex11_0
                refine hJ 331 _ _ _ ?_
                refine And.intro ((t2 (by assumption) (by assumption) (by assumption)).2.1) ?_
                refine hJ 401 _ _ _ ?_
                exact hD _ _ [1, 2, 3, 4, 5, 0] _ _ (ih96 _ _ _ _ ⟨F, n, j + 1, dp, g1, g2, g3, g4, by omega, by omega, by rw [g7]; exact nI_add (F + j) 1, by first | with_reducible exact (t0 (by assumption)).2 | with_reducible exact (t1 (by assumption)).2 | with_reducible exact (t2 (by assumption) (by assumption) (by assumption)).2.2 | with_reducible exact t3 (by assumption)⟩ (e96.trans ((q_X12_clausesOf_96 m p f many tide n96 sum top i tr).trans ((if_neg c1).trans ((if_pos c2).trans ((if_neg c3).trans ((if_neg c4).trans (bindv_eq ex11_0))))))))
              refine And.intro (fun c12 => ?_) (fun c12 => ?_)
              · skip
                refine hJ 304 _ _ _ ?_
                refine And.intro ((t2 (by assumption) (by assumption) (by assumption)).2.1) ?_
                refine And.intro (fun c13 => ?_) (fun c13 => ?_)
                · skip
                  refine hJ 326 _ _ _ ?_
                  exact hD _ _ [2, 3, 4, 5, 0, 6] _ _ (K11 _ ((if_neg c12).trans (if_neg c13)))
                · skip
                  refine And.intro ((t2 (by assumption) (by assumption) (by assumption)).1) ?_
                  refine And.intro (fun c14 => ?_) (fun c14 => ?_)
                  · skip
                    refine hJ 330 _ _ _ ?_
                    exact hD _ _ [2, 3, 4, 5, 0, 6] _ _ (K11 _ ((if_neg c12).trans ((if_pos c13).trans (if_pos c14))))
                  · skip
                    exact hD _ _ [2, 3, 4, 5, 0, 6] _ _ (K11 _ ((if_neg c12).trans ((if_pos c13).trans (if_neg c14))))
              · skip
                refine And.intro ((t2 (by assumption) (by assumption) (by assumption)).2.1) ?_
                refine And.intro (fun c15 => ?_) (fun c15 => ?_)
                · skip
                  refine hJ 300 _ _ _ ?_
                  exact hD _ _ [2, 3, 4, 5, 0, 6] _ _ (K11 _ ((if_pos c12).trans (if_pos c15)))
                · skip
                  refine And.intro ((t2 (by assumption) (by assumption) (by assumption)).1) ?_
                  refine And.intro (fun c16 => ?_) (fun c16 => ?_)
                  · skip
                    refine hJ 300 _ _ _ ?_
                    exact hD _ _ [2, 3, 4, 5, 0, 6] _ _ (K11 _ ((if_pos c12).trans ((if_neg c15).trans (if_pos c16))))
                  · skip
                    exact hD _ _ [2, 3, 4, 5, 0, 6] _ _ (K11 _ ((if_pos c12).trans ((if_neg c15).trans (if_neg c16))))
          · skip
            refine And.intro ((t1 (by assumption)).1) ?_
            have K17 : ∀ (x17_0 : Int32), (if (tr (top - nI 1).toNatClampNeg) = 0 then (nI 1) else (nI 0)) = x17_0 → J 245 [(0, .ref 0), (5, .int sum), (6, .int (m_X12_tellsOf (Ms.s m) (nI 222) (nI 0))), (7, .int (nI 227 + (nI 140 * (Ms.s m (nI 23).toNatClampNeg)))), (8, .int top), (9, .int i)] [.int x17_0, .int (top - nI 1), .ref 5] (wMs (Ms.th m) (Ms.s m) (Ms.im m) (Ms.fr m) (Ms.hi m) (Ms.ac m) (Ms.sp m) (Ms.en m) (Ms.wr m) (Ms.op m) (upd (upd (upd (upd (upd (upd (Ms.bb m) (nI 0).toNatClampNeg p) (nI 1).toNatClampNeg (Ms.s m (nI 24 + p).toNatClampNeg)) (nI 2).toNatClampNeg (Ms.s m (nI 30 + p).toNatClampNeg)) (nI 3).toNatClampNeg f) (nI 4).toNatClampNeg many) (nI 5).toNatClampNeg tide) tr (Ms.su m) (Ms.lf m) (Ms.lk m) (Ms.nx m) (Ms.bo m) (Ms.ra m) (Ms.ki m) (Ms.nu m) (Ms.tv m)) := by
              intro x17_0 ex17_0
              refine hJ 245 _ _ _ ?_
              refine And.intro ((t1 (by assumption)).1) ?_
              refine hJ 401 _ _ _ ?_
              exact hD _ _ [1, 2, 3, 4, 5, 0] _ _ (ih96 _ _ _ _ ⟨F, n, j + 1, dp, g1, g2, g3, g4, by omega, by omega, by rw [g7]; exact nI_add (F + j) 1, by first | with_reducible exact (t0 (by assumption)).2 | with_reducible exact (t1 (by assumption)).2 | with_reducible exact (t2 (by assumption) (by assumption) (by assumption)).2.2 | with_reducible exact t3 (by assumption)⟩ (e96.trans ((q_X12_clausesOf_96 m p f many tide n96 sum top i tr).trans ((if_neg c1).trans ((if_pos c2).trans ((if_pos c3).trans (bindv_eq ex17_0)))))))
            refine And.intro (fun c18 => ?_) (fun c18 => ?_)
            · skip
              refine hJ 244 _ _ _ ?_
              exact hD _ _ [1, 2, 3, 4, 5, 6] _ _ (K17 _ (if_neg c18))
            · skip
              exact hD _ _ [1, 2, 3, 4, 5, 6] _ _ (K17 _ (if_pos c18))
        · skip
          refine And.intro (by decide) ?_
          refine And.intro ((t0 (by assumption)).1) ?_
          refine And.intro (by decide) ?_
          refine And.intro (by decide) ?_
          refine And.intro (by decide) ?_
          have K19 : ∀ (x19_0 : Int32), (if (((Ms.s m i.toNatClampNeg) / nI 8) - ((Ms.s m i.toNatClampNeg) / nI 8) / nI 4 * nI 4) = 0 then (if ((Ms.s m i.toNatClampNeg) / nI 32) ≤ ((upd (upd (upd (upd (upd (upd (Ms.bb m) (nI 0).toNatClampNeg p) (nI 1).toNatClampNeg (Ms.s m (nI 24 + p).toNatClampNeg)) (nI 2).toNatClampNeg (Ms.s m (nI 30 + p).toNatClampNeg)) (nI 3).toNatClampNeg f) (nI 4).toNatClampNeg many) (nI 5).toNatClampNeg tide) ((Ms.s m i.toNatClampNeg) - (Ms.s m i.toNatClampNeg) / nI 8 * nI 8).toNatClampNeg) then (nI 0) else (nI 1)) else (if (((Ms.s m i.toNatClampNeg) / nI 8) - ((Ms.s m i.toNatClampNeg) / nI 8) / nI 4 * nI 4) = nI 1 then (if ((upd (upd (upd (upd (upd (upd (Ms.bb m) (nI 0).toNatClampNeg p) (nI 1).toNatClampNeg (Ms.s m (nI 24 + p).toNatClampNeg)) (nI 2).toNatClampNeg (Ms.s m (nI 30 + p).toNatClampNeg)) (nI 3).toNatClampNeg f) (nI 4).toNatClampNeg many) (nI 5).toNatClampNeg tide) ((Ms.s m i.toNatClampNeg) - (Ms.s m i.toNatClampNeg) / nI 8 * nI 8).toNatClampNeg) = ((Ms.s m i.toNatClampNeg) / nI 32) then (nI 1) else (nI 0)) else (if ((upd (upd (upd (upd (upd (upd (Ms.bb m) (nI 0).toNatClampNeg p) (nI 1).toNatClampNeg (Ms.s m (nI 24 + p).toNatClampNeg)) (nI 2).toNatClampNeg (Ms.s m (nI 30 + p).toNatClampNeg)) (nI 3).toNatClampNeg f) (nI 4).toNatClampNeg many) (nI 5).toNatClampNeg tide) ((Ms.s m i.toNatClampNeg) - (Ms.s m i.toNatClampNeg) / nI 8 * nI 8).toNatClampNeg) ≤ ((Ms.s m i.toNatClampNeg) / nI 32) then (nI 0) else (nI 1)))) = x19_0 → J 207 [(0, .ref 0), (5, .int sum), (6, .int (m_X12_tellsOf (Ms.s m) (nI 222) (nI 0))), (7, .int (nI 227 + (nI 140 * (Ms.s m (nI 23).toNatClampNeg)))), (8, .int top), (9, .int i)] [.int x19_0, .int top, .ref 5] (wMs (Ms.th m) (Ms.s m) (Ms.im m) (Ms.fr m) (Ms.hi m) (Ms.ac m) (Ms.sp m) (Ms.en m) (Ms.wr m) (Ms.op m) (upd (upd (upd (upd (upd (upd (Ms.bb m) (nI 0).toNatClampNeg p) (nI 1).toNatClampNeg (Ms.s m (nI 24 + p).toNatClampNeg)) (nI 2).toNatClampNeg (Ms.s m (nI 30 + p).toNatClampNeg)) (nI 3).toNatClampNeg f) (nI 4).toNatClampNeg many) (nI 5).toNatClampNeg tide) tr (Ms.su m) (Ms.lf m) (Ms.lk m) (Ms.nx m) (Ms.bo m) (Ms.ra m) (Ms.ki m) (Ms.nu m) (Ms.tv m)) := by
            intro x19_0 ex19_0
            refine hJ 207 _ _ _ ?_
            refine And.intro (tt) ?_
            refine hJ 401 _ _ _ ?_
            exact hD _ _ [2, 3, 4, 5, 1, 0] _ _ (ih96 _ _ _ _ ⟨F, n, j + 1, dp, g1, g2, g3, g4, by omega, by omega, by rw [g7]; exact nI_add (F + j) 1, by first | with_reducible exact (t0 (by assumption)).2 | with_reducible exact (t1 (by assumption)).2 | with_reducible exact (t2 (by assumption) (by assumption) (by assumption)).2.2 | with_reducible exact t3 (by assumption)⟩ (e96.trans ((q_X12_clausesOf_96 m p f many tide n96 sum top i tr).trans ((if_neg c1).trans ((if_neg c2).trans (bindv_eq ex19_0))))))
          refine And.intro (fun c20 => ?_) (fun c20 => ?_)
          · skip
            refine hJ 174 _ _ _ ?_
            refine And.intro (fun c21 => ?_) (fun c21 => ?_)
            · skip
              refine hJ 195 _ _ _ ?_
              refine And.intro (fun c22 => ?_) (fun c22 => ?_)
              · skip
                refine hJ 206 _ _ _ ?_
                exact hD _ _ [4, 5, 6, 7, 8, 9] _ _ (K19 _ ((if_neg c20).trans ((if_neg c21).trans (if_pos c22))))
              · skip
                exact hD _ _ [4, 5, 6, 7, 8, 9] _ _ (K19 _ ((if_neg c20).trans ((if_neg c21).trans (if_neg c22))))
            · skip
              refine And.intro (fun c23 => ?_) (fun c23 => ?_)
              · skip
                refine hJ 191 _ _ _ ?_
                exact hD _ _ [4, 5, 6, 7, 8, 9] _ _ (K19 _ ((if_neg c20).trans ((if_pos c21).trans (if_neg c23))))
              · skip
                exact hD _ _ [4, 5, 6, 7, 8, 9] _ _ (K19 _ ((if_neg c20).trans ((if_pos c21).trans (if_pos c23))))
          · skip
            refine And.intro (fun c24 => ?_) (fun c24 => ?_)
            · skip
              refine hJ 170 _ _ _ ?_
              exact hD _ _ [4, 5, 6, 7, 8, 9] _ _ (K19 _ ((if_pos c20).trans (if_pos c24)))
            · skip
              exact hD _ _ [4, 5, 6, 7, 8, 9] _ _ (K19 _ ((if_pos c20).trans (if_neg c24)))
  exact hD _ _ [5, 4, 3, 2, 1, 0] _ _ (L96 1000 _ _ _ _ (by obtain ⟨F, n, dp, g1, g2, g3, g4, -⟩ := hs; exact ⟨F, n, 0, dp, g1, g2, g3, g4, rfl, Nat.zero_le _, g1, by rw [g4.1]⟩) (rfl))

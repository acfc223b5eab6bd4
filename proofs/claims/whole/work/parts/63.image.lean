/-! printed by wip/whole/gen/specs62.py: the image -/
def m_X11_image (s : Us) : Int32 × Us := bindv (m_X7_become (Us.kp s, Us.nw s)) (fun r1 => (Sc.sz (Sf.c (SS.b r1)), (SS.b r1, SS.a r1, Us.ah s, Us.h s, Us.k0 s, Us.k1 s, Us.k2 s, Us.k3 s, Us.k4 s, Us.k5 s, Us.k6 s, Us.st s, Us.l0 s, Us.l1 s, Us.l2 s, Us.l3 s, Us.l4 s, Us.l5 s, Us.b0 s, Us.b1 s, Us.b2 s, Us.b3 s, Us.b4 s, Us.b5 s, Us.b6 s, nI 1, Us.ac s)))
set_option maxRecDepth 100000 in
set_option maxHeartbeats 400000 in
theorem c_X11_image (l : Launch) {fv : Value} (hf : FV fv) (s : Us) (hb : ∀ j, fits .byte (.int (Sf.tp (Us.nw s) j)) = true) : CT l fv 3 jX11_image [.ref 0] (hUs s) (DP (some (.int (m_X11_image s).1)) (hUs ((m_X11_image s).2))) := by
  refine CT_of [] mt_X11_image (by decide +kernel) (tab_X11 hf) okX11_image (Nat.le_of_ble_eq_true rfl) ?_
  intro J hJ hD
  refine hJ 0 _ _ _ ?_
  obtain ⟨r1, er1⟩ : ∃ z : SS, m_X7_become (Us.kp s, Us.nw s) = z := ⟨_, rfl⟩
  have hr1 := c_X7_become l hf (Us.kp s, Us.nw s) hb
  rw [er1] at hr1
  refine CALL_sub (r := none) (h' := wUs (SS.b r1) (SS.a r1) (Us.ah s) (Us.h s) (Us.k0 s) (Us.k1 s) (Us.k2 s) (Us.k3 s) (Us.k4 s) (Us.k5 s) (Us.k6 s) (Us.st s) (Us.l0 s) (Us.l1 s) (Us.l2 s) (Us.l3 s) (Us.l4 s) (Us.l5 s) (Us.b0 s) (Us.b1 s) (Us.b2 s) (Us.b3 s) (Us.b4 s) (Us.b5 s) (Us.b6 s) (Us.it s) (Us.ac s)) [7, 8, 9, 10, 11, 12, 1, 2, 3, 4, 5, 6, 43, 42, 51, 52, 53, 54, 55, 56, 45, 46, 47, 48, 49, 50] (by decide) (hr1) rfl (w_sub_of ⟨rfl, rfl, rfl, rfl, rfl, rfl, rfl, rfl, rfl, rfl, rfl, rfl, rfl, rfl, rfl, rfl, rfl, rfl, rfl, rfl, rfl, rfl, rfl, rfl, rfl, rfl, True.intro⟩) (by decide) (by decide) ((show w_back _ [7, 8, 9, 10, 11, 12, 1, 2, 3, 4, 5, 6, 43, 42, 51, 52, 53, 54, 55, 56, 45, 46, 47, 48, 49, 50] _ = w_back _ (List.range' 7 6 ++ (List.range' 1 6 ++ (List.range' 43 1 ++ (List.range' 42 1 ++ (List.range' 51 6 ++ (List.range' 45 6 ++ [])))))) _ from rfl).trans ((wb_seg 7 6 _ _ _ (Nat.le_of_ble_eq_true rfl) (Nat.le_of_ble_eq_true rfl)).trans ((wb_seg 1 6 _ _ _ (Nat.le_of_ble_eq_true rfl) (Nat.le_of_ble_eq_true rfl)).trans ((wb_seg 43 1 _ _ _ (Nat.le_of_ble_eq_true rfl) (Nat.le_of_ble_eq_true rfl)).trans ((wb_seg 42 1 _ _ _ (Nat.le_of_ble_eq_true rfl) (Nat.le_of_ble_eq_true rfl)).trans ((wb_seg 51 6 _ _ _ (Nat.le_of_ble_eq_true rfl) (Nat.le_of_ble_eq_true rfl)).trans ((wb_seg 45 6 _ _ _ (Nat.le_of_ble_eq_true rfl) (Nat.le_of_ble_eq_true rfl)).trans rfl))))))) ?_
  refine And.intro (Or.inr rfl) ?_
  exact And.intro True.intro (DPis (F := (fun z => hUs z)) (s' := (SS.b r1, SS.a r1, Us.ah s, Us.h s, Us.k0 s, Us.k1 s, Us.k2 s, Us.k3 s, Us.k4 s, Us.k5 s, Us.k6 s, Us.st s, Us.l0 s, Us.l1 s, Us.l2 s, Us.l3 s, Us.l4 s, Us.l5 s, Us.b0 s, Us.b1 s, Us.b2 s, Us.b3 s, Us.b4 s, Us.b5 s, Us.b6 s, nI 1, Us.ac s)) (bindv_eq er1))
def m_X11_undo (s : Us) : Int32 × Us := if Us.it s = 0 then ((-nI 3), s) else (bindv (m_X7_become (Us.nw s, Us.kp s)) (fun r2 => (Sc.sz (Sf.c (SS.a r2)), (SS.a r2, SS.b r2, Us.ah s, Us.h s, Us.k0 s, Us.k1 s, Us.k2 s, Us.k3 s, Us.k4 s, Us.k5 s, Us.k6 s, Us.st s, Us.l0 s, Us.l1 s, Us.l2 s, Us.l3 s, Us.l4 s, Us.l5 s, Us.b0 s, Us.b1 s, Us.b2 s, Us.b3 s, Us.b4 s, Us.b5 s, Us.b6 s, Us.it s, Us.ac s))))
set_option maxRecDepth 100000 in
set_option maxHeartbeats 400000 in
theorem c_X11_undo (l : Launch) {fv : Value} (hf : FV fv) (s : Us) (hb : ∀ j, fits .byte (.int (Sf.tp (Us.kp s) j)) = true) : CT l fv 3 jX11_undo [.ref 0] (hUs s) (DP (some (.int (m_X11_undo s).1)) (hUs ((m_X11_undo s).2))) := by
  refine CT_of [] mt_X11_undo (by decide +kernel) (tab_X11 hf) okX11_undo (Nat.le_of_ble_eq_true rfl) ?_
  intro J hJ hD
  refine hJ 0 _ _ _ ?_
  refine And.intro (fun c1 => ?_) (fun c1 => ?_)
  · skip
    refine hJ 10 _ _ _ ?_
    obtain ⟨r2, er2⟩ : ∃ z : SS, m_X7_become (Us.nw s, Us.kp s) = z := ⟨_, rfl⟩
    have hr2 := c_X7_become l hf (Us.nw s, Us.kp s) hb
    rw [er2] at hr2
    refine CALL_sub (r := none) (h' := wUs (SS.a r2) (SS.b r2) (Us.ah s) (Us.h s) (Us.k0 s) (Us.k1 s) (Us.k2 s) (Us.k3 s) (Us.k4 s) (Us.k5 s) (Us.k6 s) (Us.st s) (Us.l0 s) (Us.l1 s) (Us.l2 s) (Us.l3 s) (Us.l4 s) (Us.l5 s) (Us.b0 s) (Us.b1 s) (Us.b2 s) (Us.b3 s) (Us.b4 s) (Us.b5 s) (Us.b6 s) (Us.it s) (Us.ac s)) [1, 2, 3, 4, 5, 6, 7, 8, 9, 10, 11, 12, 42, 43, 45, 46, 47, 48, 49, 50, 51, 52, 53, 54, 55, 56] (by decide) (hr2) rfl (w_sub_of ⟨rfl, rfl, rfl, rfl, rfl, rfl, rfl, rfl, rfl, rfl, rfl, rfl, rfl, rfl, rfl, rfl, rfl, rfl, rfl, rfl, rfl, rfl, rfl, rfl, rfl, rfl, True.intro⟩) (by decide) (by decide) ((show w_back _ [1, 2, 3, 4, 5, 6, 7, 8, 9, 10, 11, 12, 42, 43, 45, 46, 47, 48, 49, 50, 51, 52, 53, 54, 55, 56] _ = w_back _ (List.range' 1 12 ++ (List.range' 42 2 ++ (List.range' 45 12 ++ []))) _ from rfl).trans ((wb_seg 1 12 _ _ _ (Nat.le_of_ble_eq_true rfl) (Nat.le_of_ble_eq_true rfl)).trans ((wb_seg 42 2 _ _ _ (Nat.le_of_ble_eq_true rfl) (Nat.le_of_ble_eq_true rfl)).trans ((wb_seg 45 12 _ _ _ (Nat.le_of_ble_eq_true rfl) (Nat.le_of_ble_eq_true rfl)).trans rfl)))) ?_
    exact And.intro True.intro (DPis (F := (fun z => hUs z)) (s' := (SS.a r2, SS.b r2, Us.ah s, Us.h s, Us.k0 s, Us.k1 s, Us.k2 s, Us.k3 s, Us.k4 s, Us.k5 s, Us.k6 s, Us.st s, Us.l0 s, Us.l1 s, Us.l2 s, Us.l3 s, Us.l4 s, Us.l5 s, Us.b0 s, Us.b1 s, Us.b2 s, Us.b3 s, Us.b4 s, Us.b5 s, Us.b6 s, Us.it s, Us.ac s)) ((if_neg c1).trans (bindv_eq er2)))
  · skip
    exact And.intro True.intro (DPis (F := (fun z => hUs z)) (s' := s) (if_pos c1))

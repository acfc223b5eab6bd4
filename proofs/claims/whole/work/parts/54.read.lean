/-! printed by wip/whole/gen/specs54.py: how the class reads a ledge, through and through -/
def l_X4_readBoth_12 (s : Lr) (prt : Lr → Int32 × Lr) (op : Int32) (r1 : Int32 × Lr) : Nat → Int32 → Lr → Int32 × Lr
  | 0, _, _ => (0, s)
  | n12 + 1, n, m1 => if nI 100 ≤ n then (nI 1, m1) else (bindv (m_X4_take m1 (nI 38)) (fun r4 => if r4.1 = 0 then (nI 1, r4.2) else (bindv (prt r4.2) (fun r6 => if r6.1 = 0 then (nI 0, r6.2) else (bindv (m_X4_put r6.2 (-nI 2)) (fun r8 => if r8.1 = 0 then (nI 0, r8.2) else l_X4_readBoth_12 s prt op r1 n12 (n + nI 1) r8.2))))))
theorem q_X4_readBoth_12 (s : Lr) (prt : Lr → Int32 × Lr) (op : Int32) (r1 : Int32 × Lr) (n12 : Nat) (n : Int32) (m1 : Lr) : l_X4_readBoth_12 s prt op r1 (n12 + 1) n m1 = (if nI 100 ≤ n then (nI 1, m1) else (bindv (m_X4_take m1 (nI 38)) (fun r4 => if r4.1 = 0 then (nI 1, r4.2) else (bindv (prt r4.2) (fun r6 => if r6.1 = 0 then (nI 0, r6.2) else (bindv (m_X4_put r6.2 (-nI 2)) (fun r8 => if r8.1 = 0 then (nI 0, r8.2) else l_X4_readBoth_12 s prt op r1 n12 (n + nI 1) r8.2))))))) := rfl
def m_X4_readBoth (s : Lr) (prt : Lr → Int32 × Lr) (op : Int32) : Int32 × Lr := bindv (prt s) (fun r1 => if r1.1 = 0 then (nI 0, r1.2) else l_X4_readBoth_12 s prt op r1 101 (nI 0) r1.2)
set_option maxRecDepth 100000 in
set_option maxHeartbeats 4000000 in
theorem c_X4_readBoth (l : Launch) {fv : Value} (hf : FV fv) (s : Lr) (prt : Lr → Int32 × Lr) (op : Int32) {d : Nat} (hd : 10 ≤ d) (hp : ∀ s, CT l fv d jX4_readPart [.ref 0, .int op] (hLr s) (DP (some (.int (prt s).1)) (hLr (prt s).2))) : CT l fv (d + 1) jX4_readBoth [.ref 0, .int op] (hLr s) (DP (some (.int (m_X4_readBoth s prt op).1)) (hLr ((m_X4_readBoth s prt op).2))) := by
  refine CT_of [12] mt_X4_readBoth (by decide +kernel) (tab_X4 hf) okX4_readBoth (Nat.le_of_ble_eq_true rfl) ?_
  intro J hJ hD
  refine hJ 0 _ _ _ ?_
  obtain ⟨r1, er1⟩ : ∃ z : Int32 × Lr, prt s = z := ⟨_, rfl⟩
  have hr1 := hp s
  rw [er1] at hr1
  refine CALL_same (r := some (.int r1.1)) (h1 := hLr r1.2) (by omega) (hr1) ?_
  refine And.intro (fun c2 => ?_) (fun c2 => ?_)
  · skip
    refine hJ 10 _ _ _ ?_
    have L12 : ∀ (n12 : Nat) (n : Int32) (m1 : Lr), (∃ z9 : Nat, z9 ≤ 100 ∧ n12 + z9 = 101 ∧ n = nI z9) → m_X4_readBoth s prt op = l_X4_readBoth_12 s prt op r1 n12 n m1 → J 12 [(0, .ref 0), (1, .int op), (2, .int n)] [] (hLr m1) := by
      intro n12
      induction n12 with
      | zero =>
        intro n m1 hv
        obtain ⟨z9, h1, h2, h3⟩ := hv
        omega
      | succ n12 ih12 =>
        intro n m1 hv e12
        obtain ⟨z9, h1, h2, h3⟩ := hv
        refine hJ 12 _ _ _ ?_
        refine And.intro (fun c3 => ?_) (fun c3 => ?_)
        · skip
          refine hJ 52 _ _ _ ?_
          exact And.intro xb1 (DPis (F := (fun z => hLr z)) (s' := m1) (e12.trans ((q_X4_readBoth_12 s prt op r1 n12 n m1).trans (if_pos c3))))
        · skip
          have h4 : z9 < 100 := cnt_lt h3 h1 (by decide) c3
          obtain ⟨r4, er4⟩ : ∃ z : Int32 × Lr, m_X4_take m1 (nI 38) = z := ⟨_, rfl⟩
          have hr4 := c_X4_take l hf m1 (nI 38)
          rw [er4] at hr4
          refine CALL_same (r := some (.int r4.1)) (h1 := hLr r4.2) (by omega) (hr4) ?_
          refine And.intro (fun c5 => ?_) (fun c5 => ?_)
          · skip
            refine hJ 52 _ _ _ ?_
            exact And.intro xb1 (DPis (F := (fun z => hLr z)) (s' := r4.2) (e12.trans ((q_X4_readBoth_12 s prt op r1 n12 n m1).trans ((if_neg c3).trans ((bindv_eq er4).trans (if_pos c5))))))
          · skip
            obtain ⟨r6, er6⟩ : ∃ z : Int32 × Lr, prt r4.2 = z := ⟨_, rfl⟩
            have hr6 := hp r4.2
            rw [er6] at hr6
            refine CALL_same (r := some (.int r6.1)) (h1 := hLr r6.2) (by omega) (hr6) ?_
            refine And.intro (fun c7 => ?_) (fun c7 => ?_)
            · skip
              refine hJ 44 _ _ _ ?_
              exact And.intro xb0 (DPis (F := (fun z => hLr z)) (s' := r6.2) (e12.trans ((q_X4_readBoth_12 s prt op r1 n12 n m1).trans ((if_neg c3).trans ((bindv_eq er4).trans ((if_neg c5).trans ((bindv_eq er6).trans (if_pos c7))))))))
            · skip
              obtain ⟨r8, er8⟩ : ∃ z : Int32 × Lr, m_X4_put r6.2 (-nI 2) = z := ⟨_, rfl⟩
              have hr8 := c_X4_put l hf r6.2 (-nI 2)
              rw [er8] at hr8
              refine CALL_same (r := some (.int r8.1)) (h1 := hLr r8.2) (by omega) (hr8) ?_
              refine And.intro (fun c9 => ?_) (fun c9 => ?_)
              · skip
                refine hJ 46 _ _ _ ?_
                exact hD _ _ [1, 2, 0] _ _ (ih12 _ _ ⟨z9 + 1, by omega, by omega, by rw [h3]; exact nI_add z9 1⟩ (e12.trans ((q_X4_readBoth_12 s prt op r1 n12 n m1).trans ((if_neg c3).trans ((bindv_eq er4).trans ((if_neg c5).trans ((bindv_eq er6).trans ((if_neg c7).trans ((bindv_eq er8).trans (if_neg c9))))))))))
              · skip
                exact And.intro xb0 (DPis (F := (fun z => hLr z)) (s' := r8.2) (e12.trans ((q_X4_readBoth_12 s prt op r1 n12 n m1).trans ((if_neg c3).trans ((bindv_eq er4).trans ((if_neg c5).trans ((bindv_eq er6).trans ((if_neg c7).trans ((bindv_eq er8).trans (if_pos c9))))))))))
    exact hD _ _ [1, 2, 0] _ _ (L12 101 _ _ ⟨0, by decide, by decide, rfl⟩ ((bindv_eq er1).trans (if_neg c2)))
  · skip
    exact And.intro xb0 (DPis (F := (fun z => hLr z)) (s' := r1.2) ((bindv_eq er1).trans (if_pos c2)))
def l_X4_readEither_12 (s : Lr) (prt : Lr → Int32 × Lr) (op : Int32) (r1 : Int32 × Lr) : Nat → Int32 → Lr → Int32 × Lr
  | 0, _, _ => (0, s)
  | n12 + 1, n, m1 => if nI 100 ≤ n then (nI 1, m1) else (bindv (m_X4_take m1 (nI 124)) (fun r4 => if r4.1 = 0 then (nI 1, r4.2) else (bindv (m_X4_readBoth r4.2 prt op) (fun r6 => if r6.1 = 0 then (nI 0, r6.2) else (bindv (m_X4_put r6.2 (-nI 3)) (fun r8 => if r8.1 = 0 then (nI 0, r8.2) else l_X4_readEither_12 s prt op r1 n12 (n + nI 1) r8.2))))))
theorem q_X4_readEither_12 (s : Lr) (prt : Lr → Int32 × Lr) (op : Int32) (r1 : Int32 × Lr) (n12 : Nat) (n : Int32) (m1 : Lr) : l_X4_readEither_12 s prt op r1 (n12 + 1) n m1 = (if nI 100 ≤ n then (nI 1, m1) else (bindv (m_X4_take m1 (nI 124)) (fun r4 => if r4.1 = 0 then (nI 1, r4.2) else (bindv (m_X4_readBoth r4.2 prt op) (fun r6 => if r6.1 = 0 then (nI 0, r6.2) else (bindv (m_X4_put r6.2 (-nI 3)) (fun r8 => if r8.1 = 0 then (nI 0, r8.2) else l_X4_readEither_12 s prt op r1 n12 (n + nI 1) r8.2))))))) := rfl
def m_X4_readEither (s : Lr) (prt : Lr → Int32 × Lr) (op : Int32) : Int32 × Lr := bindv (m_X4_readBoth s prt op) (fun r1 => if r1.1 = 0 then (nI 0, r1.2) else l_X4_readEither_12 s prt op r1 101 (nI 0) r1.2)
set_option maxRecDepth 100000 in
set_option maxHeartbeats 4000000 in
theorem c_X4_readEither (l : Launch) {fv : Value} (hf : FV fv) (s : Lr) (prt : Lr → Int32 × Lr) (op : Int32) {d : Nat} (hd : 10 ≤ d) (hp : ∀ s, CT l fv d jX4_readPart [.ref 0, .int op] (hLr s) (DP (some (.int (prt s).1)) (hLr (prt s).2))) : CT l fv (d + 2) jX4_readEither [.ref 0, .int op] (hLr s) (DP (some (.int (m_X4_readEither s prt op).1)) (hLr ((m_X4_readEither s prt op).2))) := by
  refine CT_of [12] mt_X4_readEither (by decide +kernel) (tab_X4 hf) okX4_readEither (Nat.le_of_ble_eq_true rfl) ?_
  intro J hJ hD
  refine hJ 0 _ _ _ ?_
  obtain ⟨r1, er1⟩ : ∃ z : Int32 × Lr, m_X4_readBoth s prt op = z := ⟨_, rfl⟩
  have hr1 := c_X4_readBoth l hf s prt op hd hp
  rw [er1] at hr1
  refine CALL_same (r := some (.int r1.1)) (h1 := hLr r1.2) (by omega) (hr1) ?_
  refine And.intro (fun c2 => ?_) (fun c2 => ?_)
  · skip
    refine hJ 10 _ _ _ ?_
    have L12 : ∀ (n12 : Nat) (n : Int32) (m1 : Lr), (∃ z9 : Nat, z9 ≤ 100 ∧ n12 + z9 = 101 ∧ n = nI z9) → m_X4_readEither s prt op = l_X4_readEither_12 s prt op r1 n12 n m1 → J 12 [(0, .ref 0), (1, .int op), (2, .int n)] [] (hLr m1) := by
      intro n12
      induction n12 with
      | zero =>
        intro n m1 hv
        obtain ⟨z9, h1, h2, h3⟩ := hv
        omega
      | succ n12 ih12 =>
        intro n m1 hv e12
        obtain ⟨z9, h1, h2, h3⟩ := hv
        refine hJ 12 _ _ _ ?_
        refine And.intro (fun c3 => ?_) (fun c3 => ?_)
        · skip
          refine hJ 52 _ _ _ ?_
          exact And.intro xb1 (DPis (F := (fun z => hLr z)) (s' := m1) (e12.trans ((q_X4_readEither_12 s prt op r1 n12 n m1).trans (if_pos c3))))
        · skip
          have h4 : z9 < 100 := cnt_lt h3 h1 (by decide) c3
          obtain ⟨r4, er4⟩ : ∃ z : Int32 × Lr, m_X4_take m1 (nI 124) = z := ⟨_, rfl⟩
          have hr4 := c_X4_take l hf m1 (nI 124)
          rw [er4] at hr4
          refine CALL_same (r := some (.int r4.1)) (h1 := hLr r4.2) (by omega) (hr4) ?_
          refine And.intro (fun c5 => ?_) (fun c5 => ?_)
          · skip
            refine hJ 52 _ _ _ ?_
            exact And.intro xb1 (DPis (F := (fun z => hLr z)) (s' := r4.2) (e12.trans ((q_X4_readEither_12 s prt op r1 n12 n m1).trans ((if_neg c3).trans ((bindv_eq er4).trans (if_pos c5))))))
          · skip
            obtain ⟨r6, er6⟩ : ∃ z : Int32 × Lr, m_X4_readBoth r4.2 prt op = z := ⟨_, rfl⟩
            have hr6 := c_X4_readBoth l hf r4.2 prt op hd hp
            rw [er6] at hr6
            refine CALL_same (r := some (.int r6.1)) (h1 := hLr r6.2) (by omega) (hr6) ?_
            refine And.intro (fun c7 => ?_) (fun c7 => ?_)
            · skip
              refine hJ 44 _ _ _ ?_
              exact And.intro xb0 (DPis (F := (fun z => hLr z)) (s' := r6.2) (e12.trans ((q_X4_readEither_12 s prt op r1 n12 n m1).trans ((if_neg c3).trans ((bindv_eq er4).trans ((if_neg c5).trans ((bindv_eq er6).trans (if_pos c7))))))))
            · skip
              obtain ⟨r8, er8⟩ : ∃ z : Int32 × Lr, m_X4_put r6.2 (-nI 3) = z := ⟨_, rfl⟩
              have hr8 := c_X4_put l hf r6.2 (-nI 3)
              rw [er8] at hr8
              refine CALL_same (r := some (.int r8.1)) (h1 := hLr r8.2) (by omega) (hr8) ?_
              refine And.intro (fun c9 => ?_) (fun c9 => ?_)
              · skip
                refine hJ 46 _ _ _ ?_
                exact hD _ _ [1, 2, 0] _ _ (ih12 _ _ ⟨z9 + 1, by omega, by omega, by rw [h3]; exact nI_add z9 1⟩ (e12.trans ((q_X4_readEither_12 s prt op r1 n12 n m1).trans ((if_neg c3).trans ((bindv_eq er4).trans ((if_neg c5).trans ((bindv_eq er6).trans ((if_neg c7).trans ((bindv_eq er8).trans (if_neg c9))))))))))
              · skip
                exact And.intro xb0 (DPis (F := (fun z => hLr z)) (s' := r8.2) (e12.trans ((q_X4_readEither_12 s prt op r1 n12 n m1).trans ((if_neg c3).trans ((bindv_eq er4).trans ((if_neg c5).trans ((bindv_eq er6).trans ((if_neg c7).trans ((bindv_eq er8).trans (if_pos c9))))))))))
    exact hD _ _ [1, 2, 0] _ _ (L12 101 _ _ ⟨0, by decide, by decide, rfl⟩ ((bindv_eq er1).trans (if_neg c2)))
  · skip
    exact And.intro xb0 (DPis (F := (fun z => hLr z)) (s' := r1.2) ((bindv_eq er1).trans (if_pos c2)))
def m_X4_readPart (s : Lr) (prt : Lr → Int32 × Lr) (op : Int32) : Int32 × Lr := if Lr.si s = nI 33 then (if op < nI 5 then (bindv (m_X4_take s (nI 33)) (fun r3 => if r3.1 = 0 then (bindv (m_X4_take r3.2 (nI 40)) (fun r5 => if r5.1 = 0 then (nI 0, r5.2) else (bindv (m_X4_readEither r5.2 prt (op + nI 1)) (fun r7 => if r7.1 = 0 then (nI 0, r7.2) else (bindv (m_X4_take r7.2 (nI 41)) (fun r9 => if r9.1 = 0 then (nI 0, r9.2) else (nI 1, r9.2))))))) else (bindv (prt r3.2) (fun r11 => if r11.1 = 0 then (nI 0, r11.2) else (bindv (m_X4_put r11.2 (-nI 1)) (fun r13 => if r13.1 = 0 then (nI 0, r13.2) else (nI 1, r13.2))))))) else (nI 0, s)) else (if Lr.si s = nI 40 then (if op < nI 5 then (bindv (m_X4_take s (nI 33)) (fun r17 => if r17.1 = 0 then (bindv (m_X4_take r17.2 (nI 40)) (fun r19 => if r19.1 = 0 then (nI 0, r19.2) else (bindv (m_X4_readEither r19.2 prt (op + nI 1)) (fun r21 => if r21.1 = 0 then (nI 0, r21.2) else (bindv (m_X4_take r21.2 (nI 41)) (fun r23 => if r23.1 = 0 then (nI 0, r23.2) else (nI 1, r23.2))))))) else (bindv (prt r17.2) (fun r25 => if r25.1 = 0 then (nI 0, r25.2) else (bindv (m_X4_put r25.2 (-nI 1)) (fun r27 => if r27.1 = 0 then (nI 0, r27.2) else (nI 1, r27.2))))))) else (nI 0, s)) else (bindv (m_X4_readTest s) (fun r29 => if r29.1 = 0 then (nI 0, r29.2) else (bindv (m_X4_readNumber r29.2) (fun r31 => if r31.1 = 0 then (nI 0, r31.2) else (bindv (m_X4_put r31.2 (Lr.te r31.2 + Lr.nu r31.2)) (fun r33 => if r33.1 = 0 then (nI 0, r33.2) else (nI 1, r33.2))))))))
set_option maxRecDepth 100000 in
set_option maxHeartbeats 4000000 in
theorem c_X4_readPart (l : Launch) {fv : Value} (hf : FV fv) (s : Lr) (prt : Lr → Int32 × Lr) (op : Int32) {d : Nat} (hd : 10 ≤ d) (hp : op < nI 5 → ∀ s, CT l fv d jX4_readPart [.ref 0, .int (op + nI 1)] (hLr s) (DP (some (.int (prt s).1)) (hLr (prt s).2))) : CT l fv (d + 3) jX4_readPart [.ref 0, .int op] (hLr s) (DP (some (.int (m_X4_readPart s prt op).1)) (hLr ((m_X4_readPart s prt op).2))) := by
  refine CT_of [] mt_X4_readPart (by decide +kernel) (tab_X4 hf) okX4_readPart (Nat.le_of_ble_eq_true rfl) ?_
  intro J hJ hD
  refine hJ 0 _ _ _ ?_
  refine And.intro (fun c1 => ?_) (fun c1 => ?_)
  · skip
    refine hJ 54 _ _ _ ?_
    refine And.intro (fun c2 => ?_) (fun c2 => ?_)
    · skip
      have ho := c2
      refine hJ 61 _ _ _ ?_
      obtain ⟨r3, er3⟩ : ∃ z : Int32 × Lr, m_X4_take s (nI 33) = z := ⟨_, rfl⟩
      have hr3 := c_X4_take l hf s (nI 33)
      rw [er3] at hr3
      refine CALL_same (r := some (.int r3.1)) (h1 := hLr r3.2) (by omega) (hr3) ?_
      refine And.intro (fun c4 => ?_) (fun c4 => ?_)
      · skip
        refine hJ 94 _ _ _ ?_
        obtain ⟨r5, er5⟩ : ∃ z : Int32 × Lr, m_X4_take r3.2 (nI 40) = z := ⟨_, rfl⟩
        have hr5 := c_X4_take l hf r3.2 (nI 40)
        rw [er5] at hr5
        refine CALL_same (r := some (.int r5.1)) (h1 := hLr r5.2) (by omega) (hr5) ?_
        refine And.intro (fun c6 => ?_) (fun c6 => ?_)
        · skip
          refine hJ 126 _ _ _ ?_
          exact And.intro xb0 (DPis (F := (fun z => hLr z)) (s' := r5.2) ((if_pos c1).trans ((if_pos c2).trans ((bindv_eq er3).trans ((if_pos c4).trans ((bindv_eq er5).trans (if_pos c6)))))))
        · skip
          obtain ⟨r7, er7⟩ : ∃ z : Int32 × Lr, m_X4_readEither r5.2 prt (op + nI 1) = z := ⟨_, rfl⟩
          have hr7 := c_X4_readEither l hf r5.2 prt (op + nI 1) hd (hp ho)
          rw [er7] at hr7
          refine CALL_same (r := some (.int r7.1)) (h1 := hLr r7.2) (by omega) (hr7) ?_
          refine And.intro (fun c8 => ?_) (fun c8 => ?_)
          · skip
            refine hJ 126 _ _ _ ?_
            exact And.intro xb0 (DPis (F := (fun z => hLr z)) (s' := r7.2) ((if_pos c1).trans ((if_pos c2).trans ((bindv_eq er3).trans ((if_pos c4).trans ((bindv_eq er5).trans ((if_neg c6).trans ((bindv_eq er7).trans (if_pos c8)))))))))
          · skip
            obtain ⟨r9, er9⟩ : ∃ z : Int32 × Lr, m_X4_take r7.2 (nI 41) = z := ⟨_, rfl⟩
            have hr9 := c_X4_take l hf r7.2 (nI 41)
            rw [er9] at hr9
            refine CALL_same (r := some (.int r9.1)) (h1 := hLr r9.2) (by omega) (hr9) ?_
            refine And.intro (fun c10 => ?_) (fun c10 => ?_)
            · skip
              refine hJ 126 _ _ _ ?_
              exact And.intro xb0 (DPis (F := (fun z => hLr z)) (s' := r9.2) ((if_pos c1).trans ((if_pos c2).trans ((bindv_eq er3).trans ((if_pos c4).trans ((bindv_eq er5).trans ((if_neg c6).trans ((bindv_eq er7).trans ((if_neg c8).trans ((bindv_eq er9).trans (if_pos c10)))))))))))
            · skip
              refine hJ 127 _ _ _ ?_
              exact And.intro xb1 (DPis (F := (fun z => hLr z)) (s' := r9.2) ((if_pos c1).trans ((if_pos c2).trans ((bindv_eq er3).trans ((if_pos c4).trans ((bindv_eq er5).trans ((if_neg c6).trans ((bindv_eq er7).trans ((if_neg c8).trans ((bindv_eq er9).trans (if_neg c10)))))))))))
      · skip
        obtain ⟨r11, er11⟩ : ∃ z : Int32 × Lr, prt r3.2 = z := ⟨_, rfl⟩
        have hr11 := (hp ho) r3.2
        rw [er11] at hr11
        refine CALL_same (r := some (.int r11.1)) (h1 := hLr r11.2) (by omega) (hr11) ?_
        refine And.intro (fun c12 => ?_) (fun c12 => ?_)
        · skip
          refine hJ 92 _ _ _ ?_
          exact And.intro xb0 (DPis (F := (fun z => hLr z)) (s' := r11.2) ((if_pos c1).trans ((if_pos c2).trans ((bindv_eq er3).trans ((if_neg c4).trans ((bindv_eq er11).trans (if_pos c12)))))))
        · skip
          obtain ⟨r13, er13⟩ : ∃ z : Int32 × Lr, m_X4_put r11.2 (-nI 1) = z := ⟨_, rfl⟩
          have hr13 := c_X4_put l hf r11.2 (-nI 1)
          rw [er13] at hr13
          refine CALL_same (r := some (.int r13.1)) (h1 := hLr r13.2) (by omega) (hr13) ?_
          refine And.intro (fun c14 => ?_) (fun c14 => ?_)
          · skip
            refine hJ 92 _ _ _ ?_
            exact And.intro xb0 (DPis (F := (fun z => hLr z)) (s' := r13.2) ((if_pos c1).trans ((if_pos c2).trans ((bindv_eq er3).trans ((if_neg c4).trans ((bindv_eq er11).trans ((if_neg c12).trans ((bindv_eq er13).trans (if_pos c14)))))))))
          · skip
            refine hJ 93 _ _ _ ?_
            exact And.intro xb1 (DPis (F := (fun z => hLr z)) (s' := r13.2) ((if_pos c1).trans ((if_pos c2).trans ((bindv_eq er3).trans ((if_neg c4).trans ((bindv_eq er11).trans ((if_neg c12).trans ((bindv_eq er13).trans (if_neg c14)))))))))
    · skip
      exact And.intro xb0 (DPis (F := (fun z => hLr z)) (s' := s) ((if_pos c1).trans (if_neg c2)))
  · skip
    refine And.intro (fun c15 => ?_) (fun c15 => ?_)
    · skip
      refine hJ 54 _ _ _ ?_
      refine And.intro (fun c16 => ?_) (fun c16 => ?_)
      · skip
        have ho := c16
        refine hJ 61 _ _ _ ?_
        obtain ⟨r17, er17⟩ : ∃ z : Int32 × Lr, m_X4_take s (nI 33) = z := ⟨_, rfl⟩
        have hr17 := c_X4_take l hf s (nI 33)
        rw [er17] at hr17
        refine CALL_same (r := some (.int r17.1)) (h1 := hLr r17.2) (by omega) (hr17) ?_
        refine And.intro (fun c18 => ?_) (fun c18 => ?_)
        · skip
          refine hJ 94 _ _ _ ?_
          obtain ⟨r19, er19⟩ : ∃ z : Int32 × Lr, m_X4_take r17.2 (nI 40) = z := ⟨_, rfl⟩
          have hr19 := c_X4_take l hf r17.2 (nI 40)
          rw [er19] at hr19
          refine CALL_same (r := some (.int r19.1)) (h1 := hLr r19.2) (by omega) (hr19) ?_
          refine And.intro (fun c20 => ?_) (fun c20 => ?_)
          · skip
            refine hJ 126 _ _ _ ?_
            exact And.intro xb0 (DPis (F := (fun z => hLr z)) (s' := r19.2) ((if_neg c1).trans ((if_pos c15).trans ((if_pos c16).trans ((bindv_eq er17).trans ((if_pos c18).trans ((bindv_eq er19).trans (if_pos c20))))))))
          · skip
            obtain ⟨r21, er21⟩ : ∃ z : Int32 × Lr, m_X4_readEither r19.2 prt (op + nI 1) = z := ⟨_, rfl⟩
            have hr21 := c_X4_readEither l hf r19.2 prt (op + nI 1) hd (hp ho)
            rw [er21] at hr21
            refine CALL_same (r := some (.int r21.1)) (h1 := hLr r21.2) (by omega) (hr21) ?_
            refine And.intro (fun c22 => ?_) (fun c22 => ?_)
            · skip
              refine hJ 126 _ _ _ ?_
              exact And.intro xb0 (DPis (F := (fun z => hLr z)) (s' := r21.2) ((if_neg c1).trans ((if_pos c15).trans ((if_pos c16).trans ((bindv_eq er17).trans ((if_pos c18).trans ((bindv_eq er19).trans ((if_neg c20).trans ((bindv_eq er21).trans (if_pos c22))))))))))
            · skip
              obtain ⟨r23, er23⟩ : ∃ z : Int32 × Lr, m_X4_take r21.2 (nI 41) = z := ⟨_, rfl⟩
              have hr23 := c_X4_take l hf r21.2 (nI 41)
              rw [er23] at hr23
              refine CALL_same (r := some (.int r23.1)) (h1 := hLr r23.2) (by omega) (hr23) ?_
              refine And.intro (fun c24 => ?_) (fun c24 => ?_)
              · skip
                refine hJ 126 _ _ _ ?_
                exact And.intro xb0 (DPis (F := (fun z => hLr z)) (s' := r23.2) ((if_neg c1).trans ((if_pos c15).trans ((if_pos c16).trans ((bindv_eq er17).trans ((if_pos c18).trans ((bindv_eq er19).trans ((if_neg c20).trans ((bindv_eq er21).trans ((if_neg c22).trans ((bindv_eq er23).trans (if_pos c24))))))))))))
              · skip
                refine hJ 127 _ _ _ ?_
                exact And.intro xb1 (DPis (F := (fun z => hLr z)) (s' := r23.2) ((if_neg c1).trans ((if_pos c15).trans ((if_pos c16).trans ((bindv_eq er17).trans ((if_pos c18).trans ((bindv_eq er19).trans ((if_neg c20).trans ((bindv_eq er21).trans ((if_neg c22).trans ((bindv_eq er23).trans (if_neg c24))))))))))))
        · skip
          obtain ⟨r25, er25⟩ : ∃ z : Int32 × Lr, prt r17.2 = z := ⟨_, rfl⟩
          have hr25 := (hp ho) r17.2
          rw [er25] at hr25
          refine CALL_same (r := some (.int r25.1)) (h1 := hLr r25.2) (by omega) (hr25) ?_
          refine And.intro (fun c26 => ?_) (fun c26 => ?_)
          · skip
            refine hJ 92 _ _ _ ?_
            exact And.intro xb0 (DPis (F := (fun z => hLr z)) (s' := r25.2) ((if_neg c1).trans ((if_pos c15).trans ((if_pos c16).trans ((bindv_eq er17).trans ((if_neg c18).trans ((bindv_eq er25).trans (if_pos c26))))))))
          · skip
            obtain ⟨r27, er27⟩ : ∃ z : Int32 × Lr, m_X4_put r25.2 (-nI 1) = z := ⟨_, rfl⟩
            have hr27 := c_X4_put l hf r25.2 (-nI 1)
            rw [er27] at hr27
            refine CALL_same (r := some (.int r27.1)) (h1 := hLr r27.2) (by omega) (hr27) ?_
            refine And.intro (fun c28 => ?_) (fun c28 => ?_)
            · skip
              refine hJ 92 _ _ _ ?_
              exact And.intro xb0 (DPis (F := (fun z => hLr z)) (s' := r27.2) ((if_neg c1).trans ((if_pos c15).trans ((if_pos c16).trans ((bindv_eq er17).trans ((if_neg c18).trans ((bindv_eq er25).trans ((if_neg c26).trans ((bindv_eq er27).trans (if_pos c28))))))))))
            · skip
              refine hJ 93 _ _ _ ?_
              exact And.intro xb1 (DPis (F := (fun z => hLr z)) (s' := r27.2) ((if_neg c1).trans ((if_pos c15).trans ((if_pos c16).trans ((bindv_eq er17).trans ((if_neg c18).trans ((bindv_eq er25).trans ((if_neg c26).trans ((bindv_eq er27).trans (if_neg c28))))))))))
      · skip
        exact And.intro xb0 (DPis (F := (fun z => hLr z)) (s' := s) ((if_neg c1).trans ((if_pos c15).trans (if_neg c16))))
    · skip
      obtain ⟨r29, er29⟩ : ∃ z : Int32 × Lr, m_X4_readTest s = z := ⟨_, rfl⟩
      have hr29 := c_X4_readTest l hf s
      rw [er29] at hr29
      refine CALL_same (r := some (.int r29.1)) (h1 := hLr r29.2) (by omega) (hr29) ?_
      refine And.intro (fun c30 => ?_) (fun c30 => ?_)
      · skip
        refine hJ 52 _ _ _ ?_
        exact And.intro xb0 (DPis (F := (fun z => hLr z)) (s' := r29.2) ((if_neg c1).trans ((if_neg c15).trans ((bindv_eq er29).trans (if_pos c30)))))
      · skip
        obtain ⟨r31, er31⟩ : ∃ z : Int32 × Lr, m_X4_readNumber r29.2 = z := ⟨_, rfl⟩
        have hr31 := c_X4_readNumber l hf r29.2
        rw [er31] at hr31
        refine CALL_same (r := some (.int r31.1)) (h1 := hLr r31.2) (by omega) (hr31) ?_
        refine And.intro (fun c32 => ?_) (fun c32 => ?_)
        · skip
          refine hJ 52 _ _ _ ?_
          exact And.intro xb0 (DPis (F := (fun z => hLr z)) (s' := r31.2) ((if_neg c1).trans ((if_neg c15).trans ((bindv_eq er29).trans ((if_neg c30).trans ((bindv_eq er31).trans (if_pos c32)))))))
        · skip
          obtain ⟨r33, er33⟩ : ∃ z : Int32 × Lr, m_X4_put r31.2 (Lr.te r31.2 + Lr.nu r31.2) = z := ⟨_, rfl⟩
          have hr33 := c_X4_put l hf r31.2 (Lr.te r31.2 + Lr.nu r31.2)
          rw [er33] at hr33
          refine CALL_same (r := some (.int r33.1)) (h1 := hLr r33.2) (by omega) (hr33) ?_
          refine And.intro (fun c34 => ?_) (fun c34 => ?_)
          · skip
            refine hJ 52 _ _ _ ?_
            exact And.intro xb0 (DPis (F := (fun z => hLr z)) (s' := r33.2) ((if_neg c1).trans ((if_neg c15).trans ((bindv_eq er29).trans ((if_neg c30).trans ((bindv_eq er31).trans ((if_neg c32).trans ((bindv_eq er33).trans (if_pos c34)))))))))
          · skip
            refine hJ 53 _ _ _ ?_
            exact And.intro xb1 (DPis (F := (fun z => hLr z)) (s' := r33.2) ((if_neg c1).trans ((if_neg c15).trans ((bindv_eq er29).trans ((if_neg c30).trans ((bindv_eq er31).trans ((if_neg c32).trans ((bindv_eq er33).trans (if_neg c34)))))))))
def part_n : Nat → Int32 → Lr → Int32 × Lr
  | 0 => fun _ s => (0, s)
  | k + 1 => fun op s => m_X4_readPart s (part_n k (op + nI 1)) op
theorem c_part (l : Launch) {fv : Value} (hf : FV fv) : ∀ (k o : Nat), o + k = 6 → 0 < k → ∀ s : Lr, CT l fv (10 + 3 * k) jX4_readPart [.ref 0, .int (nI o)] (hLr s) (DP (some (.int (part_n k (nI o) s).1)) (hLr (part_n k (nI o) s).2))
  | 0, o, _, h, s => by omega
  | k + 1, o, h, _, s => by
    rw [show 10 + 3 * (k + 1) = 10 + 3 * k + 3 by omega]
    refine c_X4_readPart l hf s (part_n k (nI o + nI 1)) (nI o) (by omega) (fun ho s => ?_)
    have h5 : o < 5 := (nI_ltI (by omega) (by decide)).mp ho
    rw [nI_add]
    exact c_part l hf k (o + 1) (by omega) (by omega) s
def m_X4_eitherT (s : Lr) : Int32 × Lr := m_X4_readEither s (part_n 6 (nI 0)) (nI 0)
theorem c_X4_eitherT (l : Launch) {fv : Value} (hf : FV fv) (s : Lr) : CT l fv 30 jX4_readEither [.ref 0, .int (nI 0)] (hLr s) (DP (some (.int (m_X4_eitherT s).1)) (hLr (m_X4_eitherT s).2)) :=
  c_X4_readEither l hf s (part_n 6 (nI 0)) (nI 0) (d := 28) (by decide) (c_part l hf 6 0 rfl (by decide))
def m_X4_readClause (s : Lr) : Int32 × Lr := if Lr.si s = nI 107 then (bindv (m_X4_takeWord_1000 s) (fun r2 => if r2.1 = 0 then (nI 0, r2.2) else (bindv (m_X4_readNumber r2.2) (fun r4 => if r4.1 = 0 then (nI 0, r4.2) else (nI 1, (Lr.st r4.2, Lr.sz r4.2, Lr.nu r4.2, Lr.pa r4.2, Lr.sg r4.2, Lr.at r4.2, Lr.si r4.2, Lr.te r4.2, Lr.nu r4.2, Lr.tp r4.2)))))) else (if Lr.si s = nI 112 then (bindv (m_X4_takeWord_1001 s) (fun r8 => if r8.1 = 0 then (nI 0, r8.2) else (bindv (m_X4_readNumber r8.2) (fun r10 => if r10.1 = 0 then (nI 0, r10.2) else (nI 1, (Lr.st r10.2, Lr.sz r10.2, Lr.ke r10.2, Lr.nu r10.2, Lr.sg r10.2, Lr.at r10.2, Lr.si r10.2, Lr.te r10.2, Lr.nu r10.2, Lr.tp r10.2)))))) else (if Lr.si s = nI 108 then (bindv (m_X4_takeWord_1002 s) (fun r15 => if r15.1 = 0 then (nI 0, r15.2) else (bindv (m_X4_readNumber r15.2) (fun r17 => if r17.1 = 0 then (nI 0, r17.2) else (bindv (m_X4_take r17.2 (nI 32)) (fun r22 => if r22.1 = 0 then (nI 0, r22.2) else (bindv (m_X4_eitherT r22.2) (fun r24 => if r24.1 = 0 then (nI 0, r24.2) else (bindv (m_X4_put r24.2 (nI 10000 + Lr.nu r17.2)) (fun r26 => if r26.1 = 0 then (nI 0, r26.2) else (nI 1, r26.2))))))))))) else (bindv (m_X4_takeWord_1003 s) (fun r28 => if r28.1 = 0 then (nI 0, r28.2) else (bindv (m_X4_readNumber r28.2) (fun r30 => if r30.1 = 0 then (nI 0, r30.2) else (bindv (m_X4_take r30.2 (nI 32)) (fun r35 => if r35.1 = 0 then (nI 0, r35.2) else (bindv (m_X4_eitherT r35.2) (fun r37 => if r37.1 = 0 then (nI 0, r37.2) else (bindv (m_X4_put r37.2 (nI 20000 + Lr.nu r30.2)) (fun r39 => if r39.1 = 0 then (nI 0, r39.2) else (nI 1, r39.2)))))))))))))
set_option maxRecDepth 100000 in
set_option maxHeartbeats 4000000 in
theorem c_X4_readClause (l : Launch) {fv : Value} (hf : FV fv) (s : Lr) : CT l fv 31 jX4_readClause [.ref 0] (hLr s) (DP (some (.int (m_X4_readClause s).1)) (hLr ((m_X4_readClause s).2))) := by
  refine CT_of [] mt_X4_readClause (by decide +kernel) (tab_X4 hf) okX4_readClause (Nat.le_of_ble_eq_true rfl) ?_
  intro J hJ hD
  refine hJ 0 _ _ _ ?_
  by_cases hk1 : Lr.si s = nI 107
  · skip
    refine CALL_sub (h' := hLr s) [] (by decide) (c_X4_wordOf_w0 l hf (Lr.si s) hk1) rfl rfl (by decide) (by decide) rfl ?_
    obtain ⟨r2, er2⟩ : ∃ z : Int32 × Lr, m_X4_takeWord_1000 s = z := ⟨_, rfl⟩
    have hr2 := c_X4_takeWord_1000 l hf s
    rw [er2] at hr2
    refine CALL_same (r := some (.int r2.1)) (h1 := hLr r2.2) (by decide) (hr2) ?_
    refine And.intro (fun c3 => ?_) (fun c3 => ?_)
    · skip
      refine hJ 23 _ _ _ ?_
      exact And.intro xb0 (DPis (F := (fun z => hLr z)) (s' := r2.2) ((if_pos hk1).trans ((bindv_eq er2).trans (if_pos c3))))
    · skip
      obtain ⟨r4, er4⟩ : ∃ z : Int32 × Lr, m_X4_readNumber r2.2 = z := ⟨_, rfl⟩
      have hr4 := c_X4_readNumber l hf r2.2
      rw [er4] at hr4
      refine CALL_same (r := some (.int r4.1)) (h1 := hLr r4.2) (by decide) (hr4) ?_
      refine And.intro (fun c5 => ?_) (fun c5 => ?_)
      · skip
        refine hJ 25 _ _ _ ?_
        refine And.intro (fun c6 => absurd hk1 c6) (fun c6 => ?_)
        refine And.intro True.intro ?_
        exact And.intro xb1 (DPis (F := (fun z => hLr z)) (s' := (Lr.st r4.2, Lr.sz r4.2, Lr.nu r4.2, Lr.pa r4.2, Lr.sg r4.2, Lr.at r4.2, Lr.si r4.2, Lr.te r4.2, Lr.nu r4.2, Lr.tp r4.2)) ((if_pos hk1).trans ((bindv_eq er2).trans ((if_neg c3).trans ((bindv_eq er4).trans (if_neg c5))))))
      · skip
        exact And.intro xb0 (DPis (F := (fun z => hLr z)) (s' := r4.2) ((if_pos hk1).trans ((bindv_eq er2).trans ((if_neg c3).trans ((bindv_eq er4).trans (if_pos c5))))))
  by_cases hk7 : Lr.si s = nI 112
  · skip
    refine CALL_sub (h' := hLr s) [] (by decide) (c_X4_wordOf_w1 l hf (Lr.si s) hk7) rfl rfl (by decide) (by decide) rfl ?_
    obtain ⟨r8, er8⟩ : ∃ z : Int32 × Lr, m_X4_takeWord_1001 s = z := ⟨_, rfl⟩
    have hr8 := c_X4_takeWord_1001 l hf s
    rw [er8] at hr8
    refine CALL_same (r := some (.int r8.1)) (h1 := hLr r8.2) (by decide) (hr8) ?_
    refine And.intro (fun c9 => ?_) (fun c9 => ?_)
    · skip
      refine hJ 23 _ _ _ ?_
      exact And.intro xb0 (DPis (F := (fun z => hLr z)) (s' := r8.2) ((if_neg hk1).trans ((if_pos hk7).trans ((bindv_eq er8).trans (if_pos c9)))))
    · skip
      obtain ⟨r10, er10⟩ : ∃ z : Int32 × Lr, m_X4_readNumber r8.2 = z := ⟨_, rfl⟩
      have hr10 := c_X4_readNumber l hf r8.2
      rw [er10] at hr10
      refine CALL_same (r := some (.int r10.1)) (h1 := hLr r10.2) (by decide) (hr10) ?_
      refine And.intro (fun c11 => ?_) (fun c11 => ?_)
      · skip
        refine hJ 25 _ _ _ ?_
        refine And.intro (fun c12 => ?_) (fun c12 => absurd c12 hk1)
        refine hJ 41 _ _ _ ?_
        refine And.intro (fun c13 => absurd hk7 c13) (fun c13 => ?_)
        refine And.intro True.intro ?_
        exact And.intro xb1 (DPis (F := (fun z => hLr z)) (s' := (Lr.st r10.2, Lr.sz r10.2, Lr.ke r10.2, Lr.nu r10.2, Lr.sg r10.2, Lr.at r10.2, Lr.si r10.2, Lr.te r10.2, Lr.nu r10.2, Lr.tp r10.2)) ((if_neg hk1).trans ((if_pos hk7).trans ((bindv_eq er8).trans ((if_neg c9).trans ((bindv_eq er10).trans (if_neg c11)))))))
      · skip
        exact And.intro xb0 (DPis (F := (fun z => hLr z)) (s' := r10.2) ((if_neg hk1).trans ((if_pos hk7).trans ((bindv_eq er8).trans ((if_neg c9).trans ((bindv_eq er10).trans (if_pos c11)))))))
  by_cases hk14 : Lr.si s = nI 108
  · skip
    refine CALL_sub (h' := hLr s) [] (by decide) (c_X4_wordOf_w2 l hf (Lr.si s) hk14) rfl rfl (by decide) (by decide) rfl ?_
    obtain ⟨r15, er15⟩ : ∃ z : Int32 × Lr, m_X4_takeWord_1002 s = z := ⟨_, rfl⟩
    have hr15 := c_X4_takeWord_1002 l hf s
    rw [er15] at hr15
    refine CALL_same (r := some (.int r15.1)) (h1 := hLr r15.2) (by decide) (hr15) ?_
    refine And.intro (fun c16 => ?_) (fun c16 => ?_)
    · skip
      refine hJ 23 _ _ _ ?_
      exact And.intro xb0 (DPis (F := (fun z => hLr z)) (s' := r15.2) ((if_neg hk1).trans ((if_neg hk7).trans ((if_pos hk14).trans ((bindv_eq er15).trans (if_pos c16))))))
    · skip
      obtain ⟨r17, er17⟩ : ∃ z : Int32 × Lr, m_X4_readNumber r15.2 = z := ⟨_, rfl⟩
      have hr17 := c_X4_readNumber l hf r15.2
      rw [er17] at hr17
      refine CALL_same (r := some (.int r17.1)) (h1 := hLr r17.2) (by decide) (hr17) ?_
      refine And.intro (fun c18 => ?_) (fun c18 => ?_)
      · skip
        refine hJ 25 _ _ _ ?_
        refine And.intro (fun c19 => ?_) (fun c19 => absurd c19 hk1)
        refine hJ 41 _ _ _ ?_
        refine And.intro (fun c20 => ?_) (fun c20 => absurd c20 hk7)
        refine hJ 57 _ _ _ ?_
        refine And.intro (fun c21 => absurd hk14 c21) (fun c21 => ?_)
        refine hJ 72 _ _ _ ?_
        obtain ⟨r22, er22⟩ : ∃ z : Int32 × Lr, m_X4_take r17.2 (nI 32) = z := ⟨_, rfl⟩
        have hr22 := c_X4_take l hf r17.2 (nI 32)
        rw [er22] at hr22
        refine CALL_same (r := some (.int r22.1)) (h1 := hLr r22.2) (by decide) (hr22) ?_
        refine And.intro (fun c23 => ?_) (fun c23 => ?_)
        · skip
          refine hJ 107 _ _ _ ?_
          exact And.intro xb0 (DPis (F := (fun z => hLr z)) (s' := r22.2) ((if_neg hk1).trans ((if_neg hk7).trans ((if_pos hk14).trans ((bindv_eq er15).trans ((if_neg c16).trans ((bindv_eq er17).trans ((if_neg c18).trans ((bindv_eq er22).trans (if_pos c23))))))))))
        · skip
          obtain ⟨r24, er24⟩ : ∃ z : Int32 × Lr, m_X4_eitherT r22.2 = z := ⟨_, rfl⟩
          have hr24 := c_X4_eitherT l hf r22.2
          rw [er24] at hr24
          refine CALL_same (r := some (.int r24.1)) (h1 := hLr r24.2) (by decide) (hr24) ?_
          refine And.intro (fun c25 => ?_) (fun c25 => ?_)
          · skip
            refine hJ 107 _ _ _ ?_
            exact And.intro xb0 (DPis (F := (fun z => hLr z)) (s' := r24.2) ((if_neg hk1).trans ((if_neg hk7).trans ((if_pos hk14).trans ((bindv_eq er15).trans ((if_neg c16).trans ((bindv_eq er17).trans ((if_neg c18).trans ((bindv_eq er22).trans ((if_neg c23).trans ((bindv_eq er24).trans (if_pos c25))))))))))))
          · skip
            obtain ⟨r26, er26⟩ : ∃ z : Int32 × Lr, m_X4_put r24.2 (nI 10000 + Lr.nu r17.2) = z := ⟨_, rfl⟩
            have hr26 := c_X4_put l hf r24.2 (nI 10000 + Lr.nu r17.2)
            rw [er26] at hr26
            refine CALL_same (r := some (.int r26.1)) (h1 := hLr r26.2) (by decide) (hr26) ?_
            refine And.intro (fun c27 => ?_) (fun c27 => ?_)
            · skip
              refine hJ 107 _ _ _ ?_
              exact And.intro xb0 (DPis (F := (fun z => hLr z)) (s' := r26.2) ((if_neg hk1).trans ((if_neg hk7).trans ((if_pos hk14).trans ((bindv_eq er15).trans ((if_neg c16).trans ((bindv_eq er17).trans ((if_neg c18).trans ((bindv_eq er22).trans ((if_neg c23).trans ((bindv_eq er24).trans ((if_neg c25).trans ((bindv_eq er26).trans (if_pos c27))))))))))))))
            · skip
              refine hJ 108 _ _ _ ?_
              exact And.intro xb1 (DPis (F := (fun z => hLr z)) (s' := r26.2) ((if_neg hk1).trans ((if_neg hk7).trans ((if_pos hk14).trans ((bindv_eq er15).trans ((if_neg c16).trans ((bindv_eq er17).trans ((if_neg c18).trans ((bindv_eq er22).trans ((if_neg c23).trans ((bindv_eq er24).trans ((if_neg c25).trans ((bindv_eq er26).trans (if_neg c27))))))))))))))
      · skip
        exact And.intro xb0 (DPis (F := (fun z => hLr z)) (s' := r17.2) ((if_neg hk1).trans ((if_neg hk7).trans ((if_pos hk14).trans ((bindv_eq er15).trans ((if_neg c16).trans ((bindv_eq er17).trans (if_pos c18))))))))
  refine CALL_sub (h' := hLr s) [] (by decide) (c_X4_wordOf_w3 l hf (Lr.si s) hk1 hk7 hk14) rfl rfl (by decide) (by decide) rfl ?_
  obtain ⟨r28, er28⟩ : ∃ z : Int32 × Lr, m_X4_takeWord_1003 s = z := ⟨_, rfl⟩
  have hr28 := c_X4_takeWord_1003 l hf s
  rw [er28] at hr28
  refine CALL_same (r := some (.int r28.1)) (h1 := hLr r28.2) (by decide) (hr28) ?_
  refine And.intro (fun c29 => ?_) (fun c29 => ?_)
  · skip
    refine hJ 23 _ _ _ ?_
    exact And.intro xb0 (DPis (F := (fun z => hLr z)) (s' := r28.2) ((if_neg hk1).trans ((if_neg hk7).trans ((if_neg hk14).trans ((bindv_eq er28).trans (if_pos c29))))))
  · skip
    obtain ⟨r30, er30⟩ : ∃ z : Int32 × Lr, m_X4_readNumber r28.2 = z := ⟨_, rfl⟩
    have hr30 := c_X4_readNumber l hf r28.2
    rw [er30] at hr30
    refine CALL_same (r := some (.int r30.1)) (h1 := hLr r30.2) (by decide) (hr30) ?_
    refine And.intro (fun c31 => ?_) (fun c31 => ?_)
    · skip
      refine hJ 25 _ _ _ ?_
      refine And.intro (fun c32 => ?_) (fun c32 => absurd c32 hk1)
      refine hJ 41 _ _ _ ?_
      refine And.intro (fun c33 => ?_) (fun c33 => absurd c33 hk7)
      refine hJ 57 _ _ _ ?_
      refine And.intro (fun c34 => ?_) (fun c34 => absurd c34 hk14)
      refine hJ 69 _ _ _ ?_
      obtain ⟨r35, er35⟩ : ∃ z : Int32 × Lr, m_X4_take r30.2 (nI 32) = z := ⟨_, rfl⟩
      have hr35 := c_X4_take l hf r30.2 (nI 32)
      rw [er35] at hr35
      refine CALL_same (r := some (.int r35.1)) (h1 := hLr r35.2) (by decide) (hr35) ?_
      refine And.intro (fun c36 => ?_) (fun c36 => ?_)
      · skip
        refine hJ 107 _ _ _ ?_
        exact And.intro xb0 (DPis (F := (fun z => hLr z)) (s' := r35.2) ((if_neg hk1).trans ((if_neg hk7).trans ((if_neg hk14).trans ((bindv_eq er28).trans ((if_neg c29).trans ((bindv_eq er30).trans ((if_neg c31).trans ((bindv_eq er35).trans (if_pos c36))))))))))
      · skip
        obtain ⟨r37, er37⟩ : ∃ z : Int32 × Lr, m_X4_eitherT r35.2 = z := ⟨_, rfl⟩
        have hr37 := c_X4_eitherT l hf r35.2
        rw [er37] at hr37
        refine CALL_same (r := some (.int r37.1)) (h1 := hLr r37.2) (by decide) (hr37) ?_
        refine And.intro (fun c38 => ?_) (fun c38 => ?_)
        · skip
          refine hJ 107 _ _ _ ?_
          exact And.intro xb0 (DPis (F := (fun z => hLr z)) (s' := r37.2) ((if_neg hk1).trans ((if_neg hk7).trans ((if_neg hk14).trans ((bindv_eq er28).trans ((if_neg c29).trans ((bindv_eq er30).trans ((if_neg c31).trans ((bindv_eq er35).trans ((if_neg c36).trans ((bindv_eq er37).trans (if_pos c38))))))))))))
        · skip
          obtain ⟨r39, er39⟩ : ∃ z : Int32 × Lr, m_X4_put r37.2 (nI 20000 + Lr.nu r30.2) = z := ⟨_, rfl⟩
          have hr39 := c_X4_put l hf r37.2 (nI 20000 + Lr.nu r30.2)
          rw [er39] at hr39
          refine CALL_same (r := some (.int r39.1)) (h1 := hLr r39.2) (by decide) (hr39) ?_
          refine And.intro (fun c40 => ?_) (fun c40 => ?_)
          · skip
            refine hJ 107 _ _ _ ?_
            exact And.intro xb0 (DPis (F := (fun z => hLr z)) (s' := r39.2) ((if_neg hk1).trans ((if_neg hk7).trans ((if_neg hk14).trans ((bindv_eq er28).trans ((if_neg c29).trans ((bindv_eq er30).trans ((if_neg c31).trans ((bindv_eq er35).trans ((if_neg c36).trans ((bindv_eq er37).trans ((if_neg c38).trans ((bindv_eq er39).trans (if_pos c40))))))))))))))
          · skip
            refine hJ 108 _ _ _ ?_
            exact And.intro xb1 (DPis (F := (fun z => hLr z)) (s' := r39.2) ((if_neg hk1).trans ((if_neg hk7).trans ((if_neg hk14).trans ((bindv_eq er28).trans ((if_neg c29).trans ((bindv_eq er30).trans ((if_neg c31).trans ((bindv_eq er35).trans ((if_neg c36).trans ((bindv_eq er37).trans ((if_neg c38).trans ((bindv_eq er39).trans (if_neg c40))))))))))))))
    · skip
      exact And.intro xb0 (DPis (F := (fun z => hLr z)) (s' := r30.2) ((if_neg hk1).trans ((if_neg hk7).trans ((if_neg hk14).trans ((bindv_eq er28).trans ((if_neg c29).trans ((bindv_eq er30).trans (if_pos c31))))))))
def l_X4_read_37 (s : Ld) (x : Int32) (r1 : Lr) : Nat → Int32 → Fn → Int32 → Int32 → Int32 → Int32 → Int32 → Int32 → Int32 → Int32 → Fn → Int32 × Ld
  | 0, _, _, _, _, _, _, _, _, _, _, _ => (0, s)
  | n37 + 1, n, vst, vsz, vke, vpa, vsg, vat, vsi, vte, vnu, vta => if nI 10 < n then (vat, ((vst, vsz, vke, vpa, (Value.ref 2), vsg, vat, vsi, vte, vnu), vta)) else (bindv (m_X4_readClause (vst, vsz, vke, vpa, vsg, vat, vsi, vte, vnu, vta)) (fun r3 => if r3.1 = 0 then (Lr.at r3.2, ((Lr.st r3.2, Lr.sz r3.2, Lr.ke r3.2, Lr.pa r3.2, (Value.ref 2), Lr.sg r3.2, Lr.at r3.2, Lr.si r3.2, Lr.te r3.2, Lr.nu r3.2), Lr.tp r3.2)) else (if Lr.si r3.2 = (-nI 1) then ((-nI 1), ((Lr.st r3.2, Lr.sz r3.2, Lr.ke r3.2, Lr.pa r3.2, (Value.ref 2), Lr.sg r3.2, Lr.at r3.2, Lr.si r3.2, Lr.te r3.2, Lr.nu r3.2), Lr.tp r3.2)) else (if n = nI 10 then (Lr.at r3.2, ((Lr.st r3.2, Lr.sz r3.2, Lr.ke r3.2, Lr.pa r3.2, (Value.ref 2), Lr.sg r3.2, Lr.at r3.2, Lr.si r3.2, Lr.te r3.2, Lr.nu r3.2), Lr.tp r3.2)) else (bindv (m_X4_take r3.2 (nI 59)) (fun r7 => if r7.1 = 0 then (Lr.at r7.2, ((Lr.st r7.2, Lr.sz r7.2, Lr.ke r7.2, Lr.pa r7.2, (Value.ref 2), Lr.sg r7.2, Lr.at r7.2, Lr.si r7.2, Lr.te r7.2, Lr.nu r7.2), Lr.tp r7.2)) else l_X4_read_37 s x r1 n37 (n + nI 1) (Lr.st r7.2) (Lr.sz r7.2) (Lr.ke r7.2) (Lr.pa r7.2) (Lr.sg r7.2) (Lr.at r7.2) (Lr.si r7.2) (Lr.te r7.2) (Lr.nu r7.2) (Lr.tp r7.2)))))))
theorem q_X4_read_37 (s : Ld) (x : Int32) (r1 : Lr) (n37 : Nat) (n : Int32) (vst : Fn) (vsz : Int32) (vke : Int32) (vpa : Int32) (vsg : Int32) (vat : Int32) (vsi : Int32) (vte : Int32) (vnu : Int32) (vta : Fn) : l_X4_read_37 s x r1 (n37 + 1) n vst vsz vke vpa vsg vat vsi vte vnu vta = (if nI 10 < n then (vat, ((vst, vsz, vke, vpa, (Value.ref 2), vsg, vat, vsi, vte, vnu), vta)) else (bindv (m_X4_readClause (vst, vsz, vke, vpa, vsg, vat, vsi, vte, vnu, vta)) (fun r3 => if r3.1 = 0 then (Lr.at r3.2, ((Lr.st r3.2, Lr.sz r3.2, Lr.ke r3.2, Lr.pa r3.2, (Value.ref 2), Lr.sg r3.2, Lr.at r3.2, Lr.si r3.2, Lr.te r3.2, Lr.nu r3.2), Lr.tp r3.2)) else (if Lr.si r3.2 = (-nI 1) then ((-nI 1), ((Lr.st r3.2, Lr.sz r3.2, Lr.ke r3.2, Lr.pa r3.2, (Value.ref 2), Lr.sg r3.2, Lr.at r3.2, Lr.si r3.2, Lr.te r3.2, Lr.nu r3.2), Lr.tp r3.2)) else (if n = nI 10 then (Lr.at r3.2, ((Lr.st r3.2, Lr.sz r3.2, Lr.ke r3.2, Lr.pa r3.2, (Value.ref 2), Lr.sg r3.2, Lr.at r3.2, Lr.si r3.2, Lr.te r3.2, Lr.nu r3.2), Lr.tp r3.2)) else (bindv (m_X4_take r3.2 (nI 59)) (fun r7 => if r7.1 = 0 then (Lr.at r7.2, ((Lr.st r7.2, Lr.sz r7.2, Lr.ke r7.2, Lr.pa r7.2, (Value.ref 2), Lr.sg r7.2, Lr.at r7.2, Lr.si r7.2, Lr.te r7.2, Lr.nu r7.2), Lr.tp r7.2)) else l_X4_read_37 s x r1 n37 (n + nI 1) (Lr.st r7.2) (Lr.sz r7.2) (Lr.ke r7.2) (Lr.pa r7.2) (Lr.sg r7.2) (Lr.at r7.2) (Lr.si r7.2) (Lr.te r7.2) (Lr.nu r7.2) (Lr.tp r7.2)))))))) := rfl
def m_X4_read (s : Ld) (x : Int32) : Int32 × Ld := bindv (m_X4_advance (Lg.st (Ld.l s), nI 0, nI 4, nI 6, x, (-nI 1), Lg.si (Ld.l s), Lg.te (Ld.l s), Lg.nu (Ld.l s), Ld.ta s)) (fun r1 => l_X4_read_37 s x r1 11 (nI 1) (Lr.st r1) (Lr.sz r1) (Lr.ke r1) (Lr.pa r1) (Lr.sg r1) (Lr.at r1) (Lr.si r1) (Lr.te r1) (Lr.nu r1) (Lr.tp r1))
set_option maxRecDepth 100000 in
set_option maxHeartbeats 4000000 in
theorem c_X4_read (l : Launch) {fv : Value} (hf : FV fv) (s : Ld) (x : Int32) : CT l fv 32 jX4_read [.ref 0, .ref 2, .int x] (hLd s) (DP (some (.int (m_X4_read s x).1)) (hLd ((m_X4_read s x).2))) := by
  refine CT_of [37] mt_X4_read (by decide +kernel) (tab_X4 hf) okX4_read (Nat.le_of_ble_eq_true rfl) ?_
  intro J hJ hD
  refine hJ 0 _ _ _ ?_
  refine And.intro True.intro ?_
  refine And.intro True.intro ?_
  refine And.intro True.intro ?_
  refine And.intro True.intro ?_
  refine And.intro True.intro ?_
  obtain ⟨r1, er1⟩ : ∃ z : Lr, m_X4_advance (Lg.st (Ld.l s), nI 0, nI 4, nI 6, x, (-nI 1), Lg.si (Ld.l s), Lg.te (Ld.l s), Lg.nu (Ld.l s), Ld.ta s) = z := ⟨_, rfl⟩
  have hr1 := c_X4_advance l hf (Lg.st (Ld.l s), nI 0, nI 4, nI 6, x, (-nI 1), Lg.si (Ld.l s), Lg.te (Ld.l s), Lg.nu (Ld.l s), Ld.ta s)
  rw [er1] at hr1
  refine CALL_sub (r := none) (h' := wLd (Lr.st r1, Lr.sz r1, Lr.ke r1, Lr.pa r1, (Value.ref 2), Lr.sg r1, Lr.at r1, Lr.si r1, Lr.te r1, Lr.nu r1) (Lr.tp r1)) [0, 1, 2] (by decide) (hr1) rfl rfl (by decide) (by decide) rfl ?_
  have L37 : ∀ (n37 : Nat) (n : Int32) (vst : Fn) (vsz : Int32) (vke : Int32) (vpa : Int32) (vsg : Int32) (vat : Int32) (vsi : Int32) (vte : Int32) (vnu : Int32) (vta : Fn), (∃ z9 : Nat, z9 ≤ 11 ∧ n37 + z9 = 12 ∧ n = nI z9) → m_X4_read s x = l_X4_read_37 s x r1 n37 n vst vsz vke vpa vsg vat vsi vte vnu vta → J 37 [(0, .ref 0), (3, .int n)] [] (wLd (vst, vsz, vke, vpa, (Value.ref 2), vsg, vat, vsi, vte, vnu) vta) := by
    intro n37
    induction n37 with
    | zero =>
      intro n vst vsz vke vpa vsg vat vsi vte vnu vta hv
      obtain ⟨z9, h1, h2, h3⟩ := hv
      omega
    | succ n37 ih37 =>
      intro n vst vsz vke vpa vsg vat vsi vte vnu vta hv e37
      obtain ⟨z9, h1, h2, h3⟩ := hv
      refine hJ 37 _ _ _ ?_
      refine And.intro (fun c2 => ?_) (fun c2 => ?_)
      · skip
        refine hJ 91 _ _ _ ?_
        exact And.intro True.intro (DPis (F := (fun z => hLd z)) (s' := ((vst, vsz, vke, vpa, (Value.ref 2), vsg, vat, vsi, vte, vnu), vta)) (e37.trans ((q_X4_read_37 s x r1 n37 n vst vsz vke vpa vsg vat vsi vte vnu vta).trans (if_pos c2))))
      · skip
        have h4 : z9 ≤ 10 := cnt_le h3 (by omega) (by decide) c2
        obtain ⟨r3, er3⟩ : ∃ z : Int32 × Lr, m_X4_readClause (vst, vsz, vke, vpa, vsg, vat, vsi, vte, vnu, vta) = z := ⟨_, rfl⟩
        have hr3 := c_X4_readClause l hf (vst, vsz, vke, vpa, vsg, vat, vsi, vte, vnu, vta)
        rw [er3] at hr3
        refine CALL_sub (r := some (.int r3.1)) (h' := wLd (Lr.st r3.2, Lr.sz r3.2, Lr.ke r3.2, Lr.pa r3.2, (Value.ref 2), Lr.sg r3.2, Lr.at r3.2, Lr.si r3.2, Lr.te r3.2, Lr.nu r3.2) (Lr.tp r3.2)) [0, 1, 2] (by decide) (hr3) rfl rfl (by decide) (by decide) rfl ?_
        refine And.intro (fun c4 => ?_) (fun c4 => ?_)
        · skip
          refine hJ 55 _ _ _ ?_
          refine And.intro (fun c5 => ?_) (fun c5 => ?_)
          · skip
            refine hJ 65 _ _ _ ?_
            refine And.intro (fun c6 => ?_) (fun c6 => ?_)
            · skip
              refine hJ 80 _ _ _ ?_
              exact And.intro True.intro (DPis (F := (fun z => hLd z)) (s' := ((Lr.st r3.2, Lr.sz r3.2, Lr.ke r3.2, Lr.pa r3.2, (Value.ref 2), Lr.sg r3.2, Lr.at r3.2, Lr.si r3.2, Lr.te r3.2, Lr.nu r3.2), Lr.tp r3.2)) (e37.trans ((q_X4_read_37 s x r1 n37 n vst vsz vke vpa vsg vat vsi vte vnu vta).trans ((if_neg c2).trans ((bindv_eq er3).trans ((if_neg c4).trans ((if_neg c5).trans (if_pos c6))))))))
            · skip
              obtain ⟨r7, er7⟩ : ∃ z : Int32 × Lr, m_X4_take r3.2 (nI 59) = z := ⟨_, rfl⟩
              have hr7 := c_X4_take l hf r3.2 (nI 59)
              rw [er7] at hr7
              refine CALL_sub (r := some (.int r7.1)) (h' := wLd (Lr.st r7.2, Lr.sz r7.2, Lr.ke r7.2, Lr.pa r7.2, (Value.ref 2), Lr.sg r7.2, Lr.at r7.2, Lr.si r7.2, Lr.te r7.2, Lr.nu r7.2) (Lr.tp r7.2)) [0, 1, 2] (by decide) (hr7) rfl rfl (by decide) (by decide) rfl ?_
              refine And.intro (fun c8 => ?_) (fun c8 => ?_)
              · skip
                refine hJ 85 _ _ _ ?_
                exact hD _ _ [1, 0] _ _ (ih37 _ _ _ _ _ _ _ _ _ _ _ ⟨z9 + 1, by omega, by omega, by rw [h3]; exact nI_add z9 1⟩ (e37.trans ((q_X4_read_37 s x r1 n37 n vst vsz vke vpa vsg vat vsi vte vnu vta).trans ((if_neg c2).trans ((bindv_eq er3).trans ((if_neg c4).trans ((if_neg c5).trans ((if_neg c6).trans ((bindv_eq er7).trans (if_neg c8))))))))))
              · skip
                exact And.intro True.intro (DPis (F := (fun z => hLd z)) (s' := ((Lr.st r7.2, Lr.sz r7.2, Lr.ke r7.2, Lr.pa r7.2, (Value.ref 2), Lr.sg r7.2, Lr.at r7.2, Lr.si r7.2, Lr.te r7.2, Lr.nu r7.2), Lr.tp r7.2)) (e37.trans ((q_X4_read_37 s x r1 n37 n vst vsz vke vpa vsg vat vsi vte vnu vta).trans ((if_neg c2).trans ((bindv_eq er3).trans ((if_neg c4).trans ((if_neg c5).trans ((if_neg c6).trans ((bindv_eq er7).trans (if_pos c8))))))))))
          · skip
            exact And.intro True.intro (DPis (F := (fun z => hLd z)) (s' := ((Lr.st r3.2, Lr.sz r3.2, Lr.ke r3.2, Lr.pa r3.2, (Value.ref 2), Lr.sg r3.2, Lr.at r3.2, Lr.si r3.2, Lr.te r3.2, Lr.nu r3.2), Lr.tp r3.2)) (e37.trans ((q_X4_read_37 s x r1 n37 n vst vsz vke vpa vsg vat vsi vte vnu vta).trans ((if_neg c2).trans ((bindv_eq er3).trans ((if_neg c4).trans (if_pos c5)))))))
        · skip
          exact And.intro True.intro (DPis (F := (fun z => hLd z)) (s' := ((Lr.st r3.2, Lr.sz r3.2, Lr.ke r3.2, Lr.pa r3.2, (Value.ref 2), Lr.sg r3.2, Lr.at r3.2, Lr.si r3.2, Lr.te r3.2, Lr.nu r3.2), Lr.tp r3.2)) (e37.trans ((q_X4_read_37 s x r1 n37 n vst vsz vke vpa vsg vat vsi vte vnu vta).trans ((if_neg c2).trans ((bindv_eq er3).trans (if_pos c4))))))
  exact hD _ _ [1, 0] _ _ (L37 11 _ _ _ _ _ _ _ _ _ _ _ ⟨1, by decide, by decide, rfl⟩ (bindv_eq er1))

/-! printed by wip/whole/gen/specs53.py: how the class reads a ledge -/
abbrev Lr : Type := Fn × Int32 × Int32 × Int32 × Int32 × Int32 × Int32 × Int32 × Int32 × Fn
def Lr.st (s : Lr) : Fn := s.1
def Lr.sz (s : Lr) : Int32 := s.2.1
def Lr.ke (s : Lr) : Int32 := s.2.2.1
def Lr.pa (s : Lr) : Int32 := s.2.2.2.1
def Lr.sg (s : Lr) : Int32 := s.2.2.2.2.1
def Lr.at (s : Lr) : Int32 := s.2.2.2.2.2.1
def Lr.si (s : Lr) : Int32 := s.2.2.2.2.2.2.1
def Lr.te (s : Lr) : Int32 := s.2.2.2.2.2.2.2.1
def Lr.nu (s : Lr) : Int32 := s.2.2.2.2.2.2.2.2.1
def Lr.tp (s : Lr) : Fn := s.2.2.2.2.2.2.2.2.2
def wLr (zst : Fn) (zsz : Int32) (zke : Int32) (zpa : Int32) (zsg : Int32) (zat : Int32) (zsi : Int32) (zte : Int32) (znu : Int32) (ztp : Fn) : List AE := [.inr (4, [.ref 1, .int (zsz), .int (zke), .int (zpa), .ref 2, .int (zsg), .int (zat), .int (zsi), .int (zte), .int (znu)]), .inl (0, 100, .inl (zst)), .inl (1, 100, .inl (ztp))]
def hLr (s : Lr) : List AE := wLr (Lr.st s) (Lr.sz s) (Lr.ke s) (Lr.pa s) (Lr.sg s) (Lr.at s) (Lr.si s) (Lr.te s) (Lr.nu s) (Lr.tp s)
abbrev Ld : Type := Lg × Fn
def Ld.l (s : Ld) : Lg := s.1
def Ld.ta (s : Ld) : Fn := s.2
def wLd (zl : Lg) (zta : Fn) : List AE := [.inr (4, [.ref 1, .int (Lg.sz zl), .int (Lg.ke zl), .int (Lg.pa zl), Lg.tp zl, .int (Lg.sg zl), .int (Lg.at zl), .int (Lg.si zl), .int (Lg.te zl), .int (Lg.nu zl)]), .inl (0, 100, .inl (Lg.st zl)), .inl (1, 100, .inl zta)]
def hLd (s : Ld) : List AE := wLd (Ld.l s) (Ld.ta s)
def m_X4_advance (s : Lr) : Lr := bindv (if (Lr.at s + nI 1) < 0 then (-nI 1) else (if Lr.sg s ≤ (Lr.at s + nI 1) then (-nI 1) else (if nI 100 ≤ (Lr.at s + nI 1) then (-nI 1) else (Lr.tp s (Lr.at s + nI 1).toNatClampNeg)))) (fun x1_0 => (Lr.st s, Lr.sz s, Lr.ke s, Lr.pa s, Lr.sg s, (Lr.at s + nI 1), x1_0, Lr.te s, Lr.nu s, Lr.tp s))
set_option maxRecDepth 100000 in
set_option maxHeartbeats 4000000 in
theorem c_X4_advance (l : Launch) {fv : Value} (hf : FV fv) (s : Lr) : CT l fv 1 jX4_advance [.ref 0] (hLr s) (DP none (hLr (m_X4_advance s))) := by
  refine CT_of [61] mt_X4_advance (by decide +kernel) (tab_X4 hf) okX4_advance (Nat.le_of_ble_eq_true rfl) ?_
  intro J hJ hD
  refine hJ 0 _ _ _ ?_
  refine And.intro True.intro ?_
  have K1 : ∀ (x1_0 : Int32), (if (Lr.at s + nI 1) < 0 then (-nI 1) else (if Lr.sg s ≤ (Lr.at s + nI 1) then (-nI 1) else (if nI 100 ≤ (Lr.at s + nI 1) then (-nI 1) else (Lr.tp s (Lr.at s + nI 1).toNatClampNeg)))) = x1_0 → J 61 [] [.int x1_0, .ref 0] (wLr (Lr.st s) (Lr.sz s) (Lr.ke s) (Lr.pa s) (Lr.sg s) (Lr.at s + nI 1) (Lr.si s) (Lr.te s) (Lr.nu s) (Lr.tp s)) := by
    intro x1_0 ex1_0
    refine hJ 61 _ _ _ ?_
    refine And.intro True.intro ?_
    exact And.intro rfl (DPs (F := (fun z => hLr z)) (s' := (Lr.st s, Lr.sz s, Lr.ke s, Lr.pa s, Lr.sg s, (Lr.at s + nI 1), x1_0, Lr.te s, Lr.nu s, Lr.tp s)) (bindv_eq ex1_0))
  refine And.intro (fun c2 => ?_) (fun c2 => ?_)
  · skip
    refine hJ 60 _ _ _ ?_
    exact hD _ _ [] _ _ (K1 _ (if_pos c2))
  · skip
    have k1 := c2
    refine And.intro (fun c3 => ?_) (fun c3 => ?_)
    · skip
      refine hJ 60 _ _ _ ?_
      exact hD _ _ [] _ _ (K1 _ ((if_neg c2).trans (if_pos c3)))
    · skip
      refine And.intro (fun c4 => ?_) (fun c4 => ?_)
      · skip
        refine hJ 60 _ _ _ ?_
        exact hD _ _ [] _ _ (K1 _ ((if_neg c2).trans ((if_neg c3).trans (if_pos c4))))
      · skip
        have k2 := c4
        refine And.intro (vp_of3 k1 k2 (by decide)) ?_
        exact hD _ _ [] _ _ (K1 _ ((if_neg c2).trans ((if_neg c3).trans (if_neg c4))))
def m_X4_take (s : Lr) (x : Int32) : Int32 × Lr := if Lr.si s = x then (bindv (m_X4_advance s) (fun r2 => (nI 1, r2))) else (nI 0, s)
set_option maxRecDepth 100000 in
set_option maxHeartbeats 4000000 in
theorem c_X4_take (l : Launch) {fv : Value} (hf : FV fv) (s : Lr) (x : Int32) : CT l fv 2 jX4_take [.ref 0, .int x] (hLr s) (DP (some (.int (m_X4_take s x).1)) (hLr ((m_X4_take s x).2))) := by
  refine CT_of [] mt_X4_take (by decide +kernel) (tab_X4 hf) okX4_take (Nat.le_of_ble_eq_true rfl) ?_
  intro J hJ hD
  refine hJ 0 _ _ _ ?_
  refine And.intro (fun c1 => ?_) (fun c1 => ?_)
  · skip
    refine hJ 10 _ _ _ ?_
    obtain ⟨r2, er2⟩ : ∃ z : Lr, m_X4_advance s = z := ⟨_, rfl⟩
    have hr2 := c_X4_advance l hf s
    rw [er2] at hr2
    refine CALL_same (r := none) (h1 := hLr r2) (by decide) (hr2) ?_
    exact And.intro xb1 (DPis (F := (fun z => hLr z)) (s' := r2) ((if_pos c1).trans (bindv_eq er2)))
  · skip
    exact And.intro xb0 (DPis (F := (fun z => hLr z)) (s' := s) (if_neg c1))
def m_X4_put (s : Lr) (x : Int32) : Int32 × Lr := if Lr.sz s < 0 then (nI 0, s) else (if Lr.sz s < nI 100 then (nI 1, ((upd (Lr.st s) (Lr.sz s).toNatClampNeg x), (Lr.sz s + nI 1), Lr.ke s, Lr.pa s, Lr.sg s, Lr.at s, Lr.si s, Lr.te s, Lr.nu s, Lr.tp s)) else (nI 0, s))
set_option maxRecDepth 100000 in
set_option maxHeartbeats 4000000 in
theorem c_X4_put (l : Launch) {fv : Value} (hf : FV fv) (s : Lr) (x : Int32) : CT l fv 1 jX4_put [.ref 0, .int x] (hLr s) (DP (some (.int (m_X4_put s x).1)) (hLr ((m_X4_put s x).2))) := by
  refine CT_of [] mt_X4_put (by decide +kernel) (tab_X4 hf) okX4_put (Nat.le_of_ble_eq_true rfl) ?_
  intro J hJ hD
  refine hJ 0 _ _ _ ?_
  refine And.intro (fun c1 => ?_) (fun c1 => ?_)
  · skip
    refine hJ 19 _ _ _ ?_
    exact And.intro xb0 (DPis (F := (fun z => hLr z)) (s' := s) (if_pos c1))
  · skip
    have k1 := c1
    refine And.intro (fun c2 => ?_) (fun c2 => ?_)
    · skip
      have k2 := c2
      refine hJ 21 _ _ _ ?_
      refine And.intro (vp_of2 k1 k2 (by decide)) ?_
      refine And.intro True.intro ?_
      exact And.intro xb1 (DPis (F := (fun z => hLr z)) (s' := ((upd (Lr.st s) (Lr.sz s).toNatClampNeg x), (Lr.sz s + nI 1), Lr.ke s, Lr.pa s, Lr.sg s, Lr.at s, Lr.si s, Lr.te s, Lr.nu s, Lr.tp s)) ((if_neg c1).trans (if_pos c2)))
    · skip
      exact And.intro xb0 (DPis (F := (fun z => hLr z)) (s' := s) ((if_neg c1).trans (if_neg c2)))
def m_X4_isDigit  (x : Int32) : Int32 := if x < nI 48 then nI 0 else (if nI 57 < x then nI 0 else nI 1)
theorem bl_X4_isDigit  {x : Int32} : bl (m_X4_isDigit x) := by
  unfold m_X4_isDigit
  (repeat' split) <;> first | exact Or.inl rfl | exact Or.inr rfl
set_option maxRecDepth 100000 in
set_option maxHeartbeats 4000000 in
theorem c_X4_isDigit (l : Launch) {fv : Value} (hf : FV fv)  (x : Int32) : CT l fv 1 jX4_isDigit [.int x] ([]) (DP (some (.int (m_X4_isDigit x))) ([])) := by
  refine CT_of [] mt_X4_isDigit (by decide +kernel) (tab_X4 hf) okX4_isDigit (Nat.le_of_ble_eq_true rfl) ?_
  intro J hJ hD
  refine hJ 0 _ _ _ ?_
  refine And.intro (fun c1 => ?_) (fun c1 => ?_)
  · skip
    refine hJ 16 _ _ _ ?_
    exact And.intro xb0 (DPi (if_pos c1))
  · skip
    refine And.intro (fun c2 => ?_) (fun c2 => ?_)
    · skip
      refine hJ 16 _ _ _ ?_
      exact And.intro xb0 (DPi ((if_neg c1).trans (if_pos c2)))
    · skip
      refine hJ 17 _ _ _ ?_
      exact And.intro xb1 (DPi ((if_neg c1).trans (if_neg c2)))
def m_X4_placeOf_1004  (x : Int32) : Int32 := if x = (-nI 1) then (-nI 1) else (m_J0_indexOf_0f7a4_1004 ((x.toUInt32 % 65536).toInt32))
set_option maxRecDepth 100000 in
set_option maxHeartbeats 4000000 in
theorem c_X4_placeOf_1004 (l : Launch) {fv : Value} (hf : FV fv)  (x : Int32) : CT l fv 5 jX4_placeOf [.int x, .ref 1004] ([]) (DP (some (.int (m_X4_placeOf_1004 x))) ([])) := by
  refine CT_of [] mt_X4_placeOf (by decide +kernel) (tab_X4 hf) okX4_placeOf (Nat.le_of_ble_eq_true rfl) ?_
  intro J hJ hD
  refine hJ 0 _ _ _ ?_
  refine And.intro (fun c1 => ?_) (fun c1 => ?_)
  · skip
    refine hJ 9 _ _ _ ?_
    refine CALL_sub (h' := []) [] (by decide) (c_J0_indexOf_0f7a4_1004 l hf ((x.toUInt32 % 65536).toInt32)) rfl rfl (by decide) (by decide) rfl ?_
    exact And.intro True.intro (DPi (if_neg c1))
  · skip
    refine hJ 15 _ _ _ ?_
    exact And.intro True.intro (DPi (if_pos c1))
def m_X4_placeOf_1005  (x : Int32) : Int32 := if x = (-nI 1) then (-nI 1) else (m_J0_indexOf_0f7a4_1005 ((x.toUInt32 % 65536).toInt32))
set_option maxRecDepth 100000 in
set_option maxHeartbeats 4000000 in
theorem c_X4_placeOf_1005 (l : Launch) {fv : Value} (hf : FV fv)  (x : Int32) : CT l fv 5 jX4_placeOf [.int x, .ref 1005] ([]) (DP (some (.int (m_X4_placeOf_1005 x))) ([])) := by
  refine CT_of [] mt_X4_placeOf (by decide +kernel) (tab_X4 hf) okX4_placeOf (Nat.le_of_ble_eq_true rfl) ?_
  intro J hJ hD
  refine hJ 0 _ _ _ ?_
  refine And.intro (fun c1 => ?_) (fun c1 => ?_)
  · skip
    refine hJ 9 _ _ _ ?_
    refine CALL_sub (h' := []) [] (by decide) (c_J0_indexOf_0f7a4_1005 l hf ((x.toUInt32 % 65536).toInt32)) rfl rfl (by decide) (by decide) rfl ?_
    exact And.intro True.intro (DPi (if_neg c1))
  · skip
    refine hJ 15 _ _ _ ?_
    exact And.intro True.intro (DPi (if_pos c1))
def m_X4_readTest (s : Lr) : Int32 × Lr := if 0 ≤ (m_X4_placeOf_1004 (Lr.si s)) then (bindv (m_X4_advance s) (fun r2 => if 0 ≤ (m_X4_placeOf_1005 (Lr.si r2)) then (bindv (m_X4_advance r2) (fun r4 => (nI 1, (Lr.st r4, Lr.sz r4, Lr.ke r4, Lr.pa r4, Lr.sg r4, Lr.at r4, Lr.si r4, (((m_X4_placeOf_1004 (Lr.si s)) * nI 300) + ((m_X4_placeOf_1005 (Lr.si r2)) * nI 100)), Lr.nu r4, Lr.tp r4)))) else (nI 0, r2))) else (nI 0, s)
set_option maxRecDepth 100000 in
set_option maxHeartbeats 4000000 in
theorem c_X4_readTest (l : Launch) {fv : Value} (hf : FV fv) (s : Lr) : CT l fv 6 jX4_readTest [.ref 0] (hLr s) (DP (some (.int (m_X4_readTest s).1)) (hLr ((m_X4_readTest s).2))) := by
  refine CT_of [] mt_X4_readTest (by decide +kernel) (tab_X4 hf) okX4_readTest (Nat.le_of_ble_eq_true rfl) ?_
  intro J hJ hD
  refine hJ 0 _ _ _ ?_
  refine CALL_sub (h' := hLr s) [] (by decide) (c_X4_placeOf_1004 l hf (Lr.si s)) rfl rfl (by decide) (by decide) rfl ?_
  refine And.intro (fun c1 => ?_) (fun c1 => ?_)
  · skip
    refine hJ 16 _ _ _ ?_
    obtain ⟨r2, er2⟩ : ∃ z : Lr, m_X4_advance s = z := ⟨_, rfl⟩
    have hr2 := c_X4_advance l hf s
    rw [er2] at hr2
    refine CALL_same (r := none) (h1 := hLr r2) (by decide) (hr2) ?_
    refine CALL_sub (h' := hLr r2) [] (by decide) (c_X4_placeOf_1005 l hf (Lr.si r2)) rfl rfl (by decide) (by decide) rfl ?_
    refine And.intro (fun c3 => ?_) (fun c3 => ?_)
    · skip
      refine hJ 36 _ _ _ ?_
      obtain ⟨r4, er4⟩ : ∃ z : Lr, m_X4_advance r2 = z := ⟨_, rfl⟩
      have hr4 := c_X4_advance l hf r2
      rw [er4] at hr4
      refine CALL_same (r := none) (h1 := hLr r4) (by decide) (hr4) ?_
      refine And.intro True.intro ?_
      exact And.intro xb1 (DPis (F := (fun z => hLr z)) (s' := (Lr.st r4, Lr.sz r4, Lr.ke r4, Lr.pa r4, Lr.sg r4, Lr.at r4, Lr.si r4, (((m_X4_placeOf_1004 (Lr.si s)) * nI 300) + ((m_X4_placeOf_1005 (Lr.si r2)) * nI 100)), Lr.nu r4, Lr.tp r4)) ((if_pos c1).trans ((bindv_eq er2).trans ((if_pos c3).trans (bindv_eq er4)))))
    · skip
      exact And.intro xb0 (DPis (F := (fun z => hLr z)) (s' := r2) ((if_pos c1).trans ((bindv_eq er2).trans (if_neg c3))))
  · skip
    exact And.intro xb0 (DPis (F := (fun z => hLr z)) (s' := s) (if_neg c1))
def m_X4_readNumber (s : Lr) : Int32 × Lr := if (m_X4_isDigit (Lr.si s)) = 0 then (nI 0, s) else (bindv (m_X4_advance (Lr.st s, Lr.sz s, Lr.ke s, Lr.pa s, Lr.sg s, Lr.at s, Lr.si s, Lr.te s, (Lr.si s - nI 48), Lr.tp s)) (fun r2 => if Lr.nu r2 ≤ 0 then (nI 1, r2) else (if (m_X4_isDigit (Lr.si r2)) = 0 then (nI 1, r2) else (bindv (m_X4_advance (Lr.st r2, Lr.sz r2, Lr.ke r2, Lr.pa r2, Lr.sg r2, Lr.at r2, Lr.si r2, Lr.te r2, (((Lr.nu r2 * nI 10) + Lr.si r2) - nI 48), Lr.tp r2)) (fun r5 => (nI 1, r5))))))
set_option maxRecDepth 100000 in
set_option maxHeartbeats 4000000 in
theorem c_X4_readNumber (l : Launch) {fv : Value} (hf : FV fv) (s : Lr) : CT l fv 2 jX4_readNumber [.ref 0] (hLr s) (DP (some (.int (m_X4_readNumber s).1)) (hLr ((m_X4_readNumber s).2))) := by
  refine CT_of [] mt_X4_readNumber (by decide +kernel) (tab_X4 hf) okX4_readNumber (Nat.le_of_ble_eq_true rfl) ?_
  intro J hJ hD
  refine hJ 0 _ _ _ ?_
  refine CALL_sub (h' := hLr s) [] (by decide) (c_X4_isDigit l hf (Lr.si s)) rfl rfl (by decide) (by decide) rfl ?_
  refine And.intro (fun c1 => ?_) (fun c1 => ?_)
  · skip
    refine hJ 12 _ _ _ ?_
    refine And.intro True.intro ?_
    obtain ⟨r2, er2⟩ : ∃ z : Lr, m_X4_advance (Lr.st s, Lr.sz s, Lr.ke s, Lr.pa s, Lr.sg s, Lr.at s, Lr.si s, Lr.te s, (Lr.si s - nI 48), Lr.tp s) = z := ⟨_, rfl⟩
    have hr2 := c_X4_advance l hf (Lr.st s, Lr.sz s, Lr.ke s, Lr.pa s, Lr.sg s, Lr.at s, Lr.si s, Lr.te s, (Lr.si s - nI 48), Lr.tp s)
    rw [er2] at hr2
    refine CALL_same (r := none) (h1 := hLr r2) (by decide) (hr2) ?_
    refine And.intro (fun c3 => ?_) (fun c3 => ?_)
    · skip
      refine hJ 67 _ _ _ ?_
      exact And.intro xb1 (DPis (F := (fun z => hLr z)) (s' := r2) ((if_neg c1).trans ((bindv_eq er2).trans (if_pos c3))))
    · skip
      refine CALL_sub (h' := hLr r2) [] (by decide) (c_X4_isDigit l hf (Lr.si r2)) rfl rfl (by decide) (by decide) rfl ?_
      refine And.intro (fun c4 => ?_) (fun c4 => ?_)
      · skip
        refine hJ 67 _ _ _ ?_
        exact And.intro xb1 (DPis (F := (fun z => hLr z)) (s' := r2) ((if_neg c1).trans ((bindv_eq er2).trans ((if_neg c3).trans (if_pos c4)))))
      · skip
        refine And.intro True.intro ?_
        obtain ⟨r5, er5⟩ : ∃ z : Lr, m_X4_advance (Lr.st r2, Lr.sz r2, Lr.ke r2, Lr.pa r2, Lr.sg r2, Lr.at r2, Lr.si r2, Lr.te r2, (((Lr.nu r2 * nI 10) + Lr.si r2) - nI 48), Lr.tp r2) = z := ⟨_, rfl⟩
        have hr5 := c_X4_advance l hf (Lr.st r2, Lr.sz r2, Lr.ke r2, Lr.pa r2, Lr.sg r2, Lr.at r2, Lr.si r2, Lr.te r2, (((Lr.nu r2 * nI 10) + Lr.si r2) - nI 48), Lr.tp r2)
        rw [er5] at hr5
        refine CALL_same (r := none) (h1 := hLr r5) (by decide) (hr5) ?_
        exact And.intro xb1 (DPis (F := (fun z => hLr z)) (s' := r5) ((if_neg c1).trans ((bindv_eq er2).trans ((if_neg c3).trans ((if_neg c4).trans (bindv_eq er5))))))
  · skip
    exact And.intro xb0 (DPis (F := (fun z => hLr z)) (s' := s) (if_pos c1))
def l_X4_takeWord_1000_2 (s : Lr) : Nat → Int32 → Lr → Int32 × Lr
  | 0, _, _ => (0, s)
  | n2 + 1, k, m1 => if nI 5 ≤ k then (nI 1, m1) else (bindv (m_X4_take m1 (m_J0_charAt_5068e_1000 k)) (fun r2 => if r2.1 = 0 then (nI 0, r2.2) else l_X4_takeWord_1000_2 s n2 (k + nI 1) r2.2))
theorem q_X4_takeWord_1000_2 (s : Lr) (n2 : Nat) (k : Int32) (m1 : Lr) : l_X4_takeWord_1000_2 s (n2 + 1) k m1 = (if nI 5 ≤ k then (nI 1, m1) else (bindv (m_X4_take m1 (m_J0_charAt_5068e_1000 k)) (fun r2 => if r2.1 = 0 then (nI 0, r2.2) else l_X4_takeWord_1000_2 s n2 (k + nI 1) r2.2))) := rfl
def m_X4_takeWord_1000 (s : Lr) : Int32 × Lr := l_X4_takeWord_1000_2 s 6 (nI 0) s
set_option maxRecDepth 100000 in
set_option maxHeartbeats 4000000 in
theorem c_X4_takeWord_1000 (l : Launch) {fv : Value} (hf : FV fv) (s : Lr) : CT l fv 5 jX4_takeWord [.ref 0, .ref 1000] (hLr s) (DP (some (.int (m_X4_takeWord_1000 s).1)) (hLr ((m_X4_takeWord_1000 s).2))) := by
  refine CT_of [2] mt_X4_takeWord (by decide +kernel) (tab_X4 hf) okX4_takeWord (Nat.le_of_ble_eq_true rfl) ?_
  intro J hJ hD
  refine hJ 0 _ _ _ ?_
  have L2 : ∀ (n2 : Nat) (k : Int32) (m1 : Lr), (∃ z9 : Nat, z9 ≤ 5 ∧ n2 + z9 = 6 ∧ k = nI z9) → m_X4_takeWord_1000 s = l_X4_takeWord_1000_2 s n2 k m1 → J 2 [(0, .ref 0), (1, .ref 1000), (2, .int k)] [] (hLr m1) := by
    intro n2
    induction n2 with
    | zero =>
      intro k m1 hv
      obtain ⟨z9, h1, h2, h3⟩ := hv
      omega
    | succ n2 ih2 =>
      intro k m1 hv e2
      obtain ⟨z9, h1, h2, h3⟩ := hv
      refine hJ 2 _ _ _ ?_
      refine CALL_sub (r := some (.int (nI 5))) (h' := hLr m1) [] (by decide) (c_J0_length_8abf5_1000 l hf ) rfl rfl (by decide) (by decide) rfl ?_
      refine And.intro (fun c1 => ?_) (fun c1 => ?_)
      · skip
        refine hJ 30 _ _ _ ?_
        exact And.intro xb1 (DPis (F := (fun z => hLr z)) (s' := m1) (e2.trans ((q_X4_takeWord_1000_2 s n2 k m1).trans (if_pos c1))))
      · skip
        have h4 : z9 < 5 := cnt_lt h3 h1 (by decide) c1
        refine CALL_sub (h' := hLr m1) [] (by decide) (c_J0_charAt_5068e_1000 l hf k (vp_nI h3 h4 (by decide))) rfl rfl (by decide) (by decide) rfl ?_
        obtain ⟨r2, er2⟩ : ∃ z : Int32 × Lr, m_X4_take m1 (m_J0_charAt_5068e_1000 k) = z := ⟨_, rfl⟩
        have hr2 := c_X4_take l hf m1 (m_J0_charAt_5068e_1000 k)
        rw [er2] at hr2
        refine CALL_same (r := some (.int r2.1)) (h1 := hLr r2.2) (by decide) (hr2) ?_
        refine And.intro (fun c3 => ?_) (fun c3 => ?_)
        · skip
          refine hJ 24 _ _ _ ?_
          exact hD _ _ [1, 2, 0] _ _ (ih2 _ _ ⟨z9 + 1, by omega, by omega, by rw [h3]; exact nI_add z9 1⟩ (e2.trans ((q_X4_takeWord_1000_2 s n2 k m1).trans ((if_neg c1).trans ((bindv_eq er2).trans (if_neg c3))))))
        · skip
          exact And.intro xb0 (DPis (F := (fun z => hLr z)) (s' := r2.2) (e2.trans ((q_X4_takeWord_1000_2 s n2 k m1).trans ((if_neg c1).trans ((bindv_eq er2).trans (if_pos c3))))))
  exact hD _ _ [1, 2, 0] _ _ (L2 6 _ _ ⟨0, by decide, by decide, rfl⟩ (rfl))
def l_X4_takeWord_1001_2 (s : Lr) : Nat → Int32 → Lr → Int32 × Lr
  | 0, _, _ => (0, s)
  | n2 + 1, k, m1 => if nI 5 ≤ k then (nI 1, m1) else (bindv (m_X4_take m1 (m_J0_charAt_5068e_1001 k)) (fun r2 => if r2.1 = 0 then (nI 0, r2.2) else l_X4_takeWord_1001_2 s n2 (k + nI 1) r2.2))
theorem q_X4_takeWord_1001_2 (s : Lr) (n2 : Nat) (k : Int32) (m1 : Lr) : l_X4_takeWord_1001_2 s (n2 + 1) k m1 = (if nI 5 ≤ k then (nI 1, m1) else (bindv (m_X4_take m1 (m_J0_charAt_5068e_1001 k)) (fun r2 => if r2.1 = 0 then (nI 0, r2.2) else l_X4_takeWord_1001_2 s n2 (k + nI 1) r2.2))) := rfl
def m_X4_takeWord_1001 (s : Lr) : Int32 × Lr := l_X4_takeWord_1001_2 s 6 (nI 0) s
set_option maxRecDepth 100000 in
set_option maxHeartbeats 4000000 in
theorem c_X4_takeWord_1001 (l : Launch) {fv : Value} (hf : FV fv) (s : Lr) : CT l fv 5 jX4_takeWord [.ref 0, .ref 1001] (hLr s) (DP (some (.int (m_X4_takeWord_1001 s).1)) (hLr ((m_X4_takeWord_1001 s).2))) := by
  refine CT_of [2] mt_X4_takeWord (by decide +kernel) (tab_X4 hf) okX4_takeWord (Nat.le_of_ble_eq_true rfl) ?_
  intro J hJ hD
  refine hJ 0 _ _ _ ?_
  have L2 : ∀ (n2 : Nat) (k : Int32) (m1 : Lr), (∃ z9 : Nat, z9 ≤ 5 ∧ n2 + z9 = 6 ∧ k = nI z9) → m_X4_takeWord_1001 s = l_X4_takeWord_1001_2 s n2 k m1 → J 2 [(0, .ref 0), (1, .ref 1001), (2, .int k)] [] (hLr m1) := by
    intro n2
    induction n2 with
    | zero =>
      intro k m1 hv
      obtain ⟨z9, h1, h2, h3⟩ := hv
      omega
    | succ n2 ih2 =>
      intro k m1 hv e2
      obtain ⟨z9, h1, h2, h3⟩ := hv
      refine hJ 2 _ _ _ ?_
      refine CALL_sub (r := some (.int (nI 5))) (h' := hLr m1) [] (by decide) (c_J0_length_8abf5_1001 l hf ) rfl rfl (by decide) (by decide) rfl ?_
      refine And.intro (fun c1 => ?_) (fun c1 => ?_)
      · skip
        refine hJ 30 _ _ _ ?_
        exact And.intro xb1 (DPis (F := (fun z => hLr z)) (s' := m1) (e2.trans ((q_X4_takeWord_1001_2 s n2 k m1).trans (if_pos c1))))
      · skip
        have h4 : z9 < 5 := cnt_lt h3 h1 (by decide) c1
        refine CALL_sub (h' := hLr m1) [] (by decide) (c_J0_charAt_5068e_1001 l hf k (vp_nI h3 h4 (by decide))) rfl rfl (by decide) (by decide) rfl ?_
        obtain ⟨r2, er2⟩ : ∃ z : Int32 × Lr, m_X4_take m1 (m_J0_charAt_5068e_1001 k) = z := ⟨_, rfl⟩
        have hr2 := c_X4_take l hf m1 (m_J0_charAt_5068e_1001 k)
        rw [er2] at hr2
        refine CALL_same (r := some (.int r2.1)) (h1 := hLr r2.2) (by decide) (hr2) ?_
        refine And.intro (fun c3 => ?_) (fun c3 => ?_)
        · skip
          refine hJ 24 _ _ _ ?_
          exact hD _ _ [1, 2, 0] _ _ (ih2 _ _ ⟨z9 + 1, by omega, by omega, by rw [h3]; exact nI_add z9 1⟩ (e2.trans ((q_X4_takeWord_1001_2 s n2 k m1).trans ((if_neg c1).trans ((bindv_eq er2).trans (if_neg c3))))))
        · skip
          exact And.intro xb0 (DPis (F := (fun z => hLr z)) (s' := r2.2) (e2.trans ((q_X4_takeWord_1001_2 s n2 k m1).trans ((if_neg c1).trans ((bindv_eq er2).trans (if_pos c3))))))
  exact hD _ _ [1, 2, 0] _ _ (L2 6 _ _ ⟨0, by decide, by decide, rfl⟩ (rfl))
def l_X4_takeWord_1002_2 (s : Lr) : Nat → Int32 → Lr → Int32 × Lr
  | 0, _, _ => (0, s)
  | n2 + 1, k, m1 => if nI 5 ≤ k then (nI 1, m1) else (bindv (m_X4_take m1 (m_J0_charAt_5068e_1002 k)) (fun r2 => if r2.1 = 0 then (nI 0, r2.2) else l_X4_takeWord_1002_2 s n2 (k + nI 1) r2.2))
theorem q_X4_takeWord_1002_2 (s : Lr) (n2 : Nat) (k : Int32) (m1 : Lr) : l_X4_takeWord_1002_2 s (n2 + 1) k m1 = (if nI 5 ≤ k then (nI 1, m1) else (bindv (m_X4_take m1 (m_J0_charAt_5068e_1002 k)) (fun r2 => if r2.1 = 0 then (nI 0, r2.2) else l_X4_takeWord_1002_2 s n2 (k + nI 1) r2.2))) := rfl
def m_X4_takeWord_1002 (s : Lr) : Int32 × Lr := l_X4_takeWord_1002_2 s 6 (nI 0) s
set_option maxRecDepth 100000 in
set_option maxHeartbeats 4000000 in
theorem c_X4_takeWord_1002 (l : Launch) {fv : Value} (hf : FV fv) (s : Lr) : CT l fv 5 jX4_takeWord [.ref 0, .ref 1002] (hLr s) (DP (some (.int (m_X4_takeWord_1002 s).1)) (hLr ((m_X4_takeWord_1002 s).2))) := by
  refine CT_of [2] mt_X4_takeWord (by decide +kernel) (tab_X4 hf) okX4_takeWord (Nat.le_of_ble_eq_true rfl) ?_
  intro J hJ hD
  refine hJ 0 _ _ _ ?_
  have L2 : ∀ (n2 : Nat) (k : Int32) (m1 : Lr), (∃ z9 : Nat, z9 ≤ 5 ∧ n2 + z9 = 6 ∧ k = nI z9) → m_X4_takeWord_1002 s = l_X4_takeWord_1002_2 s n2 k m1 → J 2 [(0, .ref 0), (1, .ref 1002), (2, .int k)] [] (hLr m1) := by
    intro n2
    induction n2 with
    | zero =>
      intro k m1 hv
      obtain ⟨z9, h1, h2, h3⟩ := hv
      omega
    | succ n2 ih2 =>
      intro k m1 hv e2
      obtain ⟨z9, h1, h2, h3⟩ := hv
      refine hJ 2 _ _ _ ?_
      refine CALL_sub (r := some (.int (nI 5))) (h' := hLr m1) [] (by decide) (c_J0_length_8abf5_1002 l hf ) rfl rfl (by decide) (by decide) rfl ?_
      refine And.intro (fun c1 => ?_) (fun c1 => ?_)
      · skip
        refine hJ 30 _ _ _ ?_
        exact And.intro xb1 (DPis (F := (fun z => hLr z)) (s' := m1) (e2.trans ((q_X4_takeWord_1002_2 s n2 k m1).trans (if_pos c1))))
      · skip
        have h4 : z9 < 5 := cnt_lt h3 h1 (by decide) c1
        refine CALL_sub (h' := hLr m1) [] (by decide) (c_J0_charAt_5068e_1002 l hf k (vp_nI h3 h4 (by decide))) rfl rfl (by decide) (by decide) rfl ?_
        obtain ⟨r2, er2⟩ : ∃ z : Int32 × Lr, m_X4_take m1 (m_J0_charAt_5068e_1002 k) = z := ⟨_, rfl⟩
        have hr2 := c_X4_take l hf m1 (m_J0_charAt_5068e_1002 k)
        rw [er2] at hr2
        refine CALL_same (r := some (.int r2.1)) (h1 := hLr r2.2) (by decide) (hr2) ?_
        refine And.intro (fun c3 => ?_) (fun c3 => ?_)
        · skip
          refine hJ 24 _ _ _ ?_
          exact hD _ _ [1, 2, 0] _ _ (ih2 _ _ ⟨z9 + 1, by omega, by omega, by rw [h3]; exact nI_add z9 1⟩ (e2.trans ((q_X4_takeWord_1002_2 s n2 k m1).trans ((if_neg c1).trans ((bindv_eq er2).trans (if_neg c3))))))
        · skip
          exact And.intro xb0 (DPis (F := (fun z => hLr z)) (s' := r2.2) (e2.trans ((q_X4_takeWord_1002_2 s n2 k m1).trans ((if_neg c1).trans ((bindv_eq er2).trans (if_pos c3))))))
  exact hD _ _ [1, 2, 0] _ _ (L2 6 _ _ ⟨0, by decide, by decide, rfl⟩ (rfl))
def l_X4_takeWord_1003_2 (s : Lr) : Nat → Int32 → Lr → Int32 × Lr
  | 0, _, _ => (0, s)
  | n2 + 1, k, m1 => if nI 5 ≤ k then (nI 1, m1) else (bindv (m_X4_take m1 (m_J0_charAt_5068e_1003 k)) (fun r2 => if r2.1 = 0 then (nI 0, r2.2) else l_X4_takeWord_1003_2 s n2 (k + nI 1) r2.2))
theorem q_X4_takeWord_1003_2 (s : Lr) (n2 : Nat) (k : Int32) (m1 : Lr) : l_X4_takeWord_1003_2 s (n2 + 1) k m1 = (if nI 5 ≤ k then (nI 1, m1) else (bindv (m_X4_take m1 (m_J0_charAt_5068e_1003 k)) (fun r2 => if r2.1 = 0 then (nI 0, r2.2) else l_X4_takeWord_1003_2 s n2 (k + nI 1) r2.2))) := rfl
def m_X4_takeWord_1003 (s : Lr) : Int32 × Lr := l_X4_takeWord_1003_2 s 6 (nI 0) s
set_option maxRecDepth 100000 in
set_option maxHeartbeats 4000000 in
theorem c_X4_takeWord_1003 (l : Launch) {fv : Value} (hf : FV fv) (s : Lr) : CT l fv 5 jX4_takeWord [.ref 0, .ref 1003] (hLr s) (DP (some (.int (m_X4_takeWord_1003 s).1)) (hLr ((m_X4_takeWord_1003 s).2))) := by
  refine CT_of [2] mt_X4_takeWord (by decide +kernel) (tab_X4 hf) okX4_takeWord (Nat.le_of_ble_eq_true rfl) ?_
  intro J hJ hD
  refine hJ 0 _ _ _ ?_
  have L2 : ∀ (n2 : Nat) (k : Int32) (m1 : Lr), (∃ z9 : Nat, z9 ≤ 5 ∧ n2 + z9 = 6 ∧ k = nI z9) → m_X4_takeWord_1003 s = l_X4_takeWord_1003_2 s n2 k m1 → J 2 [(0, .ref 0), (1, .ref 1003), (2, .int k)] [] (hLr m1) := by
    intro n2
    induction n2 with
    | zero =>
      intro k m1 hv
      obtain ⟨z9, h1, h2, h3⟩ := hv
      omega
    | succ n2 ih2 =>
      intro k m1 hv e2
      obtain ⟨z9, h1, h2, h3⟩ := hv
      refine hJ 2 _ _ _ ?_
      refine CALL_sub (r := some (.int (nI 5))) (h' := hLr m1) [] (by decide) (c_J0_length_8abf5_1003 l hf ) rfl rfl (by decide) (by decide) rfl ?_
      refine And.intro (fun c1 => ?_) (fun c1 => ?_)
      · skip
        refine hJ 30 _ _ _ ?_
        exact And.intro xb1 (DPis (F := (fun z => hLr z)) (s' := m1) (e2.trans ((q_X4_takeWord_1003_2 s n2 k m1).trans (if_pos c1))))
      · skip
        have h4 : z9 < 5 := cnt_lt h3 h1 (by decide) c1
        refine CALL_sub (h' := hLr m1) [] (by decide) (c_J0_charAt_5068e_1003 l hf k (vp_nI h3 h4 (by decide))) rfl rfl (by decide) (by decide) rfl ?_
        obtain ⟨r2, er2⟩ : ∃ z : Int32 × Lr, m_X4_take m1 (m_J0_charAt_5068e_1003 k) = z := ⟨_, rfl⟩
        have hr2 := c_X4_take l hf m1 (m_J0_charAt_5068e_1003 k)
        rw [er2] at hr2
        refine CALL_same (r := some (.int r2.1)) (h1 := hLr r2.2) (by decide) (hr2) ?_
        refine And.intro (fun c3 => ?_) (fun c3 => ?_)
        · skip
          refine hJ 24 _ _ _ ?_
          exact hD _ _ [1, 2, 0] _ _ (ih2 _ _ ⟨z9 + 1, by omega, by omega, by rw [h3]; exact nI_add z9 1⟩ (e2.trans ((q_X4_takeWord_1003_2 s n2 k m1).trans ((if_neg c1).trans ((bindv_eq er2).trans (if_neg c3))))))
        · skip
          exact And.intro xb0 (DPis (F := (fun z => hLr z)) (s' := r2.2) (e2.trans ((q_X4_takeWord_1003_2 s n2 k m1).trans ((if_neg c1).trans ((bindv_eq er2).trans (if_pos c3))))))
  exact hD _ _ [1, 2, 0] _ _ (L2 6 _ _ ⟨0, by decide, by decide, rfl⟩ (rfl))
set_option maxRecDepth 100000 in
set_option maxHeartbeats 4000000 in
theorem c_X4_wordOf_w0 (l : Launch) {fv : Value} (hf : FV fv)  (x : Int32) (hk : x = nI 107) : CT l fv 1 jX4_wordOf [.int x] ([]) (DP (some (.ref 1000)) ([])) := by
  refine CT_of [] mt_X4_wordOf (by decide +kernel) (tab_X4 hf) okX4_wordOf (Nat.le_of_ble_eq_true rfl) ?_
  intro J hJ hD
  refine hJ 0 _ _ _ ?_
  refine And.intro (by decide) (And.intro (fun c1 => ?_) (fun d4 => And.intro (fun c2 => ?_) (fun d5 => And.intro (fun c3 => ?_) (fun d6 => ?_))))
  · skip
    refine hJ 36 _ _ _ ?_
    exact And.intro ⟨_, rfl⟩ ⟨rfl, rfl⟩
  · exact absurd c2 (by rw [hk]; decide)
  · exact absurd c3 (by rw [hk]; decide)
  · exact absurd (by rw [hk]; decide) d4
set_option maxRecDepth 100000 in
set_option maxHeartbeats 4000000 in
theorem c_X4_wordOf_w1 (l : Launch) {fv : Value} (hf : FV fv)  (x : Int32) (hk : x = nI 112) : CT l fv 1 jX4_wordOf [.int x] ([]) (DP (some (.ref 1001)) ([])) := by
  refine CT_of [] mt_X4_wordOf (by decide +kernel) (tab_X4 hf) okX4_wordOf (Nat.le_of_ble_eq_true rfl) ?_
  intro J hJ hD
  refine hJ 0 _ _ _ ?_
  refine And.intro (by decide) (And.intro (fun c1 => ?_) (fun d4 => And.intro (fun c2 => ?_) (fun d5 => And.intro (fun c3 => ?_) (fun d6 => ?_))))
  · exact absurd c1 (by rw [hk]; decide)
  · exact absurd c2 (by rw [hk]; decide)
  · skip
    refine hJ 39 _ _ _ ?_
    exact And.intro ⟨_, rfl⟩ ⟨rfl, rfl⟩
  · exact absurd (by rw [hk]; decide) d6
set_option maxRecDepth 100000 in
set_option maxHeartbeats 4000000 in
theorem c_X4_wordOf_w2 (l : Launch) {fv : Value} (hf : FV fv)  (x : Int32) (hk : x = nI 108) : CT l fv 1 jX4_wordOf [.int x] ([]) (DP (some (.ref 1002)) ([])) := by
  refine CT_of [] mt_X4_wordOf (by decide +kernel) (tab_X4 hf) okX4_wordOf (Nat.le_of_ble_eq_true rfl) ?_
  intro J hJ hD
  refine hJ 0 _ _ _ ?_
  refine And.intro (by decide) (And.intro (fun c1 => ?_) (fun d4 => And.intro (fun c2 => ?_) (fun d5 => And.intro (fun c3 => ?_) (fun d6 => ?_))))
  · exact absurd c1 (by rw [hk]; decide)
  · skip
    refine hJ 42 _ _ _ ?_
    exact And.intro ⟨_, rfl⟩ ⟨rfl, rfl⟩
  · exact absurd c3 (by rw [hk]; decide)
  · exact absurd (by rw [hk]; decide) d5
set_option maxRecDepth 100000 in
set_option maxHeartbeats 4000000 in
theorem c_X4_wordOf_w3 (l : Launch) {fv : Value} (hf : FV fv)  (x : Int32) (h1 : ¬ x = nI 107) (h2 : ¬ x = nI 112) (h3 : ¬ x = nI 108) : CT l fv 1 jX4_wordOf [.int x] ([]) (DP (some (.ref 1003)) ([])) := by
  refine CT_of [] mt_X4_wordOf (by decide +kernel) (tab_X4 hf) okX4_wordOf (Nat.le_of_ble_eq_true rfl) ?_
  intro J hJ hD
  refine hJ 0 _ _ _ ?_
  refine And.intro (by decide) (And.intro (fun c1 => ?_) (fun d4 => And.intro (fun c2 => ?_) (fun d5 => And.intro (fun c3 => ?_) (fun d6 => ?_))))
  · exact absurd (sw_eq 107 c1 rfl (by decide)) h1
  · exact absurd (sw_eq 108 c2 rfl (by decide)) h3
  · exact absurd (sw_eq 112 c3 rfl (by decide)) h2
  · skip
    refine hJ 45 _ _ _ ?_
    exact And.intro ⟨_, rfl⟩ ⟨rfl, rfl⟩

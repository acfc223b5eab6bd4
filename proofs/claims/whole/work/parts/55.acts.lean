/-! printed by wip/whole/gen/specs55.py: acts of the kinds -/
abbrev Ut : Type := Uc × Fn
def Ut.u (s : Ut) : Uc := s.1
def Ut.bo (s : Ut) : Fn := s.2
def wUt10 (zu : Uc) (zbo : Fn) : List AE := [.inr (10, [.ref 1, .int (Uc.ra zu), .int (Uc.i zu), .int (Uc.v zu)]), .inl (0, 20, .inl zbo)]
def hUt10 (s : Ut) : List AE := wUt10 (Ut.u s) (Ut.bo s)
def m_X10_begin_c10 (s : Ut) (x : Int32) : Ut := if Uc.ra (Ut.u s) < 0 then (((Uc.ra (Ut.u s) + nI 1), Uc.i (Ut.u s), Uc.v (Ut.u s)), Ut.bo s) else (if nI 20 ≤ Uc.ra (Ut.u s) then (((Uc.ra (Ut.u s) + nI 1), Uc.i (Ut.u s), Uc.v (Ut.u s)), Ut.bo s) else (((Uc.ra (Ut.u s) + nI 1), Uc.i (Ut.u s), Uc.v (Ut.u s)), (upd (Ut.bo s) (Uc.ra (Ut.u s)).toNatClampNeg x)))
set_option maxRecDepth 100000 in
set_option maxHeartbeats 4000000 in
theorem c_X10_begin_c10 (l : Launch) {fv : Value} (hf : FV fv) (s : Ut) (x : Int32) : CT l fv 1 jX10_begin [.ref 0, .int x] (hUt10 s) (DP none (hUt10 (m_X10_begin_c10 s x))) := by
  refine CT_of [] mt_X10_begin (by decide +kernel) (tab_X10 hf) okX10_begin (Nat.le_of_ble_eq_true rfl) ?_
  intro J hJ hD
  refine hJ 0 _ _ _ ?_
  refine And.intro (fun c1 => ?_) (fun c1 => ?_)
  · skip
    refine hJ 29 _ _ _ ?_
    refine And.intro True.intro ?_
    exact And.intro rfl (DPs (F := (fun z => hUt10 z)) (s' := (((Uc.ra (Ut.u s) + nI 1), Uc.i (Ut.u s), Uc.v (Ut.u s)), Ut.bo s)) (if_pos c1))
  · skip
    have k1 := c1
    refine And.intro (fun c2 => ?_) (fun c2 => ?_)
    · skip
      refine hJ 29 _ _ _ ?_
      refine And.intro True.intro ?_
      exact And.intro rfl (DPs (F := (fun z => hUt10 z)) (s' := (((Uc.ra (Ut.u s) + nI 1), Uc.i (Ut.u s), Uc.v (Ut.u s)), Ut.bo s)) ((if_neg c1).trans (if_pos c2)))
    · skip
      have k2 := c2
      refine And.intro (vp_of3 k1 k2 (by decide)) ?_
      refine And.intro True.intro ?_
      exact And.intro rfl (DPs (F := (fun z => hUt10 z)) (s' := (((Uc.ra (Ut.u s) + nI 1), Uc.i (Ut.u s), Uc.v (Ut.u s)), (upd (Ut.bo s) (Uc.ra (Ut.u s)).toNatClampNeg x))) ((if_neg c1).trans (if_neg c2)))
def m_X10_wake_c10 (s : Ut) (n : Int32) (vx : Int32) : Ut := ((nI 0, n, vx), Ut.bo s)
set_option maxRecDepth 100000 in
set_option maxHeartbeats 4000000 in
theorem c_X10_wake_c10 (l : Launch) {fv : Value} (hf : FV fv) (s : Ut) (n : Int32) (vx : Int32) : CT l fv 1 jX10_wake [.ref 0, .int n, .int vx] (hUt10 s) (DP none (hUt10 (m_X10_wake_c10 s n vx))) := by
  refine CT_of [] mt_X10_wake (by decide +kernel) (tab_X10 hf) okX10_wake (Nat.le_of_ble_eq_true rfl) ?_
  intro J hJ hD
  refine hJ 0 _ _ _ ?_
  refine And.intro True.intro ?_
  refine And.intro True.intro ?_
  refine And.intro True.intro ?_
  exact And.intro rfl (DPs (F := (fun z => hUt10 z)) (s' := ((nI 0, n, vx), Ut.bo s)) (rfl))
def m_X10_bodyAt_c10 (zu_ra : Int32) (zbo : Fn) (n : Int32) : Int32 := if n < 0 then (-nI 1) else (if zu_ra ≤ n then (-nI 1) else (if nI 20 ≤ n then (-nI 1) else (zbo n.toNatClampNeg)))
set_option maxRecDepth 100000 in
set_option maxHeartbeats 4000000 in
theorem c_X10_bodyAt_c10 (l : Launch) {fv : Value} (hf : FV fv) (s : Ut) (n : Int32) : CT l fv 1 jX10_bodyAt [.ref 0, .int n] (hUt10 s) (DP (some (.int (m_X10_bodyAt_c10 (Uc.ra (Ut.u s)) (Ut.bo s) n))) (hUt10 s)) := by
  refine CT_of [] mt_X10_bodyAt (by decide +kernel) (tab_X10 hf) okX10_bodyAt (Nat.le_of_ble_eq_true rfl) ?_
  intro J hJ hD
  refine hJ 0 _ _ _ ?_
  refine And.intro (fun c1 => ?_) (fun c1 => ?_)
  · skip
    refine hJ 30 _ _ _ ?_
    exact And.intro True.intro (DPi (if_pos c1))
  · skip
    have k1 := c1
    refine And.intro (fun c2 => ?_) (fun c2 => ?_)
    · skip
      refine hJ 30 _ _ _ ?_
      exact And.intro True.intro (DPi ((if_neg c1).trans (if_pos c2)))
    · skip
      refine And.intro (fun c3 => ?_) (fun c3 => ?_)
      · skip
        refine hJ 30 _ _ _ ?_
        exact And.intro True.intro (DPi ((if_neg c1).trans ((if_neg c2).trans (if_pos c3))))
      · skip
        have k2 := c3
        refine And.intro (vp_of3 k1 k2 (by decide)) ?_
        refine hJ 31 _ _ _ ?_
        exact And.intro True.intro (DPi ((if_neg c1).trans ((if_neg c2).trans (if_neg c3))))
def m_X10_leans_c10 (s : Ut) (x : Int32) : Int32 × Ut := bindv (m_X10_begin_c10 s (nI 1)) (fun r1 => ((x + Uc.i (Ut.u r1)), r1))
set_option maxRecDepth 100000 in
set_option maxHeartbeats 4000000 in
theorem c_X10_leans_c10 (l : Launch) {fv : Value} (hf : FV fv) (s : Ut) (x : Int32) : CT l fv 2 jX10_leans [.ref 0, .int x] (hUt10 s) (DP (some (.int (m_X10_leans_c10 s x).1)) (hUt10 ((m_X10_leans_c10 s x).2))) := by
  refine CT_of [] mt_X10_leans (by decide +kernel) (tab_X10 hf) okX10_leans (Nat.le_of_ble_eq_true rfl) ?_
  intro J hJ hD
  refine hJ 0 _ _ _ ?_
  obtain ⟨r1, er1⟩ : ∃ z : Ut, m_X10_begin_c10 s (nI 1) = z := ⟨_, rfl⟩
  have hr1 := c_X10_begin_c10 l hf s (nI 1)
  rw [er1] at hr1
  refine CALL_same (r := none) (h1 := hUt10 r1) (by decide) (hr1) ?_
  exact And.intro True.intro (DPis (F := (fun z => hUt10 z)) (s' := r1) (bindv_eq er1))
def m_X10_says_c10 (s : Ut) (x : Int32) : Int32 × Ut := bindv (m_X10_begin_c10 s (nI 2)) (fun r1 => bindv (m_X10_leans_c10 r1 x) (fun r2 => ((r2.1 - Uc.v (Ut.u r2.2)), r2.2)))
set_option maxRecDepth 100000 in
set_option maxHeartbeats 4000000 in
theorem c_X10_says_c10 (l : Launch) {fv : Value} (hf : FV fv) (s : Ut) (x : Int32) : CT l fv 4 jX10_says [.ref 0, .int x] (hUt10 s) (DP (some (.int (m_X10_says_c10 s x).1)) (hUt10 ((m_X10_says_c10 s x).2))) := by
  refine CT_of [] mt_X10_says (by decide +kernel) (tab_X10 hf) okX10_says (Nat.le_of_ble_eq_true rfl) ?_
  intro J hJ hD
  refine hJ 0 _ _ _ ?_
  obtain ⟨r1, er1⟩ : ∃ z : Ut, m_X10_begin_c10 s (nI 2) = z := ⟨_, rfl⟩
  have hr1 := c_X10_begin_c10 l hf s (nI 2)
  rw [er1] at hr1
  refine CALL_same (r := none) (h1 := hUt10 r1) (by decide) (hr1) ?_
  obtain ⟨r2, er2⟩ : ∃ z : Int32 × Ut, m_X10_leans_c10 r1 x = z := ⟨_, rfl⟩
  have hr2 := c_X10_leans_c10 l hf r1 x
  rw [er2] at hr2
  refine CALL_same (r := some (.int r2.1)) (h1 := hUt10 r2.2) (by decide) (hr2) ?_
  exact And.intro True.intro (DPis (F := (fun z => hUt10 z)) (s' := r2.2) ((bindv_eq er1).trans (bindv_eq er2)))
def m_X10_bristles_c10 (s : Ut) (x : Int32) : Int32 × Ut := bindv (m_X10_begin_c10 s (nI 3)) (fun r1 => bindv (m_X10_says_c10 r1 x) (fun r2 => ((r2.1 * nI 2), r2.2)))
set_option maxRecDepth 100000 in
set_option maxHeartbeats 4000000 in
theorem c_X10_bristles_c10 (l : Launch) {fv : Value} (hf : FV fv) (s : Ut) (x : Int32) : CT l fv 6 jX10_bristles [.ref 0, .int x] (hUt10 s) (DP (some (.int (m_X10_bristles_c10 s x).1)) (hUt10 ((m_X10_bristles_c10 s x).2))) := by
  refine CT_of [] mt_X10_bristles (by decide +kernel) (tab_X10 hf) okX10_bristles (Nat.le_of_ble_eq_true rfl) ?_
  intro J hJ hD
  refine hJ 0 _ _ _ ?_
  obtain ⟨r1, er1⟩ : ∃ z : Ut, m_X10_begin_c10 s (nI 3) = z := ⟨_, rfl⟩
  have hr1 := c_X10_begin_c10 l hf s (nI 3)
  rw [er1] at hr1
  refine CALL_same (r := none) (h1 := hUt10 r1) (by decide) (hr1) ?_
  obtain ⟨r2, er2⟩ : ∃ z : Int32 × Ut, m_X10_says_c10 r1 x = z := ⟨_, rfl⟩
  have hr2 := c_X10_says_c10 l hf r1 x
  rw [er2] at hr2
  refine CALL_same (r := some (.int r2.1)) (h1 := hUt10 r2.2) (by decide) (hr2) ?_
  exact And.intro True.intro (DPis (F := (fun z => hUt10 z)) (s' := r2.2) ((bindv_eq er1).trans (bindv_eq er2)))
def wUt3 (zu : Uc) (zbo : Fn) : List AE := [.inr (3, [.ref 1, .int (Uc.ra zu), .int (Uc.i zu), .int (Uc.v zu)]), .inl (0, 20, .inl zbo)]
def hUt3 (s : Ut) : List AE := wUt3 (Ut.u s) (Ut.bo s)
def m_X10_begin_c3 (s : Ut) (x : Int32) : Ut := if Uc.ra (Ut.u s) < 0 then (((Uc.ra (Ut.u s) + nI 1), Uc.i (Ut.u s), Uc.v (Ut.u s)), Ut.bo s) else (if nI 20 ≤ Uc.ra (Ut.u s) then (((Uc.ra (Ut.u s) + nI 1), Uc.i (Ut.u s), Uc.v (Ut.u s)), Ut.bo s) else (((Uc.ra (Ut.u s) + nI 1), Uc.i (Ut.u s), Uc.v (Ut.u s)), (upd (Ut.bo s) (Uc.ra (Ut.u s)).toNatClampNeg x)))
set_option maxRecDepth 100000 in
set_option maxHeartbeats 4000000 in
theorem c_X10_begin_c3 (l : Launch) {fv : Value} (hf : FV fv) (s : Ut) (x : Int32) : CT l fv 1 jX10_begin [.ref 0, .int x] (hUt3 s) (DP none (hUt3 (m_X10_begin_c3 s x))) := by
  refine CT_of [] mt_X10_begin (by decide +kernel) (tab_X10 hf) okX10_begin (Nat.le_of_ble_eq_true rfl) ?_
  intro J hJ hD
  refine hJ 0 _ _ _ ?_
  refine And.intro (fun c1 => ?_) (fun c1 => ?_)
  · skip
    refine hJ 29 _ _ _ ?_
    refine And.intro True.intro ?_
    exact And.intro rfl (DPs (F := (fun z => hUt3 z)) (s' := (((Uc.ra (Ut.u s) + nI 1), Uc.i (Ut.u s), Uc.v (Ut.u s)), Ut.bo s)) (if_pos c1))
  · skip
    have k1 := c1
    refine And.intro (fun c2 => ?_) (fun c2 => ?_)
    · skip
      refine hJ 29 _ _ _ ?_
      refine And.intro True.intro ?_
      exact And.intro rfl (DPs (F := (fun z => hUt3 z)) (s' := (((Uc.ra (Ut.u s) + nI 1), Uc.i (Ut.u s), Uc.v (Ut.u s)), Ut.bo s)) ((if_neg c1).trans (if_pos c2)))
    · skip
      have k2 := c2
      refine And.intro (vp_of3 k1 k2 (by decide)) ?_
      refine And.intro True.intro ?_
      exact And.intro rfl (DPs (F := (fun z => hUt3 z)) (s' := (((Uc.ra (Ut.u s) + nI 1), Uc.i (Ut.u s), Uc.v (Ut.u s)), (upd (Ut.bo s) (Uc.ra (Ut.u s)).toNatClampNeg x))) ((if_neg c1).trans (if_neg c2)))
def m_X10_wake_c3 (s : Ut) (n : Int32) (vx : Int32) : Ut := ((nI 0, n, vx), Ut.bo s)
set_option maxRecDepth 100000 in
set_option maxHeartbeats 4000000 in
theorem c_X10_wake_c3 (l : Launch) {fv : Value} (hf : FV fv) (s : Ut) (n : Int32) (vx : Int32) : CT l fv 1 jX10_wake [.ref 0, .int n, .int vx] (hUt3 s) (DP none (hUt3 (m_X10_wake_c3 s n vx))) := by
  refine CT_of [] mt_X10_wake (by decide +kernel) (tab_X10 hf) okX10_wake (Nat.le_of_ble_eq_true rfl) ?_
  intro J hJ hD
  refine hJ 0 _ _ _ ?_
  refine And.intro True.intro ?_
  refine And.intro True.intro ?_
  refine And.intro True.intro ?_
  exact And.intro rfl (DPs (F := (fun z => hUt3 z)) (s' := ((nI 0, n, vx), Ut.bo s)) (rfl))
def m_X10_bodyAt_c3 (zu_ra : Int32) (zbo : Fn) (n : Int32) : Int32 := if n < 0 then (-nI 1) else (if zu_ra ≤ n then (-nI 1) else (if nI 20 ≤ n then (-nI 1) else (zbo n.toNatClampNeg)))
set_option maxRecDepth 100000 in
set_option maxHeartbeats 4000000 in
theorem c_X10_bodyAt_c3 (l : Launch) {fv : Value} (hf : FV fv) (s : Ut) (n : Int32) : CT l fv 1 jX10_bodyAt [.ref 0, .int n] (hUt3 s) (DP (some (.int (m_X10_bodyAt_c3 (Uc.ra (Ut.u s)) (Ut.bo s) n))) (hUt3 s)) := by
  refine CT_of [] mt_X10_bodyAt (by decide +kernel) (tab_X10 hf) okX10_bodyAt (Nat.le_of_ble_eq_true rfl) ?_
  intro J hJ hD
  refine hJ 0 _ _ _ ?_
  refine And.intro (fun c1 => ?_) (fun c1 => ?_)
  · skip
    refine hJ 30 _ _ _ ?_
    exact And.intro True.intro (DPi (if_pos c1))
  · skip
    have k1 := c1
    refine And.intro (fun c2 => ?_) (fun c2 => ?_)
    · skip
      refine hJ 30 _ _ _ ?_
      exact And.intro True.intro (DPi ((if_neg c1).trans (if_pos c2)))
    · skip
      refine And.intro (fun c3 => ?_) (fun c3 => ?_)
      · skip
        refine hJ 30 _ _ _ ?_
        exact And.intro True.intro (DPi ((if_neg c1).trans ((if_neg c2).trans (if_pos c3))))
      · skip
        have k2 := c3
        refine And.intro (vp_of3 k1 k2 (by decide)) ?_
        refine hJ 31 _ _ _ ?_
        exact And.intro True.intro (DPi ((if_neg c1).trans ((if_neg c2).trans (if_neg c3))))
def m_X10_leans_c3 (s : Ut) (x : Int32) : Int32 × Ut := bindv (m_X10_begin_c3 s (nI 1)) (fun r1 => ((x + Uc.i (Ut.u r1)), r1))
set_option maxRecDepth 100000 in
set_option maxHeartbeats 4000000 in
theorem c_X10_leans_c3 (l : Launch) {fv : Value} (hf : FV fv) (s : Ut) (x : Int32) : CT l fv 2 jX10_leans [.ref 0, .int x] (hUt3 s) (DP (some (.int (m_X10_leans_c3 s x).1)) (hUt3 ((m_X10_leans_c3 s x).2))) := by
  refine CT_of [] mt_X10_leans (by decide +kernel) (tab_X10 hf) okX10_leans (Nat.le_of_ble_eq_true rfl) ?_
  intro J hJ hD
  refine hJ 0 _ _ _ ?_
  obtain ⟨r1, er1⟩ : ∃ z : Ut, m_X10_begin_c3 s (nI 1) = z := ⟨_, rfl⟩
  have hr1 := c_X10_begin_c3 l hf s (nI 1)
  rw [er1] at hr1
  refine CALL_same (r := none) (h1 := hUt3 r1) (by decide) (hr1) ?_
  exact And.intro True.intro (DPis (F := (fun z => hUt3 z)) (s' := r1) (bindv_eq er1))
def m_X3_leans_c3 (s : Ut) (x : Int32) : Int32 × Ut := bindv (m_X10_begin_c3 s (nI 11)) (fun r1 => bindv (m_X10_leans_c3 r1 (x * nI 3)) (fun r2 => (r2.1, r2.2)))
set_option maxRecDepth 100000 in
set_option maxHeartbeats 4000000 in
theorem c_X3_leans_c3 (l : Launch) {fv : Value} (hf : FV fv) (s : Ut) (x : Int32) : CT l fv 3 jX3_leans [.ref 0, .int x] (hUt3 s) (DP (some (.int (m_X3_leans_c3 s x).1)) (hUt3 ((m_X3_leans_c3 s x).2))) := by
  refine CT_of [] mt_X3_leans (by decide +kernel) (tab_X3 hf) okX3_leans (Nat.le_of_ble_eq_true rfl) ?_
  intro J hJ hD
  refine hJ 0 _ _ _ ?_
  obtain ⟨r1, er1⟩ : ∃ z : Ut, m_X10_begin_c3 s (nI 11) = z := ⟨_, rfl⟩
  have hr1 := c_X10_begin_c3 l hf s (nI 11)
  rw [er1] at hr1
  refine CALL_same (r := none) (h1 := hUt3 r1) (by decide) (hr1) ?_
  obtain ⟨r2, er2⟩ : ∃ z : Int32 × Ut, m_X10_leans_c3 r1 (x * nI 3) = z := ⟨_, rfl⟩
  have hr2 := c_X10_leans_c3 l hf r1 (x * nI 3)
  rw [er2] at hr2
  refine CALL_same (r := some (.int r2.1)) (h1 := hUt3 r2.2) (by decide) (hr2) ?_
  exact And.intro True.intro (DPis (F := (fun z => hUt3 z)) (s' := r2.2) ((bindv_eq er1).trans (bindv_eq er2)))
def m_X10_says_c3 (s : Ut) (x : Int32) : Int32 × Ut := bindv (m_X10_begin_c3 s (nI 2)) (fun r1 => bindv (m_X3_leans_c3 r1 x) (fun r2 => ((r2.1 - Uc.v (Ut.u r2.2)), r2.2)))
set_option maxRecDepth 100000 in
set_option maxHeartbeats 4000000 in
theorem c_X10_says_c3 (l : Launch) {fv : Value} (hf : FV fv) (s : Ut) (x : Int32) : CT l fv 4 jX10_says [.ref 0, .int x] (hUt3 s) (DP (some (.int (m_X10_says_c3 s x).1)) (hUt3 ((m_X10_says_c3 s x).2))) := by
  refine CT_of [] mt_X10_says (by decide +kernel) (tab_X10 hf) okX10_says (Nat.le_of_ble_eq_true rfl) ?_
  intro J hJ hD
  refine hJ 0 _ _ _ ?_
  obtain ⟨r1, er1⟩ : ∃ z : Ut, m_X10_begin_c3 s (nI 2) = z := ⟨_, rfl⟩
  have hr1 := c_X10_begin_c3 l hf s (nI 2)
  rw [er1] at hr1
  refine CALL_same (r := none) (h1 := hUt3 r1) (by decide) (hr1) ?_
  obtain ⟨r2, er2⟩ : ∃ z : Int32 × Ut, m_X3_leans_c3 r1 x = z := ⟨_, rfl⟩
  have hr2 := c_X3_leans_c3 l hf r1 x
  rw [er2] at hr2
  refine CALL_same (r := some (.int r2.1)) (h1 := hUt3 r2.2) (by decide) (hr2) ?_
  exact And.intro True.intro (DPis (F := (fun z => hUt3 z)) (s' := r2.2) ((bindv_eq er1).trans (bindv_eq er2)))
def m_X10_bristles_c3 (s : Ut) (x : Int32) : Int32 × Ut := bindv (m_X10_begin_c3 s (nI 3)) (fun r1 => bindv (m_X10_says_c3 r1 x) (fun r2 => ((r2.1 * nI 2), r2.2)))
set_option maxRecDepth 100000 in
set_option maxHeartbeats 4000000 in
theorem c_X10_bristles_c3 (l : Launch) {fv : Value} (hf : FV fv) (s : Ut) (x : Int32) : CT l fv 6 jX10_bristles [.ref 0, .int x] (hUt3 s) (DP (some (.int (m_X10_bristles_c3 s x).1)) (hUt3 ((m_X10_bristles_c3 s x).2))) := by
  refine CT_of [] mt_X10_bristles (by decide +kernel) (tab_X10 hf) okX10_bristles (Nat.le_of_ble_eq_true rfl) ?_
  intro J hJ hD
  refine hJ 0 _ _ _ ?_
  obtain ⟨r1, er1⟩ : ∃ z : Ut, m_X10_begin_c3 s (nI 3) = z := ⟨_, rfl⟩
  have hr1 := c_X10_begin_c3 l hf s (nI 3)
  rw [er1] at hr1
  refine CALL_same (r := none) (h1 := hUt3 r1) (by decide) (hr1) ?_
  obtain ⟨r2, er2⟩ : ∃ z : Int32 × Ut, m_X10_says_c3 r1 x = z := ⟨_, rfl⟩
  have hr2 := c_X10_says_c3 l hf r1 x
  rw [er2] at hr2
  refine CALL_same (r := some (.int r2.1)) (h1 := hUt3 r2.2) (by decide) (hr2) ?_
  exact And.intro True.intro (DPis (F := (fun z => hUt3 z)) (s' := r2.2) ((bindv_eq er1).trans (bindv_eq er2)))
def wUt2 (zu : Uc) (zbo : Fn) : List AE := [.inr (2, [.ref 1, .int (Uc.ra zu), .int (Uc.i zu), .int (Uc.v zu)]), .inl (0, 20, .inl zbo)]
def hUt2 (s : Ut) : List AE := wUt2 (Ut.u s) (Ut.bo s)
def m_X10_begin_c2 (s : Ut) (x : Int32) : Ut := if Uc.ra (Ut.u s) < 0 then (((Uc.ra (Ut.u s) + nI 1), Uc.i (Ut.u s), Uc.v (Ut.u s)), Ut.bo s) else (if nI 20 ≤ Uc.ra (Ut.u s) then (((Uc.ra (Ut.u s) + nI 1), Uc.i (Ut.u s), Uc.v (Ut.u s)), Ut.bo s) else (((Uc.ra (Ut.u s) + nI 1), Uc.i (Ut.u s), Uc.v (Ut.u s)), (upd (Ut.bo s) (Uc.ra (Ut.u s)).toNatClampNeg x)))
set_option maxRecDepth 100000 in
set_option maxHeartbeats 4000000 in
theorem c_X10_begin_c2 (l : Launch) {fv : Value} (hf : FV fv) (s : Ut) (x : Int32) : CT l fv 1 jX10_begin [.ref 0, .int x] (hUt2 s) (DP none (hUt2 (m_X10_begin_c2 s x))) := by
  refine CT_of [] mt_X10_begin (by decide +kernel) (tab_X10 hf) okX10_begin (Nat.le_of_ble_eq_true rfl) ?_
  intro J hJ hD
  refine hJ 0 _ _ _ ?_
  refine And.intro (fun c1 => ?_) (fun c1 => ?_)
  · skip
    refine hJ 29 _ _ _ ?_
    refine And.intro True.intro ?_
    exact And.intro rfl (DPs (F := (fun z => hUt2 z)) (s' := (((Uc.ra (Ut.u s) + nI 1), Uc.i (Ut.u s), Uc.v (Ut.u s)), Ut.bo s)) (if_pos c1))
  · skip
    have k1 := c1
    refine And.intro (fun c2 => ?_) (fun c2 => ?_)
    · skip
      refine hJ 29 _ _ _ ?_
      refine And.intro True.intro ?_
      exact And.intro rfl (DPs (F := (fun z => hUt2 z)) (s' := (((Uc.ra (Ut.u s) + nI 1), Uc.i (Ut.u s), Uc.v (Ut.u s)), Ut.bo s)) ((if_neg c1).trans (if_pos c2)))
    · skip
      have k2 := c2
      refine And.intro (vp_of3 k1 k2 (by decide)) ?_
      refine And.intro True.intro ?_
      exact And.intro rfl (DPs (F := (fun z => hUt2 z)) (s' := (((Uc.ra (Ut.u s) + nI 1), Uc.i (Ut.u s), Uc.v (Ut.u s)), (upd (Ut.bo s) (Uc.ra (Ut.u s)).toNatClampNeg x))) ((if_neg c1).trans (if_neg c2)))
def m_X10_wake_c2 (s : Ut) (n : Int32) (vx : Int32) : Ut := ((nI 0, n, vx), Ut.bo s)
set_option maxRecDepth 100000 in
set_option maxHeartbeats 4000000 in
theorem c_X10_wake_c2 (l : Launch) {fv : Value} (hf : FV fv) (s : Ut) (n : Int32) (vx : Int32) : CT l fv 1 jX10_wake [.ref 0, .int n, .int vx] (hUt2 s) (DP none (hUt2 (m_X10_wake_c2 s n vx))) := by
  refine CT_of [] mt_X10_wake (by decide +kernel) (tab_X10 hf) okX10_wake (Nat.le_of_ble_eq_true rfl) ?_
  intro J hJ hD
  refine hJ 0 _ _ _ ?_
  refine And.intro True.intro ?_
  refine And.intro True.intro ?_
  refine And.intro True.intro ?_
  exact And.intro rfl (DPs (F := (fun z => hUt2 z)) (s' := ((nI 0, n, vx), Ut.bo s)) (rfl))
def m_X10_bodyAt_c2 (zu_ra : Int32) (zbo : Fn) (n : Int32) : Int32 := if n < 0 then (-nI 1) else (if zu_ra ≤ n then (-nI 1) else (if nI 20 ≤ n then (-nI 1) else (zbo n.toNatClampNeg)))
set_option maxRecDepth 100000 in
set_option maxHeartbeats 4000000 in
theorem c_X10_bodyAt_c2 (l : Launch) {fv : Value} (hf : FV fv) (s : Ut) (n : Int32) : CT l fv 1 jX10_bodyAt [.ref 0, .int n] (hUt2 s) (DP (some (.int (m_X10_bodyAt_c2 (Uc.ra (Ut.u s)) (Ut.bo s) n))) (hUt2 s)) := by
  refine CT_of [] mt_X10_bodyAt (by decide +kernel) (tab_X10 hf) okX10_bodyAt (Nat.le_of_ble_eq_true rfl) ?_
  intro J hJ hD
  refine hJ 0 _ _ _ ?_
  refine And.intro (fun c1 => ?_) (fun c1 => ?_)
  · skip
    refine hJ 30 _ _ _ ?_
    exact And.intro True.intro (DPi (if_pos c1))
  · skip
    have k1 := c1
    refine And.intro (fun c2 => ?_) (fun c2 => ?_)
    · skip
      refine hJ 30 _ _ _ ?_
      exact And.intro True.intro (DPi ((if_neg c1).trans (if_pos c2)))
    · skip
      refine And.intro (fun c3 => ?_) (fun c3 => ?_)
      · skip
        refine hJ 30 _ _ _ ?_
        exact And.intro True.intro (DPi ((if_neg c1).trans ((if_neg c2).trans (if_pos c3))))
      · skip
        have k2 := c3
        refine And.intro (vp_of3 k1 k2 (by decide)) ?_
        refine hJ 31 _ _ _ ?_
        exact And.intro True.intro (DPi ((if_neg c1).trans ((if_neg c2).trans (if_neg c3))))
def m_X10_leans_c2 (s : Ut) (x : Int32) : Int32 × Ut := bindv (m_X10_begin_c2 s (nI 1)) (fun r1 => ((x + Uc.i (Ut.u r1)), r1))
set_option maxRecDepth 100000 in
set_option maxHeartbeats 4000000 in
theorem c_X10_leans_c2 (l : Launch) {fv : Value} (hf : FV fv) (s : Ut) (x : Int32) : CT l fv 2 jX10_leans [.ref 0, .int x] (hUt2 s) (DP (some (.int (m_X10_leans_c2 s x).1)) (hUt2 ((m_X10_leans_c2 s x).2))) := by
  refine CT_of [] mt_X10_leans (by decide +kernel) (tab_X10 hf) okX10_leans (Nat.le_of_ble_eq_true rfl) ?_
  intro J hJ hD
  refine hJ 0 _ _ _ ?_
  obtain ⟨r1, er1⟩ : ∃ z : Ut, m_X10_begin_c2 s (nI 1) = z := ⟨_, rfl⟩
  have hr1 := c_X10_begin_c2 l hf s (nI 1)
  rw [er1] at hr1
  refine CALL_same (r := none) (h1 := hUt2 r1) (by decide) (hr1) ?_
  exact And.intro True.intro (DPis (F := (fun z => hUt2 z)) (s' := r1) (bindv_eq er1))
def m_X10_says_c2 (s : Ut) (x : Int32) : Int32 × Ut := bindv (m_X10_begin_c2 s (nI 2)) (fun r1 => bindv (m_X10_leans_c2 r1 x) (fun r2 => ((r2.1 - Uc.v (Ut.u r2.2)), r2.2)))
set_option maxRecDepth 100000 in
set_option maxHeartbeats 4000000 in
theorem c_X10_says_c2 (l : Launch) {fv : Value} (hf : FV fv) (s : Ut) (x : Int32) : CT l fv 4 jX10_says [.ref 0, .int x] (hUt2 s) (DP (some (.int (m_X10_says_c2 s x).1)) (hUt2 ((m_X10_says_c2 s x).2))) := by
  refine CT_of [] mt_X10_says (by decide +kernel) (tab_X10 hf) okX10_says (Nat.le_of_ble_eq_true rfl) ?_
  intro J hJ hD
  refine hJ 0 _ _ _ ?_
  obtain ⟨r1, er1⟩ : ∃ z : Ut, m_X10_begin_c2 s (nI 2) = z := ⟨_, rfl⟩
  have hr1 := c_X10_begin_c2 l hf s (nI 2)
  rw [er1] at hr1
  refine CALL_same (r := none) (h1 := hUt2 r1) (by decide) (hr1) ?_
  obtain ⟨r2, er2⟩ : ∃ z : Int32 × Ut, m_X10_leans_c2 r1 x = z := ⟨_, rfl⟩
  have hr2 := c_X10_leans_c2 l hf r1 x
  rw [er2] at hr2
  refine CALL_same (r := some (.int r2.1)) (h1 := hUt2 r2.2) (by decide) (hr2) ?_
  exact And.intro True.intro (DPis (F := (fun z => hUt2 z)) (s' := r2.2) ((bindv_eq er1).trans (bindv_eq er2)))
def m_X2_says_c2 (s : Ut) (x : Int32) : Int32 × Ut := bindv (m_X10_begin_c2 s (nI 21)) (fun r1 => bindv (m_X10_says_c2 r1 x) (fun r2 => ((-r2.1), r2.2)))
set_option maxRecDepth 100000 in
set_option maxHeartbeats 4000000 in
theorem c_X2_says_c2 (l : Launch) {fv : Value} (hf : FV fv) (s : Ut) (x : Int32) : CT l fv 5 jX2_says [.ref 0, .int x] (hUt2 s) (DP (some (.int (m_X2_says_c2 s x).1)) (hUt2 ((m_X2_says_c2 s x).2))) := by
  refine CT_of [] mt_X2_says (by decide +kernel) (tab_X2 hf) okX2_says (Nat.le_of_ble_eq_true rfl) ?_
  intro J hJ hD
  refine hJ 0 _ _ _ ?_
  obtain ⟨r1, er1⟩ : ∃ z : Ut, m_X10_begin_c2 s (nI 21) = z := ⟨_, rfl⟩
  have hr1 := c_X10_begin_c2 l hf s (nI 21)
  rw [er1] at hr1
  refine CALL_same (r := none) (h1 := hUt2 r1) (by decide) (hr1) ?_
  obtain ⟨r2, er2⟩ : ∃ z : Int32 × Ut, m_X10_says_c2 r1 x = z := ⟨_, rfl⟩
  have hr2 := c_X10_says_c2 l hf r1 x
  rw [er2] at hr2
  refine CALL_same (r := some (.int r2.1)) (h1 := hUt2 r2.2) (by decide) (hr2) ?_
  exact And.intro True.intro (DPis (F := (fun z => hUt2 z)) (s' := r2.2) ((bindv_eq er1).trans (bindv_eq er2)))
def m_X10_bristles_c2 (s : Ut) (x : Int32) : Int32 × Ut := bindv (m_X10_begin_c2 s (nI 3)) (fun r1 => bindv (m_X2_says_c2 r1 x) (fun r2 => ((r2.1 * nI 2), r2.2)))
set_option maxRecDepth 100000 in
set_option maxHeartbeats 4000000 in
theorem c_X10_bristles_c2 (l : Launch) {fv : Value} (hf : FV fv) (s : Ut) (x : Int32) : CT l fv 6 jX10_bristles [.ref 0, .int x] (hUt2 s) (DP (some (.int (m_X10_bristles_c2 s x).1)) (hUt2 ((m_X10_bristles_c2 s x).2))) := by
  refine CT_of [] mt_X10_bristles (by decide +kernel) (tab_X10 hf) okX10_bristles (Nat.le_of_ble_eq_true rfl) ?_
  intro J hJ hD
  refine hJ 0 _ _ _ ?_
  obtain ⟨r1, er1⟩ : ∃ z : Ut, m_X10_begin_c2 s (nI 3) = z := ⟨_, rfl⟩
  have hr1 := c_X10_begin_c2 l hf s (nI 3)
  rw [er1] at hr1
  refine CALL_same (r := none) (h1 := hUt2 r1) (by decide) (hr1) ?_
  obtain ⟨r2, er2⟩ : ∃ z : Int32 × Ut, m_X2_says_c2 r1 x = z := ⟨_, rfl⟩
  have hr2 := c_X2_says_c2 l hf r1 x
  rw [er2] at hr2
  refine CALL_same (r := some (.int r2.1)) (h1 := hUt2 r2.2) (by decide) (hr2) ?_
  exact And.intro True.intro (DPis (F := (fun z => hUt2 z)) (s' := r2.2) ((bindv_eq er1).trans (bindv_eq er2)))
def wUt0 (zu : Uc) (zbo : Fn) : List AE := [.inr (0, [.ref 1, .int (Uc.ra zu), .int (Uc.i zu), .int (Uc.v zu)]), .inl (0, 20, .inl zbo)]
def hUt0 (s : Ut) : List AE := wUt0 (Ut.u s) (Ut.bo s)
def m_X10_begin_c0 (s : Ut) (x : Int32) : Ut := if Uc.ra (Ut.u s) < 0 then (((Uc.ra (Ut.u s) + nI 1), Uc.i (Ut.u s), Uc.v (Ut.u s)), Ut.bo s) else (if nI 20 ≤ Uc.ra (Ut.u s) then (((Uc.ra (Ut.u s) + nI 1), Uc.i (Ut.u s), Uc.v (Ut.u s)), Ut.bo s) else (((Uc.ra (Ut.u s) + nI 1), Uc.i (Ut.u s), Uc.v (Ut.u s)), (upd (Ut.bo s) (Uc.ra (Ut.u s)).toNatClampNeg x)))
set_option maxRecDepth 100000 in
set_option maxHeartbeats 4000000 in
theorem c_X10_begin_c0 (l : Launch) {fv : Value} (hf : FV fv) (s : Ut) (x : Int32) : CT l fv 1 jX10_begin [.ref 0, .int x] (hUt0 s) (DP none (hUt0 (m_X10_begin_c0 s x))) := by
  refine CT_of [] mt_X10_begin (by decide +kernel) (tab_X10 hf) okX10_begin (Nat.le_of_ble_eq_true rfl) ?_
  intro J hJ hD
  refine hJ 0 _ _ _ ?_
  refine And.intro (fun c1 => ?_) (fun c1 => ?_)
  · skip
    refine hJ 29 _ _ _ ?_
    refine And.intro True.intro ?_
    exact And.intro rfl (DPs (F := (fun z => hUt0 z)) (s' := (((Uc.ra (Ut.u s) + nI 1), Uc.i (Ut.u s), Uc.v (Ut.u s)), Ut.bo s)) (if_pos c1))
  · skip
    have k1 := c1
    refine And.intro (fun c2 => ?_) (fun c2 => ?_)
    · skip
      refine hJ 29 _ _ _ ?_
      refine And.intro True.intro ?_
      exact And.intro rfl (DPs (F := (fun z => hUt0 z)) (s' := (((Uc.ra (Ut.u s) + nI 1), Uc.i (Ut.u s), Uc.v (Ut.u s)), Ut.bo s)) ((if_neg c1).trans (if_pos c2)))
    · skip
      have k2 := c2
      refine And.intro (vp_of3 k1 k2 (by decide)) ?_
      refine And.intro True.intro ?_
      exact And.intro rfl (DPs (F := (fun z => hUt0 z)) (s' := (((Uc.ra (Ut.u s) + nI 1), Uc.i (Ut.u s), Uc.v (Ut.u s)), (upd (Ut.bo s) (Uc.ra (Ut.u s)).toNatClampNeg x))) ((if_neg c1).trans (if_neg c2)))
def m_X10_wake_c0 (s : Ut) (n : Int32) (vx : Int32) : Ut := ((nI 0, n, vx), Ut.bo s)
set_option maxRecDepth 100000 in
set_option maxHeartbeats 4000000 in
theorem c_X10_wake_c0 (l : Launch) {fv : Value} (hf : FV fv) (s : Ut) (n : Int32) (vx : Int32) : CT l fv 1 jX10_wake [.ref 0, .int n, .int vx] (hUt0 s) (DP none (hUt0 (m_X10_wake_c0 s n vx))) := by
  refine CT_of [] mt_X10_wake (by decide +kernel) (tab_X10 hf) okX10_wake (Nat.le_of_ble_eq_true rfl) ?_
  intro J hJ hD
  refine hJ 0 _ _ _ ?_
  refine And.intro True.intro ?_
  refine And.intro True.intro ?_
  refine And.intro True.intro ?_
  exact And.intro rfl (DPs (F := (fun z => hUt0 z)) (s' := ((nI 0, n, vx), Ut.bo s)) (rfl))
def m_X10_bodyAt_c0 (zu_ra : Int32) (zbo : Fn) (n : Int32) : Int32 := if n < 0 then (-nI 1) else (if zu_ra ≤ n then (-nI 1) else (if nI 20 ≤ n then (-nI 1) else (zbo n.toNatClampNeg)))
set_option maxRecDepth 100000 in
set_option maxHeartbeats 4000000 in
theorem c_X10_bodyAt_c0 (l : Launch) {fv : Value} (hf : FV fv) (s : Ut) (n : Int32) : CT l fv 1 jX10_bodyAt [.ref 0, .int n] (hUt0 s) (DP (some (.int (m_X10_bodyAt_c0 (Uc.ra (Ut.u s)) (Ut.bo s) n))) (hUt0 s)) := by
  refine CT_of [] mt_X10_bodyAt (by decide +kernel) (tab_X10 hf) okX10_bodyAt (Nat.le_of_ble_eq_true rfl) ?_
  intro J hJ hD
  refine hJ 0 _ _ _ ?_
  refine And.intro (fun c1 => ?_) (fun c1 => ?_)
  · skip
    refine hJ 30 _ _ _ ?_
    exact And.intro True.intro (DPi (if_pos c1))
  · skip
    have k1 := c1
    refine And.intro (fun c2 => ?_) (fun c2 => ?_)
    · skip
      refine hJ 30 _ _ _ ?_
      exact And.intro True.intro (DPi ((if_neg c1).trans (if_pos c2)))
    · skip
      refine And.intro (fun c3 => ?_) (fun c3 => ?_)
      · skip
        refine hJ 30 _ _ _ ?_
        exact And.intro True.intro (DPi ((if_neg c1).trans ((if_neg c2).trans (if_pos c3))))
      · skip
        have k2 := c3
        refine And.intro (vp_of3 k1 k2 (by decide)) ?_
        refine hJ 31 _ _ _ ?_
        exact And.intro True.intro (DPi ((if_neg c1).trans ((if_neg c2).trans (if_neg c3))))
def m_X10_leans_c0 (s : Ut) (x : Int32) : Int32 × Ut := bindv (m_X10_begin_c0 s (nI 1)) (fun r1 => ((x + Uc.i (Ut.u r1)), r1))
set_option maxRecDepth 100000 in
set_option maxHeartbeats 4000000 in
theorem c_X10_leans_c0 (l : Launch) {fv : Value} (hf : FV fv) (s : Ut) (x : Int32) : CT l fv 2 jX10_leans [.ref 0, .int x] (hUt0 s) (DP (some (.int (m_X10_leans_c0 s x).1)) (hUt0 ((m_X10_leans_c0 s x).2))) := by
  refine CT_of [] mt_X10_leans (by decide +kernel) (tab_X10 hf) okX10_leans (Nat.le_of_ble_eq_true rfl) ?_
  intro J hJ hD
  refine hJ 0 _ _ _ ?_
  obtain ⟨r1, er1⟩ : ∃ z : Ut, m_X10_begin_c0 s (nI 1) = z := ⟨_, rfl⟩
  have hr1 := c_X10_begin_c0 l hf s (nI 1)
  rw [er1] at hr1
  refine CALL_same (r := none) (h1 := hUt0 r1) (by decide) (hr1) ?_
  exact And.intro True.intro (DPis (F := (fun z => hUt0 z)) (s' := r1) (bindv_eq er1))
def m_X10_says_c0 (s : Ut) (x : Int32) : Int32 × Ut := bindv (m_X10_begin_c0 s (nI 2)) (fun r1 => bindv (m_X10_leans_c0 r1 x) (fun r2 => ((r2.1 - Uc.v (Ut.u r2.2)), r2.2)))
set_option maxRecDepth 100000 in
set_option maxHeartbeats 4000000 in
theorem c_X10_says_c0 (l : Launch) {fv : Value} (hf : FV fv) (s : Ut) (x : Int32) : CT l fv 4 jX10_says [.ref 0, .int x] (hUt0 s) (DP (some (.int (m_X10_says_c0 s x).1)) (hUt0 ((m_X10_says_c0 s x).2))) := by
  refine CT_of [] mt_X10_says (by decide +kernel) (tab_X10 hf) okX10_says (Nat.le_of_ble_eq_true rfl) ?_
  intro J hJ hD
  refine hJ 0 _ _ _ ?_
  obtain ⟨r1, er1⟩ : ∃ z : Ut, m_X10_begin_c0 s (nI 2) = z := ⟨_, rfl⟩
  have hr1 := c_X10_begin_c0 l hf s (nI 2)
  rw [er1] at hr1
  refine CALL_same (r := none) (h1 := hUt0 r1) (by decide) (hr1) ?_
  obtain ⟨r2, er2⟩ : ∃ z : Int32 × Ut, m_X10_leans_c0 r1 x = z := ⟨_, rfl⟩
  have hr2 := c_X10_leans_c0 l hf r1 x
  rw [er2] at hr2
  refine CALL_same (r := some (.int r2.1)) (h1 := hUt0 r2.2) (by decide) (hr2) ?_
  exact And.intro True.intro (DPis (F := (fun z => hUt0 z)) (s' := r2.2) ((bindv_eq er1).trans (bindv_eq er2)))
def m_X10_bristles_c0 (s : Ut) (x : Int32) : Int32 × Ut := bindv (m_X10_begin_c0 s (nI 3)) (fun r1 => bindv (m_X10_says_c0 r1 x) (fun r2 => ((r2.1 * nI 2), r2.2)))
set_option maxRecDepth 100000 in
set_option maxHeartbeats 4000000 in
theorem c_X10_bristles_c0 (l : Launch) {fv : Value} (hf : FV fv) (s : Ut) (x : Int32) : CT l fv 6 jX10_bristles [.ref 0, .int x] (hUt0 s) (DP (some (.int (m_X10_bristles_c0 s x).1)) (hUt0 ((m_X10_bristles_c0 s x).2))) := by
  refine CT_of [] mt_X10_bristles (by decide +kernel) (tab_X10 hf) okX10_bristles (Nat.le_of_ble_eq_true rfl) ?_
  intro J hJ hD
  refine hJ 0 _ _ _ ?_
  obtain ⟨r1, er1⟩ : ∃ z : Ut, m_X10_begin_c0 s (nI 3) = z := ⟨_, rfl⟩
  have hr1 := c_X10_begin_c0 l hf s (nI 3)
  rw [er1] at hr1
  refine CALL_same (r := none) (h1 := hUt0 r1) (by decide) (hr1) ?_
  obtain ⟨r2, er2⟩ : ∃ z : Int32 × Ut, m_X10_says_c0 r1 x = z := ⟨_, rfl⟩
  have hr2 := c_X10_says_c0 l hf r1 x
  rw [er2] at hr2
  refine CALL_same (r := some (.int r2.1)) (h1 := hUt0 r2.2) (by decide) (hr2) ?_
  exact And.intro True.intro (DPis (F := (fun z => hUt0 z)) (s' := r2.2) ((bindv_eq er1).trans (bindv_eq er2)))
def m_X0_bristles_c0 (s : Ut) (x : Int32) : Int32 × Ut := bindv (m_X10_begin_c0 s (nI 31)) (fun r1 => bindv (m_X10_bristles_c0 r1 x) (fun r2 => ((r2.1 ^^^ nI 7), r2.2)))
set_option maxRecDepth 100000 in
set_option maxHeartbeats 4000000 in
theorem c_X0_bristles_c0 (l : Launch) {fv : Value} (hf : FV fv) (s : Ut) (x : Int32) : CT l fv 7 jX0_bristles [.ref 0, .int x] (hUt0 s) (DP (some (.int (m_X0_bristles_c0 s x).1)) (hUt0 ((m_X0_bristles_c0 s x).2))) := by
  refine CT_of [] mt_X0_bristles (by decide +kernel) (tab_X0 hf) okX0_bristles (Nat.le_of_ble_eq_true rfl) ?_
  intro J hJ hD
  refine hJ 0 _ _ _ ?_
  obtain ⟨r1, er1⟩ : ∃ z : Ut, m_X10_begin_c0 s (nI 31) = z := ⟨_, rfl⟩
  have hr1 := c_X10_begin_c0 l hf s (nI 31)
  rw [er1] at hr1
  refine CALL_same (r := none) (h1 := hUt0 r1) (by decide) (hr1) ?_
  obtain ⟨r2, er2⟩ : ∃ z : Int32 × Ut, m_X10_bristles_c0 r1 x = z := ⟨_, rfl⟩
  have hr2 := c_X10_bristles_c0 l hf r1 x
  rw [er2] at hr2
  refine CALL_same (r := some (.int r2.1)) (h1 := hUt0 r2.2) (by decide) (hr2) ?_
  exact And.intro True.intro (DPis (F := (fun z => hUt0 z)) (s' := r2.2) ((bindv_eq er1).trans (bindv_eq er2)))
def wUt5 (zu : Uc) (zbo : Fn) : List AE := [.inr (5, [.ref 1, .int (Uc.ra zu), .int (Uc.i zu), .int (Uc.v zu)]), .inl (0, 20, .inl zbo)]
def hUt5 (s : Ut) : List AE := wUt5 (Ut.u s) (Ut.bo s)
def m_X10_begin_c5 (s : Ut) (x : Int32) : Ut := if Uc.ra (Ut.u s) < 0 then (((Uc.ra (Ut.u s) + nI 1), Uc.i (Ut.u s), Uc.v (Ut.u s)), Ut.bo s) else (if nI 20 ≤ Uc.ra (Ut.u s) then (((Uc.ra (Ut.u s) + nI 1), Uc.i (Ut.u s), Uc.v (Ut.u s)), Ut.bo s) else (((Uc.ra (Ut.u s) + nI 1), Uc.i (Ut.u s), Uc.v (Ut.u s)), (upd (Ut.bo s) (Uc.ra (Ut.u s)).toNatClampNeg x)))
set_option maxRecDepth 100000 in
set_option maxHeartbeats 4000000 in
theorem c_X10_begin_c5 (l : Launch) {fv : Value} (hf : FV fv) (s : Ut) (x : Int32) : CT l fv 1 jX10_begin [.ref 0, .int x] (hUt5 s) (DP none (hUt5 (m_X10_begin_c5 s x))) := by
  refine CT_of [] mt_X10_begin (by decide +kernel) (tab_X10 hf) okX10_begin (Nat.le_of_ble_eq_true rfl) ?_
  intro J hJ hD
  refine hJ 0 _ _ _ ?_
  refine And.intro (fun c1 => ?_) (fun c1 => ?_)
  · skip
    refine hJ 29 _ _ _ ?_
    refine And.intro True.intro ?_
    exact And.intro rfl (DPs (F := (fun z => hUt5 z)) (s' := (((Uc.ra (Ut.u s) + nI 1), Uc.i (Ut.u s), Uc.v (Ut.u s)), Ut.bo s)) (if_pos c1))
  · skip
    have k1 := c1
    refine And.intro (fun c2 => ?_) (fun c2 => ?_)
    · skip
      refine hJ 29 _ _ _ ?_
      refine And.intro True.intro ?_
      exact And.intro rfl (DPs (F := (fun z => hUt5 z)) (s' := (((Uc.ra (Ut.u s) + nI 1), Uc.i (Ut.u s), Uc.v (Ut.u s)), Ut.bo s)) ((if_neg c1).trans (if_pos c2)))
    · skip
      have k2 := c2
      refine And.intro (vp_of3 k1 k2 (by decide)) ?_
      refine And.intro True.intro ?_
      exact And.intro rfl (DPs (F := (fun z => hUt5 z)) (s' := (((Uc.ra (Ut.u s) + nI 1), Uc.i (Ut.u s), Uc.v (Ut.u s)), (upd (Ut.bo s) (Uc.ra (Ut.u s)).toNatClampNeg x))) ((if_neg c1).trans (if_neg c2)))
def m_X10_wake_c5 (s : Ut) (n : Int32) (vx : Int32) : Ut := ((nI 0, n, vx), Ut.bo s)
set_option maxRecDepth 100000 in
set_option maxHeartbeats 4000000 in
theorem c_X10_wake_c5 (l : Launch) {fv : Value} (hf : FV fv) (s : Ut) (n : Int32) (vx : Int32) : CT l fv 1 jX10_wake [.ref 0, .int n, .int vx] (hUt5 s) (DP none (hUt5 (m_X10_wake_c5 s n vx))) := by
  refine CT_of [] mt_X10_wake (by decide +kernel) (tab_X10 hf) okX10_wake (Nat.le_of_ble_eq_true rfl) ?_
  intro J hJ hD
  refine hJ 0 _ _ _ ?_
  refine And.intro True.intro ?_
  refine And.intro True.intro ?_
  refine And.intro True.intro ?_
  exact And.intro rfl (DPs (F := (fun z => hUt5 z)) (s' := ((nI 0, n, vx), Ut.bo s)) (rfl))
def m_X10_bodyAt_c5 (zu_ra : Int32) (zbo : Fn) (n : Int32) : Int32 := if n < 0 then (-nI 1) else (if zu_ra ≤ n then (-nI 1) else (if nI 20 ≤ n then (-nI 1) else (zbo n.toNatClampNeg)))
set_option maxRecDepth 100000 in
set_option maxHeartbeats 4000000 in
theorem c_X10_bodyAt_c5 (l : Launch) {fv : Value} (hf : FV fv) (s : Ut) (n : Int32) : CT l fv 1 jX10_bodyAt [.ref 0, .int n] (hUt5 s) (DP (some (.int (m_X10_bodyAt_c5 (Uc.ra (Ut.u s)) (Ut.bo s) n))) (hUt5 s)) := by
  refine CT_of [] mt_X10_bodyAt (by decide +kernel) (tab_X10 hf) okX10_bodyAt (Nat.le_of_ble_eq_true rfl) ?_
  intro J hJ hD
  refine hJ 0 _ _ _ ?_
  refine And.intro (fun c1 => ?_) (fun c1 => ?_)
  · skip
    refine hJ 30 _ _ _ ?_
    exact And.intro True.intro (DPi (if_pos c1))
  · skip
    have k1 := c1
    refine And.intro (fun c2 => ?_) (fun c2 => ?_)
    · skip
      refine hJ 30 _ _ _ ?_
      exact And.intro True.intro (DPi ((if_neg c1).trans (if_pos c2)))
    · skip
      refine And.intro (fun c3 => ?_) (fun c3 => ?_)
      · skip
        refine hJ 30 _ _ _ ?_
        exact And.intro True.intro (DPi ((if_neg c1).trans ((if_neg c2).trans (if_pos c3))))
      · skip
        have k2 := c3
        refine And.intro (vp_of3 k1 k2 (by decide)) ?_
        refine hJ 31 _ _ _ ?_
        exact And.intro True.intro (DPi ((if_neg c1).trans ((if_neg c2).trans (if_neg c3))))
def m_X10_leans_c5 (s : Ut) (x : Int32) : Int32 × Ut := bindv (m_X10_begin_c5 s (nI 1)) (fun r1 => ((x + Uc.i (Ut.u r1)), r1))
set_option maxRecDepth 100000 in
set_option maxHeartbeats 4000000 in
theorem c_X10_leans_c5 (l : Launch) {fv : Value} (hf : FV fv) (s : Ut) (x : Int32) : CT l fv 2 jX10_leans [.ref 0, .int x] (hUt5 s) (DP (some (.int (m_X10_leans_c5 s x).1)) (hUt5 ((m_X10_leans_c5 s x).2))) := by
  refine CT_of [] mt_X10_leans (by decide +kernel) (tab_X10 hf) okX10_leans (Nat.le_of_ble_eq_true rfl) ?_
  intro J hJ hD
  refine hJ 0 _ _ _ ?_
  obtain ⟨r1, er1⟩ : ∃ z : Ut, m_X10_begin_c5 s (nI 1) = z := ⟨_, rfl⟩
  have hr1 := c_X10_begin_c5 l hf s (nI 1)
  rw [er1] at hr1
  refine CALL_same (r := none) (h1 := hUt5 r1) (by decide) (hr1) ?_
  exact And.intro True.intro (DPis (F := (fun z => hUt5 z)) (s' := r1) (bindv_eq er1))
def m_X3_leans_c5 (s : Ut) (x : Int32) : Int32 × Ut := bindv (m_X10_begin_c5 s (nI 11)) (fun r1 => bindv (m_X10_leans_c5 r1 (x * nI 3)) (fun r2 => (r2.1, r2.2)))
set_option maxRecDepth 100000 in
set_option maxHeartbeats 4000000 in
theorem c_X3_leans_c5 (l : Launch) {fv : Value} (hf : FV fv) (s : Ut) (x : Int32) : CT l fv 3 jX3_leans [.ref 0, .int x] (hUt5 s) (DP (some (.int (m_X3_leans_c5 s x).1)) (hUt5 ((m_X3_leans_c5 s x).2))) := by
  refine CT_of [] mt_X3_leans (by decide +kernel) (tab_X3 hf) okX3_leans (Nat.le_of_ble_eq_true rfl) ?_
  intro J hJ hD
  refine hJ 0 _ _ _ ?_
  obtain ⟨r1, er1⟩ : ∃ z : Ut, m_X10_begin_c5 s (nI 11) = z := ⟨_, rfl⟩
  have hr1 := c_X10_begin_c5 l hf s (nI 11)
  rw [er1] at hr1
  refine CALL_same (r := none) (h1 := hUt5 r1) (by decide) (hr1) ?_
  obtain ⟨r2, er2⟩ : ∃ z : Int32 × Ut, m_X10_leans_c5 r1 (x * nI 3) = z := ⟨_, rfl⟩
  have hr2 := c_X10_leans_c5 l hf r1 (x * nI 3)
  rw [er2] at hr2
  refine CALL_same (r := some (.int r2.1)) (h1 := hUt5 r2.2) (by decide) (hr2) ?_
  exact And.intro True.intro (DPis (F := (fun z => hUt5 z)) (s' := r2.2) ((bindv_eq er1).trans (bindv_eq er2)))
def m_X10_says_c5 (s : Ut) (x : Int32) : Int32 × Ut := bindv (m_X10_begin_c5 s (nI 2)) (fun r1 => bindv (m_X3_leans_c5 r1 x) (fun r2 => ((r2.1 - Uc.v (Ut.u r2.2)), r2.2)))
set_option maxRecDepth 100000 in
set_option maxHeartbeats 4000000 in
theorem c_X10_says_c5 (l : Launch) {fv : Value} (hf : FV fv) (s : Ut) (x : Int32) : CT l fv 4 jX10_says [.ref 0, .int x] (hUt5 s) (DP (some (.int (m_X10_says_c5 s x).1)) (hUt5 ((m_X10_says_c5 s x).2))) := by
  refine CT_of [] mt_X10_says (by decide +kernel) (tab_X10 hf) okX10_says (Nat.le_of_ble_eq_true rfl) ?_
  intro J hJ hD
  refine hJ 0 _ _ _ ?_
  obtain ⟨r1, er1⟩ : ∃ z : Ut, m_X10_begin_c5 s (nI 2) = z := ⟨_, rfl⟩
  have hr1 := c_X10_begin_c5 l hf s (nI 2)
  rw [er1] at hr1
  refine CALL_same (r := none) (h1 := hUt5 r1) (by decide) (hr1) ?_
  obtain ⟨r2, er2⟩ : ∃ z : Int32 × Ut, m_X3_leans_c5 r1 x = z := ⟨_, rfl⟩
  have hr2 := c_X3_leans_c5 l hf r1 x
  rw [er2] at hr2
  refine CALL_same (r := some (.int r2.1)) (h1 := hUt5 r2.2) (by decide) (hr2) ?_
  exact And.intro True.intro (DPis (F := (fun z => hUt5 z)) (s' := r2.2) ((bindv_eq er1).trans (bindv_eq er2)))
def m_X10_bristles_c5 (s : Ut) (x : Int32) : Int32 × Ut := bindv (m_X10_begin_c5 s (nI 3)) (fun r1 => bindv (m_X10_says_c5 r1 x) (fun r2 => ((r2.1 * nI 2), r2.2)))
set_option maxRecDepth 100000 in
set_option maxHeartbeats 4000000 in
theorem c_X10_bristles_c5 (l : Launch) {fv : Value} (hf : FV fv) (s : Ut) (x : Int32) : CT l fv 6 jX10_bristles [.ref 0, .int x] (hUt5 s) (DP (some (.int (m_X10_bristles_c5 s x).1)) (hUt5 ((m_X10_bristles_c5 s x).2))) := by
  refine CT_of [] mt_X10_bristles (by decide +kernel) (tab_X10 hf) okX10_bristles (Nat.le_of_ble_eq_true rfl) ?_
  intro J hJ hD
  refine hJ 0 _ _ _ ?_
  obtain ⟨r1, er1⟩ : ∃ z : Ut, m_X10_begin_c5 s (nI 3) = z := ⟨_, rfl⟩
  have hr1 := c_X10_begin_c5 l hf s (nI 3)
  rw [er1] at hr1
  refine CALL_same (r := none) (h1 := hUt5 r1) (by decide) (hr1) ?_
  obtain ⟨r2, er2⟩ : ∃ z : Int32 × Ut, m_X10_says_c5 r1 x = z := ⟨_, rfl⟩
  have hr2 := c_X10_says_c5 l hf r1 x
  rw [er2] at hr2
  refine CALL_same (r := some (.int r2.1)) (h1 := hUt5 r2.2) (by decide) (hr2) ?_
  exact And.intro True.intro (DPis (F := (fun z => hUt5 z)) (s' := r2.2) ((bindv_eq er1).trans (bindv_eq er2)))
def m_X5_bristles_c5 (s : Ut) (x : Int32) : Int32 × Ut := bindv (m_X10_begin_c5 s (nI 41)) (fun r1 => bindv (m_X10_bristles_c5 r1 (x - nI 1)) (fun r2 => bindv (m_X3_leans_c5 r2.2 (nI 2)) (fun r3 => ((r2.1 + r3.1), r3.2))))
set_option maxRecDepth 100000 in
set_option maxHeartbeats 4000000 in
theorem c_X5_bristles_c5 (l : Launch) {fv : Value} (hf : FV fv) (s : Ut) (x : Int32) : CT l fv 7 jX5_bristles [.ref 0, .int x] (hUt5 s) (DP (some (.int (m_X5_bristles_c5 s x).1)) (hUt5 ((m_X5_bristles_c5 s x).2))) := by
  refine CT_of [] mt_X5_bristles (by decide +kernel) (tab_X5 hf) okX5_bristles (Nat.le_of_ble_eq_true rfl) ?_
  intro J hJ hD
  refine hJ 0 _ _ _ ?_
  obtain ⟨r1, er1⟩ : ∃ z : Ut, m_X10_begin_c5 s (nI 41) = z := ⟨_, rfl⟩
  have hr1 := c_X10_begin_c5 l hf s (nI 41)
  rw [er1] at hr1
  refine CALL_same (r := none) (h1 := hUt5 r1) (by decide) (hr1) ?_
  obtain ⟨r2, er2⟩ : ∃ z : Int32 × Ut, m_X10_bristles_c5 r1 (x - nI 1) = z := ⟨_, rfl⟩
  have hr2 := c_X10_bristles_c5 l hf r1 (x - nI 1)
  rw [er2] at hr2
  refine CALL_same (r := some (.int r2.1)) (h1 := hUt5 r2.2) (by decide) (hr2) ?_
  obtain ⟨r3, er3⟩ : ∃ z : Int32 × Ut, m_X3_leans_c5 r2.2 (nI 2) = z := ⟨_, rfl⟩
  have hr3 := c_X3_leans_c5 l hf r2.2 (nI 2)
  rw [er3] at hr3
  refine CALL_same (r := some (.int r3.1)) (h1 := hUt5 r3.2) (by decide) (hr3) ?_
  exact And.intro True.intro (DPis (F := (fun z => hUt5 z)) (s' := r3.2) ((bindv_eq er1).trans ((bindv_eq er2).trans (bindv_eq er3))))
def wUt6 (zu : Uc) (zbo : Fn) : List AE := [.inr (6, [.ref 1, .int (Uc.ra zu), .int (Uc.i zu), .int (Uc.v zu)]), .inl (0, 20, .inl zbo)]
def hUt6 (s : Ut) : List AE := wUt6 (Ut.u s) (Ut.bo s)
def m_X10_begin_c6 (s : Ut) (x : Int32) : Ut := if Uc.ra (Ut.u s) < 0 then (((Uc.ra (Ut.u s) + nI 1), Uc.i (Ut.u s), Uc.v (Ut.u s)), Ut.bo s) else (if nI 20 ≤ Uc.ra (Ut.u s) then (((Uc.ra (Ut.u s) + nI 1), Uc.i (Ut.u s), Uc.v (Ut.u s)), Ut.bo s) else (((Uc.ra (Ut.u s) + nI 1), Uc.i (Ut.u s), Uc.v (Ut.u s)), (upd (Ut.bo s) (Uc.ra (Ut.u s)).toNatClampNeg x)))
set_option maxRecDepth 100000 in
set_option maxHeartbeats 4000000 in
theorem c_X10_begin_c6 (l : Launch) {fv : Value} (hf : FV fv) (s : Ut) (x : Int32) : CT l fv 1 jX10_begin [.ref 0, .int x] (hUt6 s) (DP none (hUt6 (m_X10_begin_c6 s x))) := by
  refine CT_of [] mt_X10_begin (by decide +kernel) (tab_X10 hf) okX10_begin (Nat.le_of_ble_eq_true rfl) ?_
  intro J hJ hD
  refine hJ 0 _ _ _ ?_
  refine And.intro (fun c1 => ?_) (fun c1 => ?_)
  · skip
    refine hJ 29 _ _ _ ?_
    refine And.intro True.intro ?_
    exact And.intro rfl (DPs (F := (fun z => hUt6 z)) (s' := (((Uc.ra (Ut.u s) + nI 1), Uc.i (Ut.u s), Uc.v (Ut.u s)), Ut.bo s)) (if_pos c1))
  · skip
    have k1 := c1
    refine And.intro (fun c2 => ?_) (fun c2 => ?_)
    · skip
      refine hJ 29 _ _ _ ?_
      refine And.intro True.intro ?_
      exact And.intro rfl (DPs (F := (fun z => hUt6 z)) (s' := (((Uc.ra (Ut.u s) + nI 1), Uc.i (Ut.u s), Uc.v (Ut.u s)), Ut.bo s)) ((if_neg c1).trans (if_pos c2)))
    · skip
      have k2 := c2
      refine And.intro (vp_of3 k1 k2 (by decide)) ?_
      refine And.intro True.intro ?_
      exact And.intro rfl (DPs (F := (fun z => hUt6 z)) (s' := (((Uc.ra (Ut.u s) + nI 1), Uc.i (Ut.u s), Uc.v (Ut.u s)), (upd (Ut.bo s) (Uc.ra (Ut.u s)).toNatClampNeg x))) ((if_neg c1).trans (if_neg c2)))
def m_X10_wake_c6 (s : Ut) (n : Int32) (vx : Int32) : Ut := ((nI 0, n, vx), Ut.bo s)
set_option maxRecDepth 100000 in
set_option maxHeartbeats 4000000 in
theorem c_X10_wake_c6 (l : Launch) {fv : Value} (hf : FV fv) (s : Ut) (n : Int32) (vx : Int32) : CT l fv 1 jX10_wake [.ref 0, .int n, .int vx] (hUt6 s) (DP none (hUt6 (m_X10_wake_c6 s n vx))) := by
  refine CT_of [] mt_X10_wake (by decide +kernel) (tab_X10 hf) okX10_wake (Nat.le_of_ble_eq_true rfl) ?_
  intro J hJ hD
  refine hJ 0 _ _ _ ?_
  refine And.intro True.intro ?_
  refine And.intro True.intro ?_
  refine And.intro True.intro ?_
  exact And.intro rfl (DPs (F := (fun z => hUt6 z)) (s' := ((nI 0, n, vx), Ut.bo s)) (rfl))
def m_X10_bodyAt_c6 (zu_ra : Int32) (zbo : Fn) (n : Int32) : Int32 := if n < 0 then (-nI 1) else (if zu_ra ≤ n then (-nI 1) else (if nI 20 ≤ n then (-nI 1) else (zbo n.toNatClampNeg)))
set_option maxRecDepth 100000 in
set_option maxHeartbeats 4000000 in
theorem c_X10_bodyAt_c6 (l : Launch) {fv : Value} (hf : FV fv) (s : Ut) (n : Int32) : CT l fv 1 jX10_bodyAt [.ref 0, .int n] (hUt6 s) (DP (some (.int (m_X10_bodyAt_c6 (Uc.ra (Ut.u s)) (Ut.bo s) n))) (hUt6 s)) := by
  refine CT_of [] mt_X10_bodyAt (by decide +kernel) (tab_X10 hf) okX10_bodyAt (Nat.le_of_ble_eq_true rfl) ?_
  intro J hJ hD
  refine hJ 0 _ _ _ ?_
  refine And.intro (fun c1 => ?_) (fun c1 => ?_)
  · skip
    refine hJ 30 _ _ _ ?_
    exact And.intro True.intro (DPi (if_pos c1))
  · skip
    have k1 := c1
    refine And.intro (fun c2 => ?_) (fun c2 => ?_)
    · skip
      refine hJ 30 _ _ _ ?_
      exact And.intro True.intro (DPi ((if_neg c1).trans (if_pos c2)))
    · skip
      refine And.intro (fun c3 => ?_) (fun c3 => ?_)
      · skip
        refine hJ 30 _ _ _ ?_
        exact And.intro True.intro (DPi ((if_neg c1).trans ((if_neg c2).trans (if_pos c3))))
      · skip
        have k2 := c3
        refine And.intro (vp_of3 k1 k2 (by decide)) ?_
        refine hJ 31 _ _ _ ?_
        exact And.intro True.intro (DPi ((if_neg c1).trans ((if_neg c2).trans (if_neg c3))))
def m_X10_leans_c6 (s : Ut) (x : Int32) : Int32 × Ut := bindv (m_X10_begin_c6 s (nI 1)) (fun r1 => ((x + Uc.i (Ut.u r1)), r1))
set_option maxRecDepth 100000 in
set_option maxHeartbeats 4000000 in
theorem c_X10_leans_c6 (l : Launch) {fv : Value} (hf : FV fv) (s : Ut) (x : Int32) : CT l fv 2 jX10_leans [.ref 0, .int x] (hUt6 s) (DP (some (.int (m_X10_leans_c6 s x).1)) (hUt6 ((m_X10_leans_c6 s x).2))) := by
  refine CT_of [] mt_X10_leans (by decide +kernel) (tab_X10 hf) okX10_leans (Nat.le_of_ble_eq_true rfl) ?_
  intro J hJ hD
  refine hJ 0 _ _ _ ?_
  obtain ⟨r1, er1⟩ : ∃ z : Ut, m_X10_begin_c6 s (nI 1) = z := ⟨_, rfl⟩
  have hr1 := c_X10_begin_c6 l hf s (nI 1)
  rw [er1] at hr1
  refine CALL_same (r := none) (h1 := hUt6 r1) (by decide) (hr1) ?_
  exact And.intro True.intro (DPis (F := (fun z => hUt6 z)) (s' := r1) (bindv_eq er1))
def m_X6_leans_c6 (s : Ut) (x : Int32) : Int32 × Ut := bindv (m_X10_begin_c6 s (nI 51)) (fun r1 => bindv (m_X10_leans_c6 r1 x) (fun r2 => ((r2.1 ^^^ Uc.i (Ut.u r2.2)), r2.2)))
set_option maxRecDepth 100000 in
set_option maxHeartbeats 4000000 in
theorem c_X6_leans_c6 (l : Launch) {fv : Value} (hf : FV fv) (s : Ut) (x : Int32) : CT l fv 3 jX6_leans [.ref 0, .int x] (hUt6 s) (DP (some (.int (m_X6_leans_c6 s x).1)) (hUt6 ((m_X6_leans_c6 s x).2))) := by
  refine CT_of [] mt_X6_leans (by decide +kernel) (tab_X6 hf) okX6_leans (Nat.le_of_ble_eq_true rfl) ?_
  intro J hJ hD
  refine hJ 0 _ _ _ ?_
  obtain ⟨r1, er1⟩ : ∃ z : Ut, m_X10_begin_c6 s (nI 51) = z := ⟨_, rfl⟩
  have hr1 := c_X10_begin_c6 l hf s (nI 51)
  rw [er1] at hr1
  refine CALL_same (r := none) (h1 := hUt6 r1) (by decide) (hr1) ?_
  obtain ⟨r2, er2⟩ : ∃ z : Int32 × Ut, m_X10_leans_c6 r1 x = z := ⟨_, rfl⟩
  have hr2 := c_X10_leans_c6 l hf r1 x
  rw [er2] at hr2
  refine CALL_same (r := some (.int r2.1)) (h1 := hUt6 r2.2) (by decide) (hr2) ?_
  exact And.intro True.intro (DPis (F := (fun z => hUt6 z)) (s' := r2.2) ((bindv_eq er1).trans (bindv_eq er2)))
def m_X10_says_c6 (s : Ut) (x : Int32) : Int32 × Ut := bindv (m_X10_begin_c6 s (nI 2)) (fun r1 => bindv (m_X6_leans_c6 r1 x) (fun r2 => ((r2.1 - Uc.v (Ut.u r2.2)), r2.2)))
set_option maxRecDepth 100000 in
set_option maxHeartbeats 4000000 in
theorem c_X10_says_c6 (l : Launch) {fv : Value} (hf : FV fv) (s : Ut) (x : Int32) : CT l fv 4 jX10_says [.ref 0, .int x] (hUt6 s) (DP (some (.int (m_X10_says_c6 s x).1)) (hUt6 ((m_X10_says_c6 s x).2))) := by
  refine CT_of [] mt_X10_says (by decide +kernel) (tab_X10 hf) okX10_says (Nat.le_of_ble_eq_true rfl) ?_
  intro J hJ hD
  refine hJ 0 _ _ _ ?_
  obtain ⟨r1, er1⟩ : ∃ z : Ut, m_X10_begin_c6 s (nI 2) = z := ⟨_, rfl⟩
  have hr1 := c_X10_begin_c6 l hf s (nI 2)
  rw [er1] at hr1
  refine CALL_same (r := none) (h1 := hUt6 r1) (by decide) (hr1) ?_
  obtain ⟨r2, er2⟩ : ∃ z : Int32 × Ut, m_X6_leans_c6 r1 x = z := ⟨_, rfl⟩
  have hr2 := c_X6_leans_c6 l hf r1 x
  rw [er2] at hr2
  refine CALL_same (r := some (.int r2.1)) (h1 := hUt6 r2.2) (by decide) (hr2) ?_
  exact And.intro True.intro (DPis (F := (fun z => hUt6 z)) (s' := r2.2) ((bindv_eq er1).trans (bindv_eq er2)))
def m_X2_says_c6 (s : Ut) (x : Int32) : Int32 × Ut := bindv (m_X10_begin_c6 s (nI 21)) (fun r1 => bindv (m_X10_says_c6 r1 x) (fun r2 => ((-r2.1), r2.2)))
set_option maxRecDepth 100000 in
set_option maxHeartbeats 4000000 in
theorem c_X2_says_c6 (l : Launch) {fv : Value} (hf : FV fv) (s : Ut) (x : Int32) : CT l fv 5 jX2_says [.ref 0, .int x] (hUt6 s) (DP (some (.int (m_X2_says_c6 s x).1)) (hUt6 ((m_X2_says_c6 s x).2))) := by
  refine CT_of [] mt_X2_says (by decide +kernel) (tab_X2 hf) okX2_says (Nat.le_of_ble_eq_true rfl) ?_
  intro J hJ hD
  refine hJ 0 _ _ _ ?_
  obtain ⟨r1, er1⟩ : ∃ z : Ut, m_X10_begin_c6 s (nI 21) = z := ⟨_, rfl⟩
  have hr1 := c_X10_begin_c6 l hf s (nI 21)
  rw [er1] at hr1
  refine CALL_same (r := none) (h1 := hUt6 r1) (by decide) (hr1) ?_
  obtain ⟨r2, er2⟩ : ∃ z : Int32 × Ut, m_X10_says_c6 r1 x = z := ⟨_, rfl⟩
  have hr2 := c_X10_says_c6 l hf r1 x
  rw [er2] at hr2
  refine CALL_same (r := some (.int r2.1)) (h1 := hUt6 r2.2) (by decide) (hr2) ?_
  exact And.intro True.intro (DPis (F := (fun z => hUt6 z)) (s' := r2.2) ((bindv_eq er1).trans (bindv_eq er2)))
def m_X10_bristles_c6 (s : Ut) (x : Int32) : Int32 × Ut := bindv (m_X10_begin_c6 s (nI 3)) (fun r1 => bindv (m_X2_says_c6 r1 x) (fun r2 => ((r2.1 * nI 2), r2.2)))
set_option maxRecDepth 100000 in
set_option maxHeartbeats 4000000 in
theorem c_X10_bristles_c6 (l : Launch) {fv : Value} (hf : FV fv) (s : Ut) (x : Int32) : CT l fv 6 jX10_bristles [.ref 0, .int x] (hUt6 s) (DP (some (.int (m_X10_bristles_c6 s x).1)) (hUt6 ((m_X10_bristles_c6 s x).2))) := by
  refine CT_of [] mt_X10_bristles (by decide +kernel) (tab_X10 hf) okX10_bristles (Nat.le_of_ble_eq_true rfl) ?_
  intro J hJ hD
  refine hJ 0 _ _ _ ?_
  obtain ⟨r1, er1⟩ : ∃ z : Ut, m_X10_begin_c6 s (nI 3) = z := ⟨_, rfl⟩
  have hr1 := c_X10_begin_c6 l hf s (nI 3)
  rw [er1] at hr1
  refine CALL_same (r := none) (h1 := hUt6 r1) (by decide) (hr1) ?_
  obtain ⟨r2, er2⟩ : ∃ z : Int32 × Ut, m_X2_says_c6 r1 x = z := ⟨_, rfl⟩
  have hr2 := c_X2_says_c6 l hf r1 x
  rw [er2] at hr2
  refine CALL_same (r := some (.int r2.1)) (h1 := hUt6 r2.2) (by decide) (hr2) ?_
  exact And.intro True.intro (DPis (F := (fun z => hUt6 z)) (s' := r2.2) ((bindv_eq er1).trans (bindv_eq er2)))
def wUt9 (zu : Uc) (zbo : Fn) : List AE := [.inr (9, [.ref 1, .int (Uc.ra zu), .int (Uc.i zu), .int (Uc.v zu)]), .inl (0, 20, .inl zbo)]
def hUt9 (s : Ut) : List AE := wUt9 (Ut.u s) (Ut.bo s)
def m_X10_begin_c9 (s : Ut) (x : Int32) : Ut := if Uc.ra (Ut.u s) < 0 then (((Uc.ra (Ut.u s) + nI 1), Uc.i (Ut.u s), Uc.v (Ut.u s)), Ut.bo s) else (if nI 20 ≤ Uc.ra (Ut.u s) then (((Uc.ra (Ut.u s) + nI 1), Uc.i (Ut.u s), Uc.v (Ut.u s)), Ut.bo s) else (((Uc.ra (Ut.u s) + nI 1), Uc.i (Ut.u s), Uc.v (Ut.u s)), (upd (Ut.bo s) (Uc.ra (Ut.u s)).toNatClampNeg x)))
set_option maxRecDepth 100000 in
set_option maxHeartbeats 4000000 in
theorem c_X10_begin_c9 (l : Launch) {fv : Value} (hf : FV fv) (s : Ut) (x : Int32) : CT l fv 1 jX10_begin [.ref 0, .int x] (hUt9 s) (DP none (hUt9 (m_X10_begin_c9 s x))) := by
  refine CT_of [] mt_X10_begin (by decide +kernel) (tab_X10 hf) okX10_begin (Nat.le_of_ble_eq_true rfl) ?_
  intro J hJ hD
  refine hJ 0 _ _ _ ?_
  refine And.intro (fun c1 => ?_) (fun c1 => ?_)
  · skip
    refine hJ 29 _ _ _ ?_
    refine And.intro True.intro ?_
    exact And.intro rfl (DPs (F := (fun z => hUt9 z)) (s' := (((Uc.ra (Ut.u s) + nI 1), Uc.i (Ut.u s), Uc.v (Ut.u s)), Ut.bo s)) (if_pos c1))
  · skip
    have k1 := c1
    refine And.intro (fun c2 => ?_) (fun c2 => ?_)
    · skip
      refine hJ 29 _ _ _ ?_
      refine And.intro True.intro ?_
      exact And.intro rfl (DPs (F := (fun z => hUt9 z)) (s' := (((Uc.ra (Ut.u s) + nI 1), Uc.i (Ut.u s), Uc.v (Ut.u s)), Ut.bo s)) ((if_neg c1).trans (if_pos c2)))
    · skip
      have k2 := c2
      refine And.intro (vp_of3 k1 k2 (by decide)) ?_
      refine And.intro True.intro ?_
      exact And.intro rfl (DPs (F := (fun z => hUt9 z)) (s' := (((Uc.ra (Ut.u s) + nI 1), Uc.i (Ut.u s), Uc.v (Ut.u s)), (upd (Ut.bo s) (Uc.ra (Ut.u s)).toNatClampNeg x))) ((if_neg c1).trans (if_neg c2)))
def m_X10_wake_c9 (s : Ut) (n : Int32) (vx : Int32) : Ut := ((nI 0, n, vx), Ut.bo s)
set_option maxRecDepth 100000 in
set_option maxHeartbeats 4000000 in
theorem c_X10_wake_c9 (l : Launch) {fv : Value} (hf : FV fv) (s : Ut) (n : Int32) (vx : Int32) : CT l fv 1 jX10_wake [.ref 0, .int n, .int vx] (hUt9 s) (DP none (hUt9 (m_X10_wake_c9 s n vx))) := by
  refine CT_of [] mt_X10_wake (by decide +kernel) (tab_X10 hf) okX10_wake (Nat.le_of_ble_eq_true rfl) ?_
  intro J hJ hD
  refine hJ 0 _ _ _ ?_
  refine And.intro True.intro ?_
  refine And.intro True.intro ?_
  refine And.intro True.intro ?_
  exact And.intro rfl (DPs (F := (fun z => hUt9 z)) (s' := ((nI 0, n, vx), Ut.bo s)) (rfl))
def m_X10_bodyAt_c9 (zu_ra : Int32) (zbo : Fn) (n : Int32) : Int32 := if n < 0 then (-nI 1) else (if zu_ra ≤ n then (-nI 1) else (if nI 20 ≤ n then (-nI 1) else (zbo n.toNatClampNeg)))
set_option maxRecDepth 100000 in
set_option maxHeartbeats 4000000 in
theorem c_X10_bodyAt_c9 (l : Launch) {fv : Value} (hf : FV fv) (s : Ut) (n : Int32) : CT l fv 1 jX10_bodyAt [.ref 0, .int n] (hUt9 s) (DP (some (.int (m_X10_bodyAt_c9 (Uc.ra (Ut.u s)) (Ut.bo s) n))) (hUt9 s)) := by
  refine CT_of [] mt_X10_bodyAt (by decide +kernel) (tab_X10 hf) okX10_bodyAt (Nat.le_of_ble_eq_true rfl) ?_
  intro J hJ hD
  refine hJ 0 _ _ _ ?_
  refine And.intro (fun c1 => ?_) (fun c1 => ?_)
  · skip
    refine hJ 30 _ _ _ ?_
    exact And.intro True.intro (DPi (if_pos c1))
  · skip
    have k1 := c1
    refine And.intro (fun c2 => ?_) (fun c2 => ?_)
    · skip
      refine hJ 30 _ _ _ ?_
      exact And.intro True.intro (DPi ((if_neg c1).trans (if_pos c2)))
    · skip
      refine And.intro (fun c3 => ?_) (fun c3 => ?_)
      · skip
        refine hJ 30 _ _ _ ?_
        exact And.intro True.intro (DPi ((if_neg c1).trans ((if_neg c2).trans (if_pos c3))))
      · skip
        have k2 := c3
        refine And.intro (vp_of3 k1 k2 (by decide)) ?_
        refine hJ 31 _ _ _ ?_
        exact And.intro True.intro (DPi ((if_neg c1).trans ((if_neg c2).trans (if_neg c3))))
def m_X10_leans_c9 (s : Ut) (x : Int32) : Int32 × Ut := bindv (m_X10_begin_c9 s (nI 1)) (fun r1 => ((x + Uc.i (Ut.u r1)), r1))
set_option maxRecDepth 100000 in
set_option maxHeartbeats 4000000 in
theorem c_X10_leans_c9 (l : Launch) {fv : Value} (hf : FV fv) (s : Ut) (x : Int32) : CT l fv 2 jX10_leans [.ref 0, .int x] (hUt9 s) (DP (some (.int (m_X10_leans_c9 s x).1)) (hUt9 ((m_X10_leans_c9 s x).2))) := by
  refine CT_of [] mt_X10_leans (by decide +kernel) (tab_X10 hf) okX10_leans (Nat.le_of_ble_eq_true rfl) ?_
  intro J hJ hD
  refine hJ 0 _ _ _ ?_
  obtain ⟨r1, er1⟩ : ∃ z : Ut, m_X10_begin_c9 s (nI 1) = z := ⟨_, rfl⟩
  have hr1 := c_X10_begin_c9 l hf s (nI 1)
  rw [er1] at hr1
  refine CALL_same (r := none) (h1 := hUt9 r1) (by decide) (hr1) ?_
  exact And.intro True.intro (DPis (F := (fun z => hUt9 z)) (s' := r1) (bindv_eq er1))
def m_X10_says_c9 (s : Ut) (x : Int32) : Int32 × Ut := bindv (m_X10_begin_c9 s (nI 2)) (fun r1 => bindv (m_X10_leans_c9 r1 x) (fun r2 => ((r2.1 - Uc.v (Ut.u r2.2)), r2.2)))
set_option maxRecDepth 100000 in
set_option maxHeartbeats 4000000 in
theorem c_X10_says_c9 (l : Launch) {fv : Value} (hf : FV fv) (s : Ut) (x : Int32) : CT l fv 4 jX10_says [.ref 0, .int x] (hUt9 s) (DP (some (.int (m_X10_says_c9 s x).1)) (hUt9 ((m_X10_says_c9 s x).2))) := by
  refine CT_of [] mt_X10_says (by decide +kernel) (tab_X10 hf) okX10_says (Nat.le_of_ble_eq_true rfl) ?_
  intro J hJ hD
  refine hJ 0 _ _ _ ?_
  obtain ⟨r1, er1⟩ : ∃ z : Ut, m_X10_begin_c9 s (nI 2) = z := ⟨_, rfl⟩
  have hr1 := c_X10_begin_c9 l hf s (nI 2)
  rw [er1] at hr1
  refine CALL_same (r := none) (h1 := hUt9 r1) (by decide) (hr1) ?_
  obtain ⟨r2, er2⟩ : ∃ z : Int32 × Ut, m_X10_leans_c9 r1 x = z := ⟨_, rfl⟩
  have hr2 := c_X10_leans_c9 l hf r1 x
  rw [er2] at hr2
  refine CALL_same (r := some (.int r2.1)) (h1 := hUt9 r2.2) (by decide) (hr2) ?_
  exact And.intro True.intro (DPis (F := (fun z => hUt9 z)) (s' := r2.2) ((bindv_eq er1).trans (bindv_eq er2)))
def m_X9_says_c9 (s : Ut) (x : Int32) : Int32 × Ut := bindv (m_X10_begin_c9 s (nI 61)) (fun r1 => bindv (m_X10_says_c9 r1 x) (fun r2 => ((r2.1 + Uc.v (Ut.u r2.2)), r2.2)))
set_option maxRecDepth 100000 in
set_option maxHeartbeats 4000000 in
theorem c_X9_says_c9 (l : Launch) {fv : Value} (hf : FV fv) (s : Ut) (x : Int32) : CT l fv 5 jX9_says [.ref 0, .int x] (hUt9 s) (DP (some (.int (m_X9_says_c9 s x).1)) (hUt9 ((m_X9_says_c9 s x).2))) := by
  refine CT_of [] mt_X9_says (by decide +kernel) (tab_X9 hf) okX9_says (Nat.le_of_ble_eq_true rfl) ?_
  intro J hJ hD
  refine hJ 0 _ _ _ ?_
  obtain ⟨r1, er1⟩ : ∃ z : Ut, m_X10_begin_c9 s (nI 61) = z := ⟨_, rfl⟩
  have hr1 := c_X10_begin_c9 l hf s (nI 61)
  rw [er1] at hr1
  refine CALL_same (r := none) (h1 := hUt9 r1) (by decide) (hr1) ?_
  obtain ⟨r2, er2⟩ : ∃ z : Int32 × Ut, m_X10_says_c9 r1 x = z := ⟨_, rfl⟩
  have hr2 := c_X10_says_c9 l hf r1 x
  rw [er2] at hr2
  refine CALL_same (r := some (.int r2.1)) (h1 := hUt9 r2.2) (by decide) (hr2) ?_
  exact And.intro True.intro (DPis (F := (fun z => hUt9 z)) (s' := r2.2) ((bindv_eq er1).trans (bindv_eq er2)))
def m_X10_bristles_c9 (s : Ut) (x : Int32) : Int32 × Ut := bindv (m_X10_begin_c9 s (nI 3)) (fun r1 => bindv (m_X9_says_c9 r1 x) (fun r2 => ((r2.1 * nI 2), r2.2)))
set_option maxRecDepth 100000 in
set_option maxHeartbeats 4000000 in
theorem c_X10_bristles_c9 (l : Launch) {fv : Value} (hf : FV fv) (s : Ut) (x : Int32) : CT l fv 6 jX10_bristles [.ref 0, .int x] (hUt9 s) (DP (some (.int (m_X10_bristles_c9 s x).1)) (hUt9 ((m_X10_bristles_c9 s x).2))) := by
  refine CT_of [] mt_X10_bristles (by decide +kernel) (tab_X10 hf) okX10_bristles (Nat.le_of_ble_eq_true rfl) ?_
  intro J hJ hD
  refine hJ 0 _ _ _ ?_
  obtain ⟨r1, er1⟩ : ∃ z : Ut, m_X10_begin_c9 s (nI 3) = z := ⟨_, rfl⟩
  have hr1 := c_X10_begin_c9 l hf s (nI 3)
  rw [er1] at hr1
  refine CALL_same (r := none) (h1 := hUt9 r1) (by decide) (hr1) ?_
  obtain ⟨r2, er2⟩ : ∃ z : Int32 × Ut, m_X9_says_c9 r1 x = z := ⟨_, rfl⟩
  have hr2 := c_X9_says_c9 l hf r1 x
  rw [er2] at hr2
  refine CALL_same (r := some (.int r2.1)) (h1 := hUt9 r2.2) (by decide) (hr2) ?_
  exact And.intro True.intro (DPis (F := (fun z => hUt9 z)) (s' := r2.2) ((bindv_eq er1).trans (bindv_eq er2)))
def m_X0_bristles_c9 (s : Ut) (x : Int32) : Int32 × Ut := bindv (m_X10_begin_c9 s (nI 31)) (fun r1 => bindv (m_X10_bristles_c9 r1 x) (fun r2 => ((r2.1 ^^^ nI 7), r2.2)))
set_option maxRecDepth 100000 in
set_option maxHeartbeats 4000000 in
theorem c_X0_bristles_c9 (l : Launch) {fv : Value} (hf : FV fv) (s : Ut) (x : Int32) : CT l fv 7 jX0_bristles [.ref 0, .int x] (hUt9 s) (DP (some (.int (m_X0_bristles_c9 s x).1)) (hUt9 ((m_X0_bristles_c9 s x).2))) := by
  refine CT_of [] mt_X0_bristles (by decide +kernel) (tab_X0 hf) okX0_bristles (Nat.le_of_ble_eq_true rfl) ?_
  intro J hJ hD
  refine hJ 0 _ _ _ ?_
  obtain ⟨r1, er1⟩ : ∃ z : Ut, m_X10_begin_c9 s (nI 31) = z := ⟨_, rfl⟩
  have hr1 := c_X10_begin_c9 l hf s (nI 31)
  rw [er1] at hr1
  refine CALL_same (r := none) (h1 := hUt9 r1) (by decide) (hr1) ?_
  obtain ⟨r2, er2⟩ : ∃ z : Int32 × Ut, m_X10_bristles_c9 r1 x = z := ⟨_, rfl⟩
  have hr2 := c_X10_bristles_c9 l hf r1 x
  rw [er2] at hr2
  refine CALL_same (r := some (.int r2.1)) (h1 := hUt9 r2.2) (by decide) (hr2) ?_
  exact And.intro True.intro (DPis (F := (fun z => hUt9 z)) (s' := r2.2) ((bindv_eq er1).trans (bindv_eq er2)))

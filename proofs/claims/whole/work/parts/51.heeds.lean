/-! printed by wip/whole/gen/specs51.py: how one heeds, tides -/
abbrev Hh : Type := Int32 × Int32 × Int32 × Int32 × Int32 × Int32 × Int32 × Int32
def Hh.p (s : Hh) : Int32 := s.1
def Hh.k (s : Hh) : Int32 := s.2.1
def Hh.v (s : Hh) : Int32 := s.2.2.1
def Hh.f (s : Hh) : Int32 := s.2.2.2.1
def Hh.c (s : Hh) : Int32 := s.2.2.2.2.1
def Hh.t (s : Hh) : Int32 := s.2.2.2.2.2.1
def Hh.ro (s : Hh) : Int32 := s.2.2.2.2.2.2.1
def Hh.kw (s : Hh) : Int32 := s.2.2.2.2.2.2.2
abbrev Uc : Type := Int32 × Int32 × Int32
def Uc.ra (s : Uc) : Int32 := s.1
def Uc.i (s : Uc) : Int32 := s.2.1
def Uc.v (s : Uc) : Int32 := s.2.2
abbrev Lg : Type := Fn × Int32 × Int32 × Int32 × Value × Int32 × Int32 × Int32 × Int32 × Int32
def Lg.st (s : Lg) : Fn := s.1
def Lg.sz (s : Lg) : Int32 := s.2.1
def Lg.ke (s : Lg) : Int32 := s.2.2.1
def Lg.pa (s : Lg) : Int32 := s.2.2.2.1
def Lg.tp (s : Lg) : Value := s.2.2.2.2.1
def Lg.sg (s : Lg) : Int32 := s.2.2.2.2.2.1
def Lg.at (s : Lg) : Int32 := s.2.2.2.2.2.2.1
def Lg.si (s : Lg) : Int32 := s.2.2.2.2.2.2.2.1
def Lg.te (s : Lg) : Int32 := s.2.2.2.2.2.2.2.2.1
def Lg.nu (s : Lg) : Int32 := s.2.2.2.2.2.2.2.2.2
abbrev Wt : Type := Sc × Hh × Uc × Uc × Uc × Uc × Uc × Uc × Uc × Fn × Lg
def Wt.c (s : Wt) : Sc := s.1
def Wt.h (s : Wt) : Hh := s.2.1
def Wt.k0 (s : Wt) : Uc := s.2.2.1
def Wt.k1 (s : Wt) : Uc := s.2.2.2.1
def Wt.k2 (s : Wt) : Uc := s.2.2.2.2.1
def Wt.k3 (s : Wt) : Uc := s.2.2.2.2.2.1
def Wt.k4 (s : Wt) : Uc := s.2.2.2.2.2.2.1
def Wt.k5 (s : Wt) : Uc := s.2.2.2.2.2.2.2.1
def Wt.k6 (s : Wt) : Uc := s.2.2.2.2.2.2.2.2.1
def Wt.st (s : Wt) : Fn := s.2.2.2.2.2.2.2.2.2.1
def Wt.l (s : Wt) : Lg := s.2.2.2.2.2.2.2.2.2.2
def wWt (zc : Sc) (zh : Hh) (zk0 : Uc) (zk1 : Uc) (zk2 : Uc) (zk3 : Uc) (zk4 : Uc) (zk5 : Uc) (zk6 : Uc) (zst : Fn) (zl : Lg) (t u v w b0 b1 b2 b3 b4 b5 b6 : Nat) : List AE := [.inr (7, [.ref 1, .ref 2, .ref 3, .ref 4, .ref 5, .int (Sc.sz zc), .int (Sc.ou zc), .int (Sc.ti zc), .ref t, .int (Sc.sg zc), .int (Sc.lg zc), .ref u, .ref v, .ref w]), .inl (0, 6, .inl (Sc.kd zc)), .inl (0, 6, .inl (Sc.vv zc)), .inl (0, 6, .inl (Sc.kn zc)), .inl (0, 24, .inl (Sc.rw zc)), .inl (0, 4, .inl (Sc.le zc)), .inr (1, [.ref 8, .ref 7, .ref 15, .int (Hh.p zh), .int (Hh.k zh), .int (Hh.v zh), .int (Hh.f zh), .int (Hh.c zh), .int (Hh.t zh), .int (Hh.ro zh), .int (Hh.kw zh)]), .inl (4, 7, .inr (.inr (.inr (.inr (fun j => l_get [8, 9, 10, 11, 12, 13, 14] j))))), .inr (10, [.ref b0, .int (Uc.ra zk0), .int (Uc.i zk0), .int (Uc.v zk0)]), .inr (3, [.ref b1, .int (Uc.ra zk1), .int (Uc.i zk1), .int (Uc.v zk1)]), .inr (2, [.ref b2, .int (Uc.ra zk2), .int (Uc.i zk2), .int (Uc.v zk2)]), .inr (0, [.ref b3, .int (Uc.ra zk3), .int (Uc.i zk3), .int (Uc.v zk3)]), .inr (5, [.ref b4, .int (Uc.ra zk4), .int (Uc.i zk4), .int (Uc.v zk4)]), .inr (6, [.ref b5, .int (Uc.ra zk5), .int (Uc.i zk5), .int (Uc.v zk5)]), .inr (9, [.ref b6, .int (Uc.ra zk6), .int (Uc.i zk6), .int (Uc.v zk6)]), .inl (0, 540, .inl zst), .inr (4, [.ref 17, .int (Lg.sz zl), .int (Lg.ke zl), .int (Lg.pa zl), Lg.tp zl, .int (Lg.sg zl), .int (Lg.at zl), .int (Lg.si zl), .int (Lg.te zl), .int (Lg.nu zl)]), .inl (0, 100, .inl (Lg.st zl))]
def hWt (s : Wt) (t u v w b0 b1 b2 b3 b4 b5 b6 : Nat) : List AE := wWt (Wt.c s) (Wt.h s) (Wt.k0 s) (Wt.k1 s) (Wt.k2 s) (Wt.k3 s) (Wt.k4 s) (Wt.k5 s) (Wt.k6 s) (Wt.st s) (Wt.l s) t u v w b0 b1 b2 b3 b4 b5 b6
def m_X10_heed_c10  (su : Int32) : Int32 := su
set_option maxRecDepth 100000 in
set_option maxHeartbeats 4000000 in
theorem c_X10_heed_c10 (l : Launch) {fv : Value} (hf : FV fv) (s : Wt) (t u v w b0 b1 b2 b3 b4 b5 b6 : Nat) (su : Int32) : CT l fv 1 jX10_heed [.ref 8, .int su, .ref 6] (hWt s t u v w b0 b1 b2 b3 b4 b5 b6) (DP (some (.int (m_X10_heed_c10 su))) (hWt s t u v w b0 b1 b2 b3 b4 b5 b6)) := by
  refine CT_of [] mt_X10_heed (by decide +kernel) (tab_X10 hf) okX10_heed (Nat.le_of_ble_eq_true rfl) ?_
  intro J hJ hD
  refine hJ 0 _ _ _ ?_
  exact And.intro True.intro (DPi (rfl))
def m_X3_heed_c3 (zh_v : Int32) (su : Int32) : Int32 := (su + zh_v)
set_option maxRecDepth 100000 in
set_option maxHeartbeats 4000000 in
theorem c_X3_heed_c3 (l : Launch) {fv : Value} (hf : FV fv) (s : Wt) (t u v w b0 b1 b2 b3 b4 b5 b6 : Nat) (su : Int32) : CT l fv 1 jX3_heed [.ref 9, .int su, .ref 6] (hWt s t u v w b0 b1 b2 b3 b4 b5 b6) (DP (some (.int (m_X3_heed_c3 (Hh.v (Wt.h s)) su))) (hWt s t u v w b0 b1 b2 b3 b4 b5 b6)) := by
  refine CT_of [] mt_X3_heed (by decide +kernel) (tab_X3 hf) okX3_heed (Nat.le_of_ble_eq_true rfl) ?_
  intro J hJ hD
  refine hJ 0 _ _ _ ?_
  exact And.intro True.intro (DPi (rfl))
def m_X2_heed_c2  (su : Int32) : Int32 := (su / nI 2)
set_option maxRecDepth 100000 in
set_option maxHeartbeats 4000000 in
theorem c_X2_heed_c2 (l : Launch) {fv : Value} (hf : FV fv) (s : Wt) (t u v w b0 b1 b2 b3 b4 b5 b6 : Nat) (su : Int32) : CT l fv 1 jX2_heed [.ref 10, .int su, .ref 6] (hWt s t u v w b0 b1 b2 b3 b4 b5 b6) (DP (some (.int (m_X2_heed_c2 su))) (hWt s t u v w b0 b1 b2 b3 b4 b5 b6)) := by
  refine CT_of [] mt_X2_heed (by decide +kernel) (tab_X2 hf) okX2_heed (Nat.le_of_ble_eq_true rfl) ?_
  intro J hJ hD
  refine hJ 0 _ _ _ ?_
  refine And.intro (by decide) ?_
  exact And.intro True.intro (DPi (rfl))
def m_X0_heed_c0 (zh_c : Int32) (su : Int32) : Int32 := (su - zh_c)
set_option maxRecDepth 100000 in
set_option maxHeartbeats 4000000 in
theorem c_X0_heed_c0 (l : Launch) {fv : Value} (hf : FV fv) (s : Wt) (t u v w b0 b1 b2 b3 b4 b5 b6 : Nat) (su : Int32) : CT l fv 1 jX0_heed [.ref 11, .int su, .ref 6] (hWt s t u v w b0 b1 b2 b3 b4 b5 b6) (DP (some (.int (m_X0_heed_c0 (Hh.c (Wt.h s)) su))) (hWt s t u v w b0 b1 b2 b3 b4 b5 b6)) := by
  refine CT_of [] mt_X0_heed (by decide +kernel) (tab_X0 hf) okX0_heed (Nat.le_of_ble_eq_true rfl) ?_
  intro J hJ hD
  refine hJ 0 _ _ _ ?_
  exact And.intro True.intro (DPi (rfl))
def m_X3_heed_c5 (zh_v : Int32) (su : Int32) : Int32 := (su + zh_v)
set_option maxRecDepth 100000 in
set_option maxHeartbeats 4000000 in
theorem c_X3_heed_c5 (l : Launch) {fv : Value} (hf : FV fv) (s : Wt) (t u v w b0 b1 b2 b3 b4 b5 b6 : Nat) (su : Int32) : CT l fv 1 jX3_heed [.ref 12, .int su, .ref 6] (hWt s t u v w b0 b1 b2 b3 b4 b5 b6) (DP (some (.int (m_X3_heed_c5 (Hh.v (Wt.h s)) su))) (hWt s t u v w b0 b1 b2 b3 b4 b5 b6)) := by
  refine CT_of [] mt_X3_heed (by decide +kernel) (tab_X3 hf) okX3_heed (Nat.le_of_ble_eq_true rfl) ?_
  intro J hJ hD
  refine hJ 0 _ _ _ ?_
  exact And.intro True.intro (DPi (rfl))
def m_X5_heed_c5 (zh_v : Int32) (zh_kw : Int32) (su : Int32) : Int32 := if zh_kw = 0 then (m_X3_heed_c5 (zh_v) su) else ((m_X3_heed_c5 (zh_v) su) * nI 2)
set_option maxRecDepth 100000 in
set_option maxHeartbeats 4000000 in
theorem c_X5_heed_c5 (l : Launch) {fv : Value} (hf : FV fv) (s : Wt) (t u v w b0 b1 b2 b3 b4 b5 b6 : Nat) (su : Int32) : CT l fv 2 jX5_heed [.ref 12, .int su, .ref 6] (hWt s t u v w b0 b1 b2 b3 b4 b5 b6) (DP (some (.int (m_X5_heed_c5 (Hh.v (Wt.h s)) (Hh.kw (Wt.h s)) su))) (hWt s t u v w b0 b1 b2 b3 b4 b5 b6)) := by
  refine CT_of [] mt_X5_heed (by decide +kernel) (tab_X5 hf) okX5_heed (Nat.le_of_ble_eq_true rfl) ?_
  intro J hJ hD
  refine hJ 0 _ _ _ ?_
  refine CALL_same (r := some (.int (m_X3_heed_c5 (Hh.v (Wt.h s)) su))) (h1 := hWt s t u v w b0 b1 b2 b3 b4 b5 b6) (by decide) (c_X3_heed_c5 l hf s t u v w b0 b1 b2 b3 b4 b5 b6 su) ?_
  refine And.intro (fun c1 => ?_) (fun c1 => ?_)
  · skip
    refine hJ 20 _ _ _ ?_
    exact And.intro True.intro (DPi (if_pos c1))
  · skip
    refine hJ 21 _ _ _ ?_
    exact And.intro True.intro (DPi (if_neg c1))
def m_X2_heed_c6  (su : Int32) : Int32 := (su / nI 2)
set_option maxRecDepth 100000 in
set_option maxHeartbeats 4000000 in
theorem c_X2_heed_c6 (l : Launch) {fv : Value} (hf : FV fv) (s : Wt) (t u v w b0 b1 b2 b3 b4 b5 b6 : Nat) (su : Int32) : CT l fv 1 jX2_heed [.ref 13, .int su, .ref 6] (hWt s t u v w b0 b1 b2 b3 b4 b5 b6) (DP (some (.int (m_X2_heed_c6 su))) (hWt s t u v w b0 b1 b2 b3 b4 b5 b6)) := by
  refine CT_of [] mt_X2_heed (by decide +kernel) (tab_X2 hf) okX2_heed (Nat.le_of_ble_eq_true rfl) ?_
  intro J hJ hD
  refine hJ 0 _ _ _ ?_
  refine And.intro (by decide) ?_
  exact And.intro True.intro (DPi (rfl))
def m_X6_heed_c6 (zh_v : Int32) (su : Int32) : Int32 := ((m_X2_heed_c6 su) + zh_v)
set_option maxRecDepth 100000 in
set_option maxHeartbeats 4000000 in
theorem c_X6_heed_c6 (l : Launch) {fv : Value} (hf : FV fv) (s : Wt) (t u v w b0 b1 b2 b3 b4 b5 b6 : Nat) (su : Int32) : CT l fv 2 jX6_heed [.ref 13, .int su, .ref 6] (hWt s t u v w b0 b1 b2 b3 b4 b5 b6) (DP (some (.int (m_X6_heed_c6 (Hh.v (Wt.h s)) su))) (hWt s t u v w b0 b1 b2 b3 b4 b5 b6)) := by
  refine CT_of [] mt_X6_heed (by decide +kernel) (tab_X6 hf) okX6_heed (Nat.le_of_ble_eq_true rfl) ?_
  intro J hJ hD
  refine hJ 0 _ _ _ ?_
  refine CALL_same (r := some (.int (m_X2_heed_c6 su))) (h1 := hWt s t u v w b0 b1 b2 b3 b4 b5 b6) (by decide) (c_X2_heed_c6 l hf s t u v w b0 b1 b2 b3 b4 b5 b6 su) ?_
  exact And.intro True.intro (DPi (rfl))
def m_X0_heed_c9 (zh_c : Int32) (su : Int32) : Int32 := (su - zh_c)
set_option maxRecDepth 100000 in
set_option maxHeartbeats 4000000 in
theorem c_X0_heed_c9 (l : Launch) {fv : Value} (hf : FV fv) (s : Wt) (t u v w b0 b1 b2 b3 b4 b5 b6 : Nat) (su : Int32) : CT l fv 1 jX0_heed [.ref 14, .int su, .ref 6] (hWt s t u v w b0 b1 b2 b3 b4 b5 b6) (DP (some (.int (m_X0_heed_c9 (Hh.c (Wt.h s)) su))) (hWt s t u v w b0 b1 b2 b3 b4 b5 b6)) := by
  refine CT_of [] mt_X0_heed (by decide +kernel) (tab_X0 hf) okX0_heed (Nat.le_of_ble_eq_true rfl) ?_
  intro J hJ hD
  refine hJ 0 _ _ _ ?_
  exact And.intro True.intro (DPi (rfl))
def m_X9_heed_c9 (zh_c : Int32) (zh_ro : Int32) (su : Int32) : Int32 := (((m_X0_heed_c9 (zh_c) su) + zh_ro) - nI 4)
set_option maxRecDepth 100000 in
set_option maxHeartbeats 4000000 in
theorem c_X9_heed_c9 (l : Launch) {fv : Value} (hf : FV fv) (s : Wt) (t u v w b0 b1 b2 b3 b4 b5 b6 : Nat) (su : Int32) : CT l fv 2 jX9_heed [.ref 14, .int su, .ref 6] (hWt s t u v w b0 b1 b2 b3 b4 b5 b6) (DP (some (.int (m_X9_heed_c9 (Hh.c (Wt.h s)) (Hh.ro (Wt.h s)) su))) (hWt s t u v w b0 b1 b2 b3 b4 b5 b6)) := by
  refine CT_of [] mt_X9_heed (by decide +kernel) (tab_X9 hf) okX9_heed (Nat.le_of_ble_eq_true rfl) ?_
  intro J hJ hD
  refine hJ 0 _ _ _ ?_
  refine CALL_same (r := some (.int (m_X0_heed_c9 (Hh.c (Wt.h s)) su))) (h1 := hWt s t u v w b0 b1 b2 b3 b4 b5 b6) (by decide) (c_X0_heed_c9 l hf s t u v w b0 b1 b2 b3 b4 b5 b6 su) ?_
  exact And.intro True.intro (DPi (rfl))
set_option maxRecDepth 100000 in
set_option maxHeartbeats 4000000 in
theorem c_X1_kindOf_k0 (l : Launch) {fv : Value} (hf : FV fv) (s : Wt) (t u v w b0 b1 b2 b3 b4 b5 b6 : Nat) (x : Int32) (hk : x = nI 0) : CT l fv 1 jX1_kindOf [.ref 6, .int x] (hWt s t u v w b0 b1 b2 b3 b4 b5 b6) (DP (some (.ref 8)) (hWt s t u v w b0 b1 b2 b3 b4 b5 b6)) := by
  refine CT_of [] mt_X1_kindOf (by decide +kernel) (tab_X1 hf) okX1_kindOf (Nat.le_of_ble_eq_true rfl) ?_
  intro J hJ hD
  refine hJ 0 _ _ _ ?_
  refine And.intro (fun c1 => absurd c1 (by rw [hk]; decide)) (fun c1 => ?_)
  refine And.intro (fun c2 => absurd c2 (by rw [hk]; decide)) (fun c2 => ?_)
  refine ⟨Or.inr rfl, by rw [hk]; exact vp_in_nI (by decide) (by decide), 8, by rw [hk]; rfl, ?_⟩
  refine hJ 26 _ _ _ ?_
  refine hJ 38 _ _ _ ?_
  exact And.intro ⟨_, rfl⟩ ⟨rfl, rfl⟩
set_option maxRecDepth 100000 in
set_option maxHeartbeats 4000000 in
theorem c_X1_kindOf_k1 (l : Launch) {fv : Value} (hf : FV fv) (s : Wt) (t u v w b0 b1 b2 b3 b4 b5 b6 : Nat) (x : Int32) (hk : x = nI 1) : CT l fv 1 jX1_kindOf [.ref 6, .int x] (hWt s t u v w b0 b1 b2 b3 b4 b5 b6) (DP (some (.ref 9)) (hWt s t u v w b0 b1 b2 b3 b4 b5 b6)) := by
  refine CT_of [] mt_X1_kindOf (by decide +kernel) (tab_X1 hf) okX1_kindOf (Nat.le_of_ble_eq_true rfl) ?_
  intro J hJ hD
  refine hJ 0 _ _ _ ?_
  refine And.intro (fun c1 => absurd c1 (by rw [hk]; decide)) (fun c1 => ?_)
  refine And.intro (fun c2 => absurd c2 (by rw [hk]; decide)) (fun c2 => ?_)
  refine ⟨Or.inr rfl, by rw [hk]; exact vp_in_nI (by decide) (by decide), 9, by rw [hk]; rfl, ?_⟩
  refine hJ 26 _ _ _ ?_
  refine hJ 38 _ _ _ ?_
  exact And.intro ⟨_, rfl⟩ ⟨rfl, rfl⟩
set_option maxRecDepth 100000 in
set_option maxHeartbeats 4000000 in
theorem c_X1_kindOf_k2 (l : Launch) {fv : Value} (hf : FV fv) (s : Wt) (t u v w b0 b1 b2 b3 b4 b5 b6 : Nat) (x : Int32) (hk : x = nI 2) : CT l fv 1 jX1_kindOf [.ref 6, .int x] (hWt s t u v w b0 b1 b2 b3 b4 b5 b6) (DP (some (.ref 10)) (hWt s t u v w b0 b1 b2 b3 b4 b5 b6)) := by
  refine CT_of [] mt_X1_kindOf (by decide +kernel) (tab_X1 hf) okX1_kindOf (Nat.le_of_ble_eq_true rfl) ?_
  intro J hJ hD
  refine hJ 0 _ _ _ ?_
  refine And.intro (fun c1 => absurd c1 (by rw [hk]; decide)) (fun c1 => ?_)
  refine And.intro (fun c2 => absurd c2 (by rw [hk]; decide)) (fun c2 => ?_)
  refine ⟨Or.inr rfl, by rw [hk]; exact vp_in_nI (by decide) (by decide), 10, by rw [hk]; rfl, ?_⟩
  refine hJ 26 _ _ _ ?_
  refine hJ 38 _ _ _ ?_
  exact And.intro ⟨_, rfl⟩ ⟨rfl, rfl⟩
set_option maxRecDepth 100000 in
set_option maxHeartbeats 4000000 in
theorem c_X1_kindOf_k3 (l : Launch) {fv : Value} (hf : FV fv) (s : Wt) (t u v w b0 b1 b2 b3 b4 b5 b6 : Nat) (x : Int32) (hk : x = nI 3) : CT l fv 1 jX1_kindOf [.ref 6, .int x] (hWt s t u v w b0 b1 b2 b3 b4 b5 b6) (DP (some (.ref 11)) (hWt s t u v w b0 b1 b2 b3 b4 b5 b6)) := by
  refine CT_of [] mt_X1_kindOf (by decide +kernel) (tab_X1 hf) okX1_kindOf (Nat.le_of_ble_eq_true rfl) ?_
  intro J hJ hD
  refine hJ 0 _ _ _ ?_
  refine And.intro (fun c1 => absurd c1 (by rw [hk]; decide)) (fun c1 => ?_)
  refine And.intro (fun c2 => absurd c2 (by rw [hk]; decide)) (fun c2 => ?_)
  refine ⟨Or.inr rfl, by rw [hk]; exact vp_in_nI (by decide) (by decide), 11, by rw [hk]; rfl, ?_⟩
  refine hJ 26 _ _ _ ?_
  refine hJ 38 _ _ _ ?_
  exact And.intro ⟨_, rfl⟩ ⟨rfl, rfl⟩
set_option maxRecDepth 100000 in
set_option maxHeartbeats 4000000 in
theorem c_X1_kindOf_k4 (l : Launch) {fv : Value} (hf : FV fv) (s : Wt) (t u v w b0 b1 b2 b3 b4 b5 b6 : Nat) (x : Int32) (hk : x = nI 4) : CT l fv 1 jX1_kindOf [.ref 6, .int x] (hWt s t u v w b0 b1 b2 b3 b4 b5 b6) (DP (some (.ref 12)) (hWt s t u v w b0 b1 b2 b3 b4 b5 b6)) := by
  refine CT_of [] mt_X1_kindOf (by decide +kernel) (tab_X1 hf) okX1_kindOf (Nat.le_of_ble_eq_true rfl) ?_
  intro J hJ hD
  refine hJ 0 _ _ _ ?_
  refine And.intro (fun c1 => absurd c1 (by rw [hk]; decide)) (fun c1 => ?_)
  refine And.intro (fun c2 => absurd c2 (by rw [hk]; decide)) (fun c2 => ?_)
  refine ⟨Or.inr rfl, by rw [hk]; exact vp_in_nI (by decide) (by decide), 12, by rw [hk]; rfl, ?_⟩
  refine hJ 26 _ _ _ ?_
  refine hJ 38 _ _ _ ?_
  exact And.intro ⟨_, rfl⟩ ⟨rfl, rfl⟩
set_option maxRecDepth 100000 in
set_option maxHeartbeats 4000000 in
theorem c_X1_kindOf_k5 (l : Launch) {fv : Value} (hf : FV fv) (s : Wt) (t u v w b0 b1 b2 b3 b4 b5 b6 : Nat) (x : Int32) (hk : x = nI 5) : CT l fv 1 jX1_kindOf [.ref 6, .int x] (hWt s t u v w b0 b1 b2 b3 b4 b5 b6) (DP (some (.ref 13)) (hWt s t u v w b0 b1 b2 b3 b4 b5 b6)) := by
  refine CT_of [] mt_X1_kindOf (by decide +kernel) (tab_X1 hf) okX1_kindOf (Nat.le_of_ble_eq_true rfl) ?_
  intro J hJ hD
  refine hJ 0 _ _ _ ?_
  refine And.intro (fun c1 => absurd c1 (by rw [hk]; decide)) (fun c1 => ?_)
  refine And.intro (fun c2 => absurd c2 (by rw [hk]; decide)) (fun c2 => ?_)
  refine ⟨Or.inr rfl, by rw [hk]; exact vp_in_nI (by decide) (by decide), 13, by rw [hk]; rfl, ?_⟩
  refine hJ 26 _ _ _ ?_
  refine hJ 38 _ _ _ ?_
  exact And.intro ⟨_, rfl⟩ ⟨rfl, rfl⟩
set_option maxRecDepth 100000 in
set_option maxHeartbeats 4000000 in
theorem c_X1_kindOf_k6 (l : Launch) {fv : Value} (hf : FV fv) (s : Wt) (t u v w b0 b1 b2 b3 b4 b5 b6 : Nat) (x : Int32) (hk : x = nI 6) : CT l fv 1 jX1_kindOf [.ref 6, .int x] (hWt s t u v w b0 b1 b2 b3 b4 b5 b6) (DP (some (.ref 14)) (hWt s t u v w b0 b1 b2 b3 b4 b5 b6)) := by
  refine CT_of [] mt_X1_kindOf (by decide +kernel) (tab_X1 hf) okX1_kindOf (Nat.le_of_ble_eq_true rfl) ?_
  intro J hJ hD
  refine hJ 0 _ _ _ ?_
  refine And.intro (fun c1 => absurd c1 (by rw [hk]; decide)) (fun c1 => ?_)
  refine And.intro (fun c2 => absurd c2 (by rw [hk]; decide)) (fun c2 => ?_)
  refine ⟨Or.inr rfl, by rw [hk]; exact vp_in_nI (by decide) (by decide), 14, by rw [hk]; rfl, ?_⟩
  refine hJ 26 _ _ _ ?_
  refine hJ 38 _ _ _ ?_
  exact And.intro ⟨_, rfl⟩ ⟨rfl, rfl⟩
def m_X4_joined  (x : Int32) (b : Int32) : Int32 := if x = (-nI 1) then (b ^^^ nI 1) else (bindv (if x = (-nI 2) then (b &&& (b >>> (nI 1 &&& 31))) else (b ||| (b >>> (nI 1 &&& 31)))) (fun x2_0 => (((b >>> (nI 1 &&& 31)) &&& (-nI 2)) ||| (x2_0 &&& nI 1))))
set_option maxRecDepth 100000 in
set_option maxHeartbeats 4000000 in
theorem c_X4_joined (l : Launch) {fv : Value} (hf : FV fv)  (x : Int32) (b : Int32) : CT l fv 1 jX4_joined [.int x, .int b] ([]) (DP (some (.int (m_X4_joined x b))) ([])) := by
  refine CT_of [28] mt_X4_joined (by decide +kernel) (tab_X4 hf) okX4_joined (Nat.le_of_ble_eq_true rfl) ?_
  intro J hJ hD
  refine hJ 0 _ _ _ ?_
  refine And.intro (fun c1 => ?_) (fun c1 => ?_)
  · skip
    refine hJ 9 _ _ _ ?_
    have K2 : ∀ (x2_0 : Int32), (if x = (-nI 2) then (b &&& (b >>> (nI 1 &&& 31))) else (b ||| (b >>> (nI 1 &&& 31)))) = x2_0 → J 28 [(2, .int (b >>> (nI 1 &&& 31)))] [.int x2_0] [] := by
      intro x2_0 ex2_0
      refine hJ 28 _ _ _ ?_
      exact And.intro True.intro (DPi ((if_neg c1).trans (bindv_eq ex2_0)))
    refine And.intro (fun c3 => ?_) (fun c3 => ?_)
    · skip
      refine hJ 25 _ _ _ ?_
      exact hD _ _ [0] _ _ (K2 _ (if_neg c3))
    · skip
      exact hD _ _ [0] _ _ (K2 _ (if_pos c3))
  · skip
    exact And.intro True.intro (DPi (if_pos c1))
def m_X4_holds (zh_p : Int32) (zh_k : Int32) (zh_v : Int32) (zh_f : Int32) (zh_c : Int32) (zh_t : Int32) (x : Int32) : Int32 := bindv (if (x / nI 300) = nI 0 then (zh_p) else (if (x / nI 300) = nI 1 then (zh_k) else (if (x / nI 300) = nI 2 then (zh_v) else (if (x / nI 300) = nI 3 then (zh_f) else (if (x / nI 300) = nI 4 then (zh_c) else (zh_t)))))) (fun x1_0 => if ((x / nI 100) - (x / nI 100) / nI 3 * nI 3) = 0 then (if (x - x / nI 100 * nI 100) ≤ x1_0 then nI 0 else nI 1) else (if ((x / nI 100) - (x / nI 100) / nI 3 * nI 3) = nI 1 then (if x1_0 = (x - x / nI 100 * nI 100) then nI 1 else nI 0) else (if x1_0 ≤ (x - x / nI 100 * nI 100) then nI 0 else nI 1)))
theorem bl_X4_holds {zh_p : Int32} {zh_k : Int32} {zh_v : Int32} {zh_f : Int32} {zh_c : Int32} {zh_t : Int32} {x : Int32} : bl (m_X4_holds zh_p zh_k zh_v zh_f zh_c zh_t x) := by
  unfold m_X4_holds
  simp only [bindv]
  (repeat' split) <;> first | exact Or.inl rfl | exact Or.inr rfl
set_option maxRecDepth 100000 in
set_option maxHeartbeats 4000000 in
theorem c_X4_holds (l : Launch) {fv : Value} (hf : FV fv) (s : Wt) (t u v w b0 b1 b2 b3 b4 b5 b6 : Nat) (x : Int32) : CT l fv 1 jX4_holds [.int x, .ref 6] (hWt s t u v w b0 b1 b2 b3 b4 b5 b6) (DP (some (.int (m_X4_holds (Hh.p (Wt.h s)) (Hh.k (Wt.h s)) (Hh.v (Wt.h s)) (Hh.f (Wt.h s)) (Hh.c (Wt.h s)) (Hh.t (Wt.h s)) x))) (hWt s t u v w b0 b1 b2 b3 b4 b5 b6)) := by
  refine CT_of [89] mt_X4_holds (by decide +kernel) (tab_X4 hf) okX4_holds (Nat.le_of_ble_eq_true rfl) ?_
  intro J hJ hD
  refine hJ 0 _ _ _ ?_
  refine And.intro (by decide) ?_
  refine And.intro (by decide) ?_
  have K1 : ∀ (x1_0 : Int32), (if (x / nI 300) = nI 0 then (Hh.p (Wt.h s)) else (if (x / nI 300) = nI 1 then (Hh.k (Wt.h s)) else (if (x / nI 300) = nI 2 then (Hh.v (Wt.h s)) else (if (x / nI 300) = nI 3 then (Hh.f (Wt.h s)) else (if (x / nI 300) = nI 4 then (Hh.c (Wt.h s)) else (Hh.t (Wt.h s))))))) = x1_0 → J 89 [(0, .int x), (2, .int (x - x / nI 100 * nI 100)), (3, .int x1_0)] [] (hWt s t u v w b0 b1 b2 b3 b4 b5 b6) := by
    intro x1_0 ex1_0
    refine hJ 89 _ _ _ ?_
    refine And.intro (by decide) ?_
    refine And.intro (by decide) ?_
    refine And.intro (fun c2 => ?_) (fun c2 => ?_)
    · skip
      refine hJ 115 _ _ _ ?_
      refine And.intro (fun c3 => ?_) (fun c3 => ?_)
      · skip
        refine hJ 134 _ _ _ ?_
        refine And.intro (fun c4 => ?_) (fun c4 => ?_)
        · skip
          refine hJ 143 _ _ _ ?_
          exact And.intro xb0 (DPi ((bindv_eq ex1_0).trans ((if_neg c2).trans ((if_neg c3).trans (if_pos c4)))))
        · skip
          refine hJ 144 _ _ _ ?_
          exact And.intro xb1 (DPi ((bindv_eq ex1_0).trans ((if_neg c2).trans ((if_neg c3).trans (if_neg c4)))))
      · skip
        refine And.intro (fun c5 => ?_) (fun c5 => ?_)
        · skip
          refine hJ 130 _ _ _ ?_
          refine hJ 144 _ _ _ ?_
          exact And.intro xb0 (DPi ((bindv_eq ex1_0).trans ((if_neg c2).trans ((if_pos c3).trans (if_neg c5)))))
        · skip
          refine hJ 144 _ _ _ ?_
          exact And.intro xb1 (DPi ((bindv_eq ex1_0).trans ((if_neg c2).trans ((if_pos c3).trans (if_pos c5)))))
    · skip
      refine And.intro (fun c6 => ?_) (fun c6 => ?_)
      · skip
        refine hJ 111 _ _ _ ?_
        refine hJ 144 _ _ _ ?_
        exact And.intro xb0 (DPi ((bindv_eq ex1_0).trans ((if_pos c2).trans (if_pos c6))))
      · skip
        refine hJ 144 _ _ _ ?_
        exact And.intro xb1 (DPi ((bindv_eq ex1_0).trans ((if_pos c2).trans (if_neg c6))))
  refine And.intro (fun c7 => ?_) (And.intro (by decide) (And.intro (fun c8 => ?_) (And.intro (fun c9 => ?_) (And.intro (fun c10 => ?_) (And.intro (fun c11 => ?_) (And.intro (fun c12 => ?_) (True.intro)))))))
  · skip
    refine hJ 84 _ _ _ ?_
    exact hD _ _ [2, 1, 0] _ _ (K1 _ ((if_neg (sw_ne 0 c7 (by decide) (by decide) (by decide))).trans ((if_neg (sw_ne 1 c7 (by decide) (by decide) (by decide))).trans ((if_neg (sw_ne 2 c7 (by decide) (by decide) (by decide))).trans ((if_neg (sw_ne 3 c7 (by decide) (by decide) (by decide))).trans (if_neg (sw_ne 4 c7 (by decide) (by decide) (by decide))))))))
  · skip
    refine hJ 44 _ _ _ ?_
    exact hD _ _ [2, 1, 0] _ _ (K1 _ (if_pos (sw_eq 0 c8 rfl (by decide))))
  · skip
    refine hJ 52 _ _ _ ?_
    exact hD _ _ [2, 1, 0] _ _ (K1 _ ((if_neg (sw_ot 0 c9 (by decide) (by decide))).trans (if_pos (sw_eq 1 c9 rfl (by decide)))))
  · skip
    refine hJ 60 _ _ _ ?_
    exact hD _ _ [2, 1, 0] _ _ (K1 _ ((if_neg (sw_ot 0 c10 (by decide) (by decide))).trans ((if_neg (sw_ot 1 c10 (by decide) (by decide))).trans (if_pos (sw_eq 2 c10 rfl (by decide))))))
  · skip
    refine hJ 68 _ _ _ ?_
    exact hD _ _ [2, 1, 0] _ _ (K1 _ ((if_neg (sw_ot 0 c11 (by decide) (by decide))).trans ((if_neg (sw_ot 1 c11 (by decide) (by decide))).trans ((if_neg (sw_ot 2 c11 (by decide) (by decide))).trans (if_pos (sw_eq 3 c11 rfl (by decide)))))))
  · skip
    refine hJ 76 _ _ _ ?_
    exact hD _ _ [2, 1, 0] _ _ (K1 _ ((if_neg (sw_ot 0 c12 (by decide) (by decide))).trans ((if_neg (sw_ot 1 c12 (by decide) (by decide))).trans ((if_neg (sw_ot 2 c12 (by decide) (by decide))).trans ((if_neg (sw_ot 3 c12 (by decide) (by decide))).trans (if_pos (sw_eq 4 c12 rfl (by decide))))))))
theorem vp_f4 {f : Int32} (h : vp_in f 8) : vp_in (f - f / nI 4 * nI 4) 4 := by
  obtain ⟨k, hk, rfl⟩ := vp_in_of h (by decide)
  rw [pk_rem (by omega) (by decide) (by decide)]
  exact vp_in_nI (Nat.mod_lt k (by decide)) (by decide)
theorem or7 {x : Int32} (h : vp_in x 7) : x = nI 0 ∨ x = nI 1 ∨ x = nI 2 ∨ x = nI 3 ∨ x = nI 4 ∨ x = nI 5 ∨ x = nI 6 := by
  obtain ⟨k, hk, rfl⟩ := vp_in_of h (by decide)
  have : k = 0 ∨ k = 1 ∨ k = 2 ∨ k = 3 ∨ k = 4 ∨ k = 5 ∨ k = 6 := by omega
  rcases this with rfl | rfl | rfl | rfl | rfl | rfl | rfl
  · exact Or.inl rfl
  · exact Or.inr (Or.inl rfl)
  · exact Or.inr (Or.inr (Or.inl rfl))
  · exact Or.inr (Or.inr (Or.inr (Or.inl rfl)))
  · exact Or.inr (Or.inr (Or.inr (Or.inr (Or.inl rfl))))
  · exact Or.inr (Or.inr (Or.inr (Or.inr (Or.inr (Or.inl rfl)))))
  · exact Or.inr (Or.inr (Or.inr (Or.inr (Or.inr (Or.inr rfl)))))
/-- the kinds of those who are there are kinds -/
def hK (z : Int32) (kd : Fn) : Prop := ∀ i, ¬ m_X7_has z i = 0 → vp_in (kd i.toNatClampNeg) 7
def l_X4_sum_7 (zh_p : Int32) (zh_k : Int32) (zh_v : Int32) (zh_f : Int32) (zh_c : Int32) (zh_t : Int32) (zl_st : Fn) (zl_sz : Int32) : Nat → Int32 → Int32 → Int32 → Int32
  | 0, _, _, _ => 0
  | n7 + 1, su, bi, i => if zl_sz ≤ i then su else (if nI 100 ≤ i then su else (bindv (if (zl_st i.toNatClampNeg) < nI 20000 then (if (zl_st i.toNatClampNeg) < nI 10000 then (if (zl_st i.toNatClampNeg) < 0 then su else (bindv (if (m_X4_holds (zh_p) (zh_k) (zh_v) (zh_f) (zh_c) (zh_t) (zl_st i.toNatClampNeg)) = 0 then (nI 0) else (nI 1)) (fun x6_0 => su))) else (su + ((bi &&& nI 1) * ((zl_st i.toNatClampNeg) - nI 10000)))) else (su - ((bi &&& nI 1) * ((zl_st i.toNatClampNeg) - nI 20000)))) (fun x3_0 => bindv (if (zl_st i.toNatClampNeg) < nI 20000 then (if (zl_st i.toNatClampNeg) < nI 10000 then (if (zl_st i.toNatClampNeg) < 0 then (m_X4_joined (zl_st i.toNatClampNeg) bi) else (bindv (if (m_X4_holds (zh_p) (zh_k) (zh_v) (zh_f) (zh_c) (zh_t) (zl_st i.toNatClampNeg)) = 0 then (nI 0) else (nI 1)) (fun x6_0 => ((bi <<< (nI 1 &&& 31)) ||| x6_0)))) else (nI 0)) else (nI 0)) (fun x3_1 => l_X4_sum_7 zh_p zh_k zh_v zh_f zh_c zh_t zl_st zl_sz n7 x3_0 x3_1 (i + nI 1)))))
theorem q_X4_sum_7 (zh_p : Int32) (zh_k : Int32) (zh_v : Int32) (zh_f : Int32) (zh_c : Int32) (zh_t : Int32) (zl_st : Fn) (zl_sz : Int32) (n7 : Nat) (su : Int32) (bi : Int32) (i : Int32) : l_X4_sum_7 zh_p zh_k zh_v zh_f zh_c zh_t zl_st zl_sz (n7 + 1) su bi i = (if zl_sz ≤ i then su else (if nI 100 ≤ i then su else (bindv (if (zl_st i.toNatClampNeg) < nI 20000 then (if (zl_st i.toNatClampNeg) < nI 10000 then (if (zl_st i.toNatClampNeg) < 0 then su else (bindv (if (m_X4_holds (zh_p) (zh_k) (zh_v) (zh_f) (zh_c) (zh_t) (zl_st i.toNatClampNeg)) = 0 then (nI 0) else (nI 1)) (fun x6_0 => su))) else (su + ((bi &&& nI 1) * ((zl_st i.toNatClampNeg) - nI 10000)))) else (su - ((bi &&& nI 1) * ((zl_st i.toNatClampNeg) - nI 20000)))) (fun x3_0 => bindv (if (zl_st i.toNatClampNeg) < nI 20000 then (if (zl_st i.toNatClampNeg) < nI 10000 then (if (zl_st i.toNatClampNeg) < 0 then (m_X4_joined (zl_st i.toNatClampNeg) bi) else (bindv (if (m_X4_holds (zh_p) (zh_k) (zh_v) (zh_f) (zh_c) (zh_t) (zl_st i.toNatClampNeg)) = 0 then (nI 0) else (nI 1)) (fun x6_0 => ((bi <<< (nI 1 &&& 31)) ||| x6_0)))) else (nI 0)) else (nI 0)) (fun x3_1 => l_X4_sum_7 zh_p zh_k zh_v zh_f zh_c zh_t zl_st zl_sz n7 x3_0 x3_1 (i + nI 1)))))) := rfl
def m_X4_sum (zh_p : Int32) (zh_k : Int32) (zh_v : Int32) (zh_f : Int32) (zh_c : Int32) (zh_t : Int32) (zl_st : Fn) (zl_sz : Int32) : Int32 := l_X4_sum_7 zh_p zh_k zh_v zh_f zh_c zh_t zl_st zl_sz 101 (nI 3) (nI 0) (nI 0)
set_option maxRecDepth 100000 in
set_option maxHeartbeats 4000000 in
theorem c_X4_sum (l : Launch) {fv : Value} (hf : FV fv) (s : Wt) (t u v w b0 b1 b2 b3 b4 b5 b6 : Nat) : CT l fv 2 jX4_sum [.ref 16, .ref 6] (hWt s t u v w b0 b1 b2 b3 b4 b5 b6) (DP (some (.int (m_X4_sum (Hh.p (Wt.h s)) (Hh.k (Wt.h s)) (Hh.v (Wt.h s)) (Hh.f (Wt.h s)) (Hh.c (Wt.h s)) (Hh.t (Wt.h s)) (Lg.st (Wt.l s)) (Lg.sz (Wt.l s))))) (hWt s t u v w b0 b1 b2 b3 b4 b5 b6)) := by
  refine CT_of [7, 109, 121] mt_X4_sum (by decide +kernel) (tab_X4 hf) okX4_sum (Nat.le_of_ble_eq_true rfl) ?_
  intro J hJ hD
  refine hJ 0 _ _ _ ?_
  have L7 : ∀ (n7 : Nat) (su : Int32) (bi : Int32) (i : Int32), (∃ z9 : Nat, z9 ≤ 100 ∧ n7 + z9 = 101 ∧ i = nI z9) → m_X4_sum (Hh.p (Wt.h s)) (Hh.k (Wt.h s)) (Hh.v (Wt.h s)) (Hh.f (Wt.h s)) (Hh.c (Wt.h s)) (Hh.t (Wt.h s)) (Lg.st (Wt.l s)) (Lg.sz (Wt.l s)) = l_X4_sum_7 (Hh.p (Wt.h s)) (Hh.k (Wt.h s)) (Hh.v (Wt.h s)) (Hh.f (Wt.h s)) (Hh.c (Wt.h s)) (Hh.t (Wt.h s)) (Lg.st (Wt.l s)) (Lg.sz (Wt.l s)) n7 su bi i → J 7 [(0, .ref 16), (1, .ref 6), (2, .int su), (3, .int bi), (4, .int i)] [] (hWt s t u v w b0 b1 b2 b3 b4 b5 b6) := by
    intro n7
    induction n7 with
    | zero =>
      intro su bi i hv
      obtain ⟨z9, h1, h2, h3⟩ := hv
      omega
    | succ n7 ih7 =>
      intro su bi i hv e7
      obtain ⟨z9, h1, h2, h3⟩ := hv
      refine hJ 7 _ _ _ ?_
      refine And.intro (fun c1 => ?_) (fun c1 => ?_)
      · skip
        refine hJ 127 _ _ _ ?_
        exact And.intro True.intro (DPi (e7.trans ((q_X4_sum_7 (Hh.p (Wt.h s)) (Hh.k (Wt.h s)) (Hh.v (Wt.h s)) (Hh.f (Wt.h s)) (Hh.c (Wt.h s)) (Hh.t (Wt.h s)) (Lg.st (Wt.l s)) (Lg.sz (Wt.l s)) n7 su bi i).trans (if_pos c1))))
      · skip
        refine And.intro (fun c2 => ?_) (fun c2 => ?_)
        · skip
          refine hJ 127 _ _ _ ?_
          exact And.intro True.intro (DPi (e7.trans ((q_X4_sum_7 (Hh.p (Wt.h s)) (Hh.k (Wt.h s)) (Hh.v (Wt.h s)) (Hh.f (Wt.h s)) (Hh.c (Wt.h s)) (Hh.t (Wt.h s)) (Lg.st (Wt.l s)) (Lg.sz (Wt.l s)) n7 su bi i).trans ((if_neg c1).trans (if_pos c2)))))
        · skip
          have h4 : z9 < 100 := cnt_lt h3 h1 (by decide) c2
          refine And.intro (vp_nI h3 h4 (by decide)) ?_
          have K3 : ∀ (x3_0 : Int32), ∀ (x3_1 : Int32), (if (Lg.st (Wt.l s) i.toNatClampNeg) < nI 20000 then (if (Lg.st (Wt.l s) i.toNatClampNeg) < nI 10000 then (if (Lg.st (Wt.l s) i.toNatClampNeg) < 0 then su else (bindv (if (m_X4_holds (Hh.p (Wt.h s)) (Hh.k (Wt.h s)) (Hh.v (Wt.h s)) (Hh.f (Wt.h s)) (Hh.c (Wt.h s)) (Hh.t (Wt.h s)) (Lg.st (Wt.l s) i.toNatClampNeg)) = 0 then (nI 0) else (nI 1)) (fun x6_0 => su))) else (su + ((bi &&& nI 1) * ((Lg.st (Wt.l s) i.toNatClampNeg) - nI 10000)))) else (su - ((bi &&& nI 1) * ((Lg.st (Wt.l s) i.toNatClampNeg) - nI 20000)))) = x3_0 → (if (Lg.st (Wt.l s) i.toNatClampNeg) < nI 20000 then (if (Lg.st (Wt.l s) i.toNatClampNeg) < nI 10000 then (if (Lg.st (Wt.l s) i.toNatClampNeg) < 0 then (m_X4_joined (Lg.st (Wt.l s) i.toNatClampNeg) bi) else (bindv (if (m_X4_holds (Hh.p (Wt.h s)) (Hh.k (Wt.h s)) (Hh.v (Wt.h s)) (Hh.f (Wt.h s)) (Hh.c (Wt.h s)) (Hh.t (Wt.h s)) (Lg.st (Wt.l s) i.toNatClampNeg)) = 0 then (nI 0) else (nI 1)) (fun x6_0 => ((bi <<< (nI 1 &&& 31)) ||| x6_0)))) else (nI 0)) else (nI 0)) = x3_1 → J 121 [(0, .ref 16), (1, .ref 6), (2, .int x3_0), (3, .int x3_1), (4, .int i)] [] (hWt s t u v w b0 b1 b2 b3 b4 b5 b6) := by
            intro x3_0 x3_1 ex3_0 ex3_1
            refine hJ 121 _ _ _ ?_
            exact hD _ _ [1, 2, 3, 4, 0] _ _ (ih7 _ _ _ ⟨z9 + 1, by omega, by omega, by rw [h3]; exact nI_add z9 1⟩ (e7.trans ((q_X4_sum_7 (Hh.p (Wt.h s)) (Hh.k (Wt.h s)) (Hh.v (Wt.h s)) (Hh.f (Wt.h s)) (Hh.c (Wt.h s)) (Hh.t (Wt.h s)) (Lg.st (Wt.l s)) (Lg.sz (Wt.l s)) n7 su bi i).trans ((if_neg c1).trans ((if_neg c2).trans ((bindv_eq ex3_0).trans (bindv_eq ex3_1)))))))
          refine And.intro (fun c4 => ?_) (fun c4 => ?_)
          · skip
            refine hJ 61 _ _ _ ?_
            refine And.intro (fun c5 => ?_) (fun c5 => ?_)
            · skip
              refine hJ 87 _ _ _ ?_
              refine And.intro (fun c6 => ?_) (fun c6 => ?_)
              · skip
                refine hJ 114 _ _ _ ?_
                refine CALL_sub (h' := hWt s t u v w b0 b1 b2 b3 b4 b5 b6) [] (by decide) (c_X4_joined l hf (Lg.st (Wt.l s) i.toNatClampNeg) bi) rfl rfl (by decide) (by decide) rfl ?_
                exact hD _ _ [2, 3, 4, 0, 5] _ _ (K3 _ _ ((if_pos c4).trans ((if_pos c5).trans (if_pos c6))) ((if_pos c4).trans ((if_pos c5).trans (if_pos c6))))
              · skip
                refine CALL_same (r := some (.int (m_X4_holds (Hh.p (Wt.h s)) (Hh.k (Wt.h s)) (Hh.v (Wt.h s)) (Hh.f (Wt.h s)) (Hh.c (Wt.h s)) (Hh.t (Wt.h s)) (Lg.st (Wt.l s) i.toNatClampNeg)))) (h1 := hWt s t u v w b0 b1 b2 b3 b4 b5 b6) (by decide) (c_X4_holds l hf s t u v w b0 b1 b2 b3 b4 b5 b6 (Lg.st (Wt.l s) i.toNatClampNeg)) ?_
                have K7 : ∀ (x7_0 : Int32), (if (m_X4_holds (Hh.p (Wt.h s)) (Hh.k (Wt.h s)) (Hh.v (Wt.h s)) (Hh.f (Wt.h s)) (Hh.c (Wt.h s)) (Hh.t (Wt.h s)) (Lg.st (Wt.l s) i.toNatClampNeg)) = 0 then (nI 0) else (nI 1)) = x7_0 → J 109 [(0, .ref 16), (1, .ref 6), (2, .int su), (4, .int i)] [.int x7_0, .int (bi <<< (nI 1 &&& 31))] (hWt s t u v w b0 b1 b2 b3 b4 b5 b6) := by
                  intro x7_0 ex7_0
                  refine hJ 109 _ _ _ ?_
                  exact hD _ _ [1, 2, 3, 0, 4] _ _ (K3 _ _ ((if_pos c4).trans ((if_pos c5).trans ((if_neg c6).trans (bindv_eq ex7_0)))) ((if_pos c4).trans ((if_pos c5).trans ((if_neg c6).trans (bindv_eq ex7_0)))))
                refine And.intro (fun c8 => ?_) (fun c8 => ?_)
                · skip
                  refine hJ 108 _ _ _ ?_
                  exact hD _ _ [1, 2, 3, 5] _ _ (K7 _ (if_pos c8))
                · skip
                  exact hD _ _ [1, 2, 3, 5] _ _ (K7 _ (if_neg c8))
            · skip
              exact hD _ _ [3, 4, 1, 0, 5] _ _ (K3 _ _ ((if_pos c4).trans (if_neg c5)) ((if_pos c4).trans (if_neg c5)))
          · skip
            exact hD _ _ [3, 4, 1, 0, 5] _ _ (K3 _ _ (if_neg c4) (if_neg c4))
  exact hD _ _ [3, 4, 2, 1, 0] _ _ (L7 101 _ _ _ ⟨0, by decide, by decide, rfl⟩ (rfl))
def m_X1_look (s : Wt) (i : Int32) (f : Int32) : Wt := if (m_X7_has (Sc.sz (Wt.c s)) i) = 0 then s else (if (((Sc.kn (Wt.c s) i.toNatClampNeg) >>> (f &&& 31)) &&& nI 1) = nI 1 then (Wt.c s, (i, (Sc.kd (Wt.c s) i.toNatClampNeg), (Sc.vv (Wt.c s) i.toNatClampNeg), f, (m_J6_bitCount_0f7a4 (Sc.kn (Wt.c s) i.toNatClampNeg)), (Sc.ti (Wt.c s) - Sc.ti (Wt.c s) / nI 10 * nI 10), (Sc.rw (Wt.c s) ((i * nI 4) + (f - f / nI 4 * nI 4)).toNatClampNeg), nI 1), Wt.k0 s, Wt.k1 s, Wt.k2 s, Wt.k3 s, Wt.k4 s, Wt.k5 s, Wt.k6 s, Wt.st s, Wt.l s) else (Wt.c s, (i, (Sc.kd (Wt.c s) i.toNatClampNeg), (Sc.vv (Wt.c s) i.toNatClampNeg), f, (m_J6_bitCount_0f7a4 (Sc.kn (Wt.c s) i.toNatClampNeg)), (Sc.ti (Wt.c s) - Sc.ti (Wt.c s) / nI 10 * nI 10), (Sc.rw (Wt.c s) ((i * nI 4) + (f - f / nI 4 * nI 4)).toNatClampNeg), nI 0), Wt.k0 s, Wt.k1 s, Wt.k2 s, Wt.k3 s, Wt.k4 s, Wt.k5 s, Wt.k6 s, Wt.st s, Wt.l s))
set_option maxRecDepth 100000 in
set_option maxHeartbeats 4000000 in
theorem c_X1_look (l : Launch) {fv : Value} (hf : FV fv) (s : Wt) (t u v w b0 b1 b2 b3 b4 b5 b6 : Nat) (i : Int32) (f : Int32) (hf8 : vp_in f 8) : CT l fv 2 jX1_look [.ref 6, .ref 0, .int i, .int f] (hWt s t u v w b0 b1 b2 b3 b4 b5 b6) (DP none (hWt (m_X1_look s i f) t u v w b0 b1 b2 b3 b4 b5 b6)) := by
  refine CT_of [] mt_X1_look (by decide +kernel) (tab_X1 hf) okX1_look (Nat.le_of_ble_eq_true rfl) ?_
  intro J hJ hD
  refine hJ 0 _ _ _ ?_
  refine CALL_pre (r := some (.int (m_X7_has (Sc.sz (Wt.c s)) i))) (h1 := hSc (Wt.c s) t u v w) (rest := List.drop 6 (hWt s t u v w b0 b1 b2 b3 b4 b5 b6)) (by decide) (c_X7_has l hf (Wt.c s) t u v w i) rfl rfl (Nat.le_of_ble_eq_true rfl) ?_
  refine And.intro (fun c1 => ?_) (fun c1 => ?_)
  · skip
    have hi := has_of c1
    refine hJ 9 _ _ _ ?_
    refine And.intro True.intro ?_
    refine And.intro (hi) ?_
    refine And.intro True.intro ?_
    refine And.intro (hi) ?_
    refine And.intro True.intro ?_
    refine And.intro True.intro ?_
    refine And.intro (hi) ?_
    refine CALL_sub (h' := wWt (Wt.c s) (i, (Sc.kd (Wt.c s) i.toNatClampNeg), (Sc.vv (Wt.c s) i.toNatClampNeg), f, Hh.c (Wt.h s), Hh.t (Wt.h s), Hh.ro (Wt.h s), Hh.kw (Wt.h s)) (Wt.k0 s) (Wt.k1 s) (Wt.k2 s) (Wt.k3 s) (Wt.k4 s) (Wt.k5 s) (Wt.k6 s) (Wt.st s) (Wt.l s) t u v w b0 b1 b2 b3 b4 b5 b6) [] (by decide) (c_J6_bitCount_0f7a4 l hf (Sc.kn (Wt.c s) i.toNatClampNeg)) rfl rfl (by decide) (by decide) rfl ?_
    refine And.intro True.intro ?_
    refine And.intro (by decide) ?_
    refine And.intro True.intro ?_
    refine And.intro (by decide) ?_
    refine And.intro (vp_x4c hi (vp_f4 hf8) (by decide) (by decide) (by decide)) ?_
    refine And.intro True.intro ?_
    refine And.intro (hi) ?_
    refine And.intro (fun c2 => ?_) (fun c2 => ?_)
    · skip
      refine hJ 98 _ _ _ ?_
      refine And.intro (Or.inl rfl) ?_
      exact And.intro rfl (DPs (F := (fun z => hWt z t u v w b0 b1 b2 b3 b4 b5 b6)) (s' := (Wt.c s, (i, (Sc.kd (Wt.c s) i.toNatClampNeg), (Sc.vv (Wt.c s) i.toNatClampNeg), f, (m_J6_bitCount_0f7a4 (Sc.kn (Wt.c s) i.toNatClampNeg)), (Sc.ti (Wt.c s) - Sc.ti (Wt.c s) / nI 10 * nI 10), (Sc.rw (Wt.c s) ((i * nI 4) + (f - f / nI 4 * nI 4)).toNatClampNeg), nI 0), Wt.k0 s, Wt.k1 s, Wt.k2 s, Wt.k3 s, Wt.k4 s, Wt.k5 s, Wt.k6 s, Wt.st s, Wt.l s)) ((if_neg c1).trans (if_neg c2)))
    · skip
      refine hJ 99 _ _ _ ?_
      refine And.intro (Or.inr rfl) ?_
      exact And.intro rfl (DPs (F := (fun z => hWt z t u v w b0 b1 b2 b3 b4 b5 b6)) (s' := (Wt.c s, (i, (Sc.kd (Wt.c s) i.toNatClampNeg), (Sc.vv (Wt.c s) i.toNatClampNeg), f, (m_J6_bitCount_0f7a4 (Sc.kn (Wt.c s) i.toNatClampNeg)), (Sc.ti (Wt.c s) - Sc.ti (Wt.c s) / nI 10 * nI 10), (Sc.rw (Wt.c s) ((i * nI 4) + (f - f / nI 4 * nI 4)).toNatClampNeg), nI 1), Wt.k0 s, Wt.k1 s, Wt.k2 s, Wt.k3 s, Wt.k4 s, Wt.k5 s, Wt.k6 s, Wt.st s, Wt.l s)) ((if_neg c1).trans (if_pos c2)))
  · skip
    exact And.intro rfl (DPs (F := (fun z => hWt z t u v w b0 b1 b2 b3 b4 b5 b6)) (s' := s) (if_pos c1))

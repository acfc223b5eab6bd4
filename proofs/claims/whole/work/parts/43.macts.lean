/-! printed by wip/whole/gen/specs43.py: acts, image of the model -/
theorem ra_vp {K : Nat} {x : Int32} (hr : rl K x) (hK : K ≤ 1000) (c : ¬ nI 20 ≤ x) : vp_in x 20 := by
  obtain ⟨k, hk, rfl⟩ := hr
  rw [nI_leI (by omega) (by omega)] at c
  exact vp_in_nI (by omega) (by decide)
def m_X12_ranBody (m : Ms) (x : Int32) : Ms := if nI 20 ≤ Ms.ra m then (Ms.th m, Ms.s m, Ms.im m, Ms.fr m, Ms.hi m, Ms.ac m, Ms.sp m, Ms.en m, Ms.wr m, Ms.op m, Ms.bb m, Ms.tr m, Ms.su m, Ms.lf m, Ms.lk m, Ms.nx m, Ms.bo m, (Ms.ra m + nI 1), Ms.ki m, Ms.nu m, Ms.tv m) else (Ms.th m, Ms.s m, Ms.im m, Ms.fr m, Ms.hi m, Ms.ac m, Ms.sp m, Ms.en m, Ms.wr m, Ms.op m, Ms.bb m, Ms.tr m, Ms.su m, Ms.lf m, Ms.lk m, Ms.nx m, (upd (Ms.bo m) (Ms.ra m).toNatClampNeg x), (Ms.ra m + nI 1), Ms.ki m, Ms.nu m, Ms.tv m)
set_option maxRecDepth 100000 in
set_option maxHeartbeats 4000000 in
theorem c_X12_ranBody (l : Launch) {fv : Value} (hf : FV fv) (m : Ms) (x : Int32) {K : Nat} (hr : rl K (Ms.ra m)) (hK : K ≤ 1000) : CT l fv 1 jX12_ranBody [.ref 0, .int x] (hMs m) (DP none (hMs (m_X12_ranBody m x))) := by
  refine CT_of [] mt_X12_ranBody (by decide +kernel) (tab_X12 hf) okX12_ranBody (Nat.le_of_ble_eq_true rfl) ?_
  intro J hJ hD
  refine hJ 0 _ _ _ ?_
  refine And.intro (fun c1 => ?_) (fun c1 => ?_)
  · skip
    refine hJ 19 _ _ _ ?_
    refine And.intro True.intro ?_
    exact And.intro rfl (DPs (F := (fun z => hMs z)) (s' := (Ms.th m, Ms.s m, Ms.im m, Ms.fr m, Ms.hi m, Ms.ac m, Ms.sp m, Ms.en m, Ms.wr m, Ms.op m, Ms.bb m, Ms.tr m, Ms.su m, Ms.lf m, Ms.lk m, Ms.nx m, Ms.bo m, (Ms.ra m + nI 1), Ms.ki m, Ms.nu m, Ms.tv m)) (if_pos c1))
  · skip
    have hx := ra_vp hr hK c1
    refine And.intro (hx) ?_
    refine And.intro True.intro ?_
    exact And.intro rfl (DPs (F := (fun z => hMs z)) (s' := (Ms.th m, Ms.s m, Ms.im m, Ms.fr m, Ms.hi m, Ms.ac m, Ms.sp m, Ms.en m, Ms.wr m, Ms.op m, Ms.bb m, Ms.tr m, Ms.su m, Ms.lf m, Ms.lk m, Ms.nx m, (upd (Ms.bo m) (Ms.ra m).toNatClampNeg x), (Ms.ra m + nI 1), Ms.ki m, Ms.nu m, Ms.tv m)) (if_neg c1))
set_option maxHeartbeats 100000 in
theorem ef_ranBody {K : Nat} {m : Ms} (x : Int32) (h : rl K (Ms.ra m)) : rl (K + 1) (Ms.ra (m_X12_ranBody m x)) := by
  unfold m_X12_ranBody
  split <;> exact h.up
theorem ef_ranBody_r {K : Nat} {m r : Ms} {x : Int32} (e : m_X12_ranBody m x = r) (h : rl K (Ms.ra m)) : rl (K + 1) (Ms.ra r) := by rw [← e]; exact ef_ranBody x h
def m_X12_isUnder  (k : Int32) (j : Int32) : Int32 := if j = 0 then nI 1 else (if j = k then nI 1 else (if j ≤ 0 then nI 0 else (if nI 4 ≤ j then nI 0 else (if k = (j + nI 3) then nI 1 else nI 0))))
theorem bl_X12_isUnder  {k : Int32} {j : Int32} : bl (m_X12_isUnder k j) := by
  unfold m_X12_isUnder
  (repeat' split) <;> first | exact Or.inl rfl | exact Or.inr rfl
set_option maxRecDepth 100000 in
set_option maxHeartbeats 4000000 in
theorem c_X12_isUnder (l : Launch) {fv : Value} (hf : FV fv)  (k : Int32) (j : Int32) : CT l fv 1 jX12_isUnder [.int k, .int j] ([]) (DP (some (.int (m_X12_isUnder k j))) ([])) := by
  refine CT_of [] mt_X12_isUnder (by decide +kernel) (tab_X12 hf) okX12_isUnder (Nat.le_of_ble_eq_true rfl) ?_
  intro J hJ hD
  refine hJ 0 _ _ _ ?_
  refine And.intro (fun c1 => ?_) (fun c1 => ?_)
  · skip
    refine hJ 25 _ _ _ ?_
    refine hJ 30 _ _ _ ?_
    exact And.intro xb1 (DPi (if_pos c1))
  · skip
    refine And.intro (fun c2 => ?_) (fun c2 => ?_)
    · skip
      refine hJ 25 _ _ _ ?_
      refine hJ 30 _ _ _ ?_
      exact And.intro xb1 (DPi ((if_neg c1).trans (if_pos c2)))
    · skip
      refine And.intro (fun c3 => ?_) (fun c3 => ?_)
      · skip
        refine hJ 29 _ _ _ ?_
        exact And.intro xb0 (DPi ((if_neg c1).trans ((if_neg c2).trans (if_pos c3))))
      · skip
        refine And.intro (fun c4 => ?_) (fun c4 => ?_)
        · skip
          refine hJ 29 _ _ _ ?_
          exact And.intro xb0 (DPi ((if_neg c1).trans ((if_neg c2).trans ((if_neg c3).trans (if_pos c4)))))
        · skip
          refine And.intro (fun c5 => ?_) (fun c5 => ?_)
          · skip
            refine hJ 29 _ _ _ ?_
            exact And.intro xb0 (DPi ((if_neg c1).trans ((if_neg c2).trans ((if_neg c3).trans ((if_neg c4).trans (if_neg c5))))))
          · skip
            refine hJ 30 _ _ _ ?_
            exact And.intro xb1 (DPi ((if_neg c1).trans ((if_neg c2).trans ((if_neg c3).trans ((if_neg c4).trans (if_pos c5))))))
def m_X12_plainLeans (m : Ms) (x : Int32) : Int32 × Ms := bindv (m_X12_ranBody m (nI 1)) (fun r1 => ((x + Ms.nu r1), r1))
set_option maxRecDepth 100000 in
set_option maxHeartbeats 4000000 in
theorem c_X12_plainLeans (l : Launch) {fv : Value} (hf : FV fv) (m : Ms) (x : Int32) {K : Nat} (hr : rl K (Ms.ra m)) (hK : K ≤ 999) : CT l fv 2 jX12_plainLeans [.ref 0, .int x] (hMs m) (DP (some (.int (m_X12_plainLeans m x).1)) (hMs ((m_X12_plainLeans m x).2))) := by
  refine CT_of [] mt_X12_plainLeans (by decide +kernel) (tab_X12 hf) okX12_plainLeans (Nat.le_of_ble_eq_true rfl) ?_
  intro J hJ hD
  refine hJ 0 _ _ _ ?_
  obtain ⟨r1, er1⟩ : ∃ z : Ms, m_X12_ranBody m (nI 1) = z := ⟨_, rfl⟩
  have hr1 := c_X12_ranBody l hf m (nI 1) hr (by omega)
  rw [er1] at hr1
  refine CALL_same (r := none) (h1 := hMs r1) (by decide) (hr1) ?_
  exact And.intro True.intro (DPis (F := (fun z => hMs z)) (s' := r1) (bindv_eq er1))
set_option maxHeartbeats 100000 in
theorem ef_plainLeans {K : Nat} {m : Ms} (x : Int32) (h : rl K (Ms.ra m)) : rl (K + 1) (Ms.ra (m_X12_plainLeans m x).2) := ef_ranBody (nI 1) h
set_option maxHeartbeats 100000 in
theorem ef_plainLeans_r {K : Nat} {m : Ms} {x : Int32} {r : Int32 × Ms} (e : m_X12_plainLeans m x = r) (h : rl K (Ms.ra m)) : rl (K + 1) (Ms.ra r.2) := by
  rw [← e]
  exact ef_plainLeans x h
def m_X12_leansActs (m : Ms) (x : Int32) : Int32 × Ms := if (m_X12_isUnder (Ms.ki m) (nI 1)) = 0 then (if Ms.ki m = nI 5 then (bindv (m_X12_ranBody m (nI 51)) (fun r4 => bindv (m_X12_plainLeans r4 x) (fun r5 => ((r5.1 ^^^ Ms.nu r5.2), r5.2)))) else (bindv (m_X12_plainLeans m x) (fun r3 => (r3.1, r3.2)))) else (bindv (m_X12_ranBody m (nI 11)) (fun r6 => bindv (m_X12_plainLeans r6 (x * nI 3)) (fun r7 => (r7.1, r7.2))))
set_option maxRecDepth 100000 in
set_option maxHeartbeats 4000000 in
theorem c_X12_leansActs (l : Launch) {fv : Value} (hf : FV fv) (m : Ms) (x : Int32) {K : Nat} (hr : rl K (Ms.ra m)) (hK : K ≤ 998) : CT l fv 3 jX12_leansActs [.ref 0, .int x] (hMs m) (DP (some (.int (m_X12_leansActs m x).1)) (hMs ((m_X12_leansActs m x).2))) := by
  refine CT_of [] mt_X12_leansActs (by decide +kernel) (tab_X12 hf) okX12_leansActs (Nat.le_of_ble_eq_true rfl) ?_
  intro J hJ hD
  refine hJ 0 _ _ _ ?_
  refine CALL_sub (h' := hMs m) [] (by decide) (c_X12_isUnder l hf (Ms.ki m) (nI 1)) rfl rfl (by decide) (by decide) rfl ?_
  refine And.intro (fun c1 => ?_) (fun c1 => ?_)
  · skip
    refine hJ 25 _ _ _ ?_
    refine And.intro (fun c2 => ?_) (fun c2 => ?_)
    · skip
      refine hJ 50 _ _ _ ?_
      obtain ⟨r3, er3⟩ : ∃ z : Int32 × Ms, m_X12_plainLeans m x = z := ⟨_, rfl⟩
      have hr3 := c_X12_plainLeans l hf m x hr (by omega)
      rw [er3] at hr3
      refine CALL_same (r := some (.int r3.1)) (h1 := hMs r3.2) (by decide) (hr3) ?_
      exact And.intro True.intro (DPis (F := (fun z => hMs z)) (s' := r3.2) ((if_pos c1).trans ((if_neg c2).trans (bindv_eq er3))))
    · skip
      obtain ⟨r4, er4⟩ : ∃ z : Ms, m_X12_ranBody m (nI 51) = z := ⟨_, rfl⟩
      have hr4 := c_X12_ranBody l hf m (nI 51) hr (by omega)
      rw [er4] at hr4
      have h1 := ef_ranBody_r er4 hr
      refine CALL_same (r := none) (h1 := hMs r4) (by decide) (hr4) ?_
      obtain ⟨r5, er5⟩ : ∃ z : Int32 × Ms, m_X12_plainLeans r4 x = z := ⟨_, rfl⟩
      have hr5 := c_X12_plainLeans l hf r4 x h1 (by omega)
      rw [er5] at hr5
      refine CALL_same (r := some (.int r5.1)) (h1 := hMs r5.2) (by decide) (hr5) ?_
      exact And.intro True.intro (DPis (F := (fun z => hMs z)) (s' := r5.2) ((if_pos c1).trans ((if_pos c2).trans ((bindv_eq er4).trans (bindv_eq er5)))))
  · skip
    obtain ⟨r6, er6⟩ : ∃ z : Ms, m_X12_ranBody m (nI 11) = z := ⟨_, rfl⟩
    have hr6 := c_X12_ranBody l hf m (nI 11) hr (by omega)
    rw [er6] at hr6
    have h1 := ef_ranBody_r er6 hr
    refine CALL_same (r := none) (h1 := hMs r6) (by decide) (hr6) ?_
    obtain ⟨r7, er7⟩ : ∃ z : Int32 × Ms, m_X12_plainLeans r6 (x * nI 3) = z := ⟨_, rfl⟩
    have hr7 := c_X12_plainLeans l hf r6 (x * nI 3) h1 (by omega)
    rw [er7] at hr7
    refine CALL_same (r := some (.int r7.1)) (h1 := hMs r7.2) (by decide) (hr7) ?_
    exact And.intro True.intro (DPis (F := (fun z => hMs z)) (s' := r7.2) ((if_neg c1).trans ((bindv_eq er6).trans (bindv_eq er7))))
set_option maxHeartbeats 100000 in
theorem ef_leansActs {K : Nat} {m : Ms} (x : Int32) (h : rl K (Ms.ra m)) : rl (K + 2) (Ms.ra (m_X12_leansActs m x).2) := by
  unfold m_X12_leansActs bindv
  dsimp only
  by_cases c1 : m_X12_isUnder (Ms.ki m) (nI 1) = 0
  · rw [if_pos c1]
    by_cases c2 : Ms.ki m = nI 5
    · rw [if_pos c2]; dsimp only; exact (ef_plainLeans x (ef_ranBody (nI 51) h)).mono (by omega)
    · rw [if_neg c2]; dsimp only; exact (ef_plainLeans x h).mono (by omega)
  · rw [if_neg c1]; dsimp only; exact (ef_plainLeans (x * nI 3) (ef_ranBody (nI 11) h)).mono (by omega)
set_option maxHeartbeats 100000 in
theorem ef_leansActs_r {K : Nat} {m : Ms} {x : Int32} {r : Int32 × Ms} (e : m_X12_leansActs m x = r) (h : rl K (Ms.ra m)) : rl (K + 2) (Ms.ra r.2) := by
  rw [← e]
  exact ef_leansActs x h
def m_X12_plainSays (m : Ms) (x : Int32) : Int32 × Ms := bindv (m_X12_ranBody m (nI 2)) (fun r1 => bindv (m_X12_leansActs r1 x) (fun r2 => ((r2.1 - Ms.tv r2.2), r2.2)))
set_option maxRecDepth 100000 in
set_option maxHeartbeats 4000000 in
theorem c_X12_plainSays (l : Launch) {fv : Value} (hf : FV fv) (m : Ms) (x : Int32) {K : Nat} (hr : rl K (Ms.ra m)) (hK : K ≤ 997) : CT l fv 4 jX12_plainSays [.ref 0, .int x] (hMs m) (DP (some (.int (m_X12_plainSays m x).1)) (hMs ((m_X12_plainSays m x).2))) := by
  refine CT_of [] mt_X12_plainSays (by decide +kernel) (tab_X12 hf) okX12_plainSays (Nat.le_of_ble_eq_true rfl) ?_
  intro J hJ hD
  refine hJ 0 _ _ _ ?_
  obtain ⟨r1, er1⟩ : ∃ z : Ms, m_X12_ranBody m (nI 2) = z := ⟨_, rfl⟩
  have hr1 := c_X12_ranBody l hf m (nI 2) hr (by omega)
  rw [er1] at hr1
  have h1 := ef_ranBody_r er1 hr
  refine CALL_same (r := none) (h1 := hMs r1) (by decide) (hr1) ?_
  obtain ⟨r2, er2⟩ : ∃ z : Int32 × Ms, m_X12_leansActs r1 x = z := ⟨_, rfl⟩
  have hr2 := c_X12_leansActs l hf r1 x h1 (by omega)
  rw [er2] at hr2
  refine CALL_same (r := some (.int r2.1)) (h1 := hMs r2.2) (by decide) (hr2) ?_
  exact And.intro True.intro (DPis (F := (fun z => hMs z)) (s' := r2.2) ((bindv_eq er1).trans (bindv_eq er2)))
set_option maxHeartbeats 100000 in
theorem ef_plainSays {K : Nat} {m : Ms} (x : Int32) (h : rl K (Ms.ra m)) : rl (K + 3) (Ms.ra (m_X12_plainSays m x).2) := by
  unfold m_X12_plainSays bindv
  dsimp only
  exact (ef_leansActs x (ef_ranBody (nI 2) h)).mono (by omega)
set_option maxHeartbeats 100000 in
theorem ef_plainSays_r {K : Nat} {m : Ms} {x : Int32} {r : Int32 × Ms} (e : m_X12_plainSays m x = r) (h : rl K (Ms.ra m)) : rl (K + 3) (Ms.ra r.2) := by
  rw [← e]
  exact ef_plainSays x h
def m_X12_saysActs (m : Ms) (x : Int32) : Int32 × Ms := if (m_X12_isUnder (Ms.ki m) (nI 2)) = 0 then (if Ms.ki m = nI 6 then (bindv (m_X12_ranBody m (nI 61)) (fun r4 => bindv (m_X12_plainSays r4 x) (fun r5 => ((r5.1 + Ms.tv r5.2), r5.2)))) else (bindv (m_X12_plainSays m x) (fun r3 => (r3.1, r3.2)))) else (bindv (m_X12_ranBody m (nI 21)) (fun r6 => bindv (m_X12_plainSays r6 x) (fun r7 => ((-r7.1), r7.2))))
set_option maxRecDepth 100000 in
set_option maxHeartbeats 4000000 in
theorem c_X12_saysActs (l : Launch) {fv : Value} (hf : FV fv) (m : Ms) (x : Int32) {K : Nat} (hr : rl K (Ms.ra m)) (hK : K ≤ 996) : CT l fv 5 jX12_saysActs [.ref 0, .int x] (hMs m) (DP (some (.int (m_X12_saysActs m x).1)) (hMs ((m_X12_saysActs m x).2))) := by
  refine CT_of [] mt_X12_saysActs (by decide +kernel) (tab_X12 hf) okX12_saysActs (Nat.le_of_ble_eq_true rfl) ?_
  intro J hJ hD
  refine hJ 0 _ _ _ ?_
  refine CALL_sub (h' := hMs m) [] (by decide) (c_X12_isUnder l hf (Ms.ki m) (nI 2)) rfl rfl (by decide) (by decide) rfl ?_
  refine And.intro (fun c1 => ?_) (fun c1 => ?_)
  · skip
    refine hJ 24 _ _ _ ?_
    refine And.intro (fun c2 => ?_) (fun c2 => ?_)
    · skip
      refine hJ 50 _ _ _ ?_
      obtain ⟨r3, er3⟩ : ∃ z : Int32 × Ms, m_X12_plainSays m x = z := ⟨_, rfl⟩
      have hr3 := c_X12_plainSays l hf m x hr (by omega)
      rw [er3] at hr3
      refine CALL_same (r := some (.int r3.1)) (h1 := hMs r3.2) (by decide) (hr3) ?_
      exact And.intro True.intro (DPis (F := (fun z => hMs z)) (s' := r3.2) ((if_pos c1).trans ((if_neg c2).trans (bindv_eq er3))))
    · skip
      obtain ⟨r4, er4⟩ : ∃ z : Ms, m_X12_ranBody m (nI 61) = z := ⟨_, rfl⟩
      have hr4 := c_X12_ranBody l hf m (nI 61) hr (by omega)
      rw [er4] at hr4
      have h1 := ef_ranBody_r er4 hr
      refine CALL_same (r := none) (h1 := hMs r4) (by decide) (hr4) ?_
      obtain ⟨r5, er5⟩ : ∃ z : Int32 × Ms, m_X12_plainSays r4 x = z := ⟨_, rfl⟩
      have hr5 := c_X12_plainSays l hf r4 x h1 (by omega)
      rw [er5] at hr5
      refine CALL_same (r := some (.int r5.1)) (h1 := hMs r5.2) (by decide) (hr5) ?_
      exact And.intro True.intro (DPis (F := (fun z => hMs z)) (s' := r5.2) ((if_pos c1).trans ((if_pos c2).trans ((bindv_eq er4).trans (bindv_eq er5)))))
  · skip
    obtain ⟨r6, er6⟩ : ∃ z : Ms, m_X12_ranBody m (nI 21) = z := ⟨_, rfl⟩
    have hr6 := c_X12_ranBody l hf m (nI 21) hr (by omega)
    rw [er6] at hr6
    have h1 := ef_ranBody_r er6 hr
    refine CALL_same (r := none) (h1 := hMs r6) (by decide) (hr6) ?_
    obtain ⟨r7, er7⟩ : ∃ z : Int32 × Ms, m_X12_plainSays r6 x = z := ⟨_, rfl⟩
    have hr7 := c_X12_plainSays l hf r6 x h1 (by omega)
    rw [er7] at hr7
    refine CALL_same (r := some (.int r7.1)) (h1 := hMs r7.2) (by decide) (hr7) ?_
    exact And.intro True.intro (DPis (F := (fun z => hMs z)) (s' := r7.2) ((if_neg c1).trans ((bindv_eq er6).trans (bindv_eq er7))))
set_option maxHeartbeats 100000 in
theorem ef_saysActs {K : Nat} {m : Ms} (x : Int32) (h : rl K (Ms.ra m)) : rl (K + 4) (Ms.ra (m_X12_saysActs m x).2) := by
  unfold m_X12_saysActs bindv
  dsimp only
  by_cases c1 : m_X12_isUnder (Ms.ki m) (nI 2) = 0
  · rw [if_pos c1]
    by_cases c2 : Ms.ki m = nI 6
    · rw [if_pos c2]; dsimp only; exact (ef_plainSays x (ef_ranBody (nI 61) h)).mono (by omega)
    · rw [if_neg c2]; dsimp only; exact (ef_plainSays x h).mono (by omega)
  · rw [if_neg c1]; dsimp only; exact (ef_plainSays x (ef_ranBody (nI 21) h)).mono (by omega)
set_option maxHeartbeats 100000 in
theorem ef_saysActs_r {K : Nat} {m : Ms} {x : Int32} {r : Int32 × Ms} (e : m_X12_saysActs m x = r) (h : rl K (Ms.ra m)) : rl (K + 4) (Ms.ra r.2) := by
  rw [← e]
  exact ef_saysActs x h
def m_X12_plainTelling (m : Ms) (x : Int32) : Int32 × Ms := bindv (m_X12_ranBody m (nI 3)) (fun r1 => bindv (m_X12_saysActs r1 x) (fun r2 => ((r2.1 * nI 2), r2.2)))
set_option maxRecDepth 100000 in
set_option maxHeartbeats 4000000 in
theorem c_X12_plainTelling (l : Launch) {fv : Value} (hf : FV fv) (m : Ms) (x : Int32) {K : Nat} (hr : rl K (Ms.ra m)) (hK : K ≤ 995) : CT l fv 6 jX12_plainTelling [.ref 0, .int x] (hMs m) (DP (some (.int (m_X12_plainTelling m x).1)) (hMs ((m_X12_plainTelling m x).2))) := by
  refine CT_of [] mt_X12_plainTelling (by decide +kernel) (tab_X12 hf) okX12_plainTelling (Nat.le_of_ble_eq_true rfl) ?_
  intro J hJ hD
  refine hJ 0 _ _ _ ?_
  obtain ⟨r1, er1⟩ : ∃ z : Ms, m_X12_ranBody m (nI 3) = z := ⟨_, rfl⟩
  have hr1 := c_X12_ranBody l hf m (nI 3) hr (by omega)
  rw [er1] at hr1
  have h1 := ef_ranBody_r er1 hr
  refine CALL_same (r := none) (h1 := hMs r1) (by decide) (hr1) ?_
  obtain ⟨r2, er2⟩ : ∃ z : Int32 × Ms, m_X12_saysActs r1 x = z := ⟨_, rfl⟩
  have hr2 := c_X12_saysActs l hf r1 x h1 (by omega)
  rw [er2] at hr2
  refine CALL_same (r := some (.int r2.1)) (h1 := hMs r2.2) (by decide) (hr2) ?_
  exact And.intro True.intro (DPis (F := (fun z => hMs z)) (s' := r2.2) ((bindv_eq er1).trans (bindv_eq er2)))
set_option maxHeartbeats 100000 in
theorem ef_plainTelling {K : Nat} {m : Ms} (x : Int32) (h : rl K (Ms.ra m)) : rl (K + 5) (Ms.ra (m_X12_plainTelling m x).2) := by
  unfold m_X12_plainTelling bindv
  dsimp only
  exact (ef_saysActs x (ef_ranBody (nI 3) h)).mono (by omega)
set_option maxHeartbeats 100000 in
theorem ef_plainTelling_r {K : Nat} {m : Ms} {x : Int32} {r : Int32 × Ms} (e : m_X12_plainTelling m x = r) (h : rl K (Ms.ra m)) : rl (K + 5) (Ms.ra r.2) := by
  rw [← e]
  exact ef_plainTelling x h
def m_X12_bristlesActs (m : Ms) (x : Int32) : Int32 × Ms := if (m_X12_isUnder (Ms.ki m) (nI 3)) = 0 then (if Ms.ki m = nI 4 then (bindv (m_X12_ranBody m (nI 41)) (fun r4 => bindv (m_X12_plainTelling r4 (x - nI 1)) (fun r5 => bindv (m_X12_leansActs r5.2 (nI 2)) (fun r6 => ((r5.1 + r6.1), r6.2))))) else (bindv (m_X12_plainTelling m x) (fun r3 => (r3.1, r3.2)))) else (bindv (m_X12_ranBody m (nI 31)) (fun r7 => bindv (m_X12_plainTelling r7 x) (fun r8 => ((r8.1 ^^^ nI 7), r8.2))))
set_option maxRecDepth 100000 in
set_option maxHeartbeats 4000000 in
theorem c_X12_bristlesActs (l : Launch) {fv : Value} (hf : FV fv) (m : Ms) (x : Int32) {K : Nat} (hr : rl K (Ms.ra m)) (hK : K ≤ 992) : CT l fv 7 jX12_bristlesActs [.ref 0, .int x] (hMs m) (DP (some (.int (m_X12_bristlesActs m x).1)) (hMs ((m_X12_bristlesActs m x).2))) := by
  refine CT_of [] mt_X12_bristlesActs (by decide +kernel) (tab_X12 hf) okX12_bristlesActs (Nat.le_of_ble_eq_true rfl) ?_
  intro J hJ hD
  refine hJ 0 _ _ _ ?_
  refine CALL_sub (h' := hMs m) [] (by decide) (c_X12_isUnder l hf (Ms.ki m) (nI 3)) rfl rfl (by decide) (by decide) rfl ?_
  refine And.intro (fun c1 => ?_) (fun c1 => ?_)
  · skip
    refine hJ 26 _ _ _ ?_
    refine And.intro (fun c2 => ?_) (fun c2 => ?_)
    · skip
      refine hJ 56 _ _ _ ?_
      obtain ⟨r3, er3⟩ : ∃ z : Int32 × Ms, m_X12_plainTelling m x = z := ⟨_, rfl⟩
      have hr3 := c_X12_plainTelling l hf m x hr (by omega)
      rw [er3] at hr3
      refine CALL_same (r := some (.int r3.1)) (h1 := hMs r3.2) (by decide) (hr3) ?_
      exact And.intro True.intro (DPis (F := (fun z => hMs z)) (s' := r3.2) ((if_pos c1).trans ((if_neg c2).trans (bindv_eq er3))))
    · skip
      obtain ⟨r4, er4⟩ : ∃ z : Ms, m_X12_ranBody m (nI 41) = z := ⟨_, rfl⟩
      have hr4 := c_X12_ranBody l hf m (nI 41) hr (by omega)
      rw [er4] at hr4
      have h1 := ef_ranBody_r er4 hr
      refine CALL_same (r := none) (h1 := hMs r4) (by decide) (hr4) ?_
      obtain ⟨r5, er5⟩ : ∃ z : Int32 × Ms, m_X12_plainTelling r4 (x - nI 1) = z := ⟨_, rfl⟩
      have hr5 := c_X12_plainTelling l hf r4 (x - nI 1) h1 (by omega)
      rw [er5] at hr5
      have h2 := ef_plainTelling_r er5 h1
      refine CALL_same (r := some (.int r5.1)) (h1 := hMs r5.2) (by decide) (hr5) ?_
      obtain ⟨r6, er6⟩ : ∃ z : Int32 × Ms, m_X12_leansActs r5.2 (nI 2) = z := ⟨_, rfl⟩
      have hr6 := c_X12_leansActs l hf r5.2 (nI 2) h2 (by omega)
      rw [er6] at hr6
      refine CALL_same (r := some (.int r6.1)) (h1 := hMs r6.2) (by decide) (hr6) ?_
      exact And.intro True.intro (DPis (F := (fun z => hMs z)) (s' := r6.2) ((if_pos c1).trans ((if_pos c2).trans ((bindv_eq er4).trans ((bindv_eq er5).trans (bindv_eq er6))))))
  · skip
    obtain ⟨r7, er7⟩ : ∃ z : Ms, m_X12_ranBody m (nI 31) = z := ⟨_, rfl⟩
    have hr7 := c_X12_ranBody l hf m (nI 31) hr (by omega)
    rw [er7] at hr7
    have h1 := ef_ranBody_r er7 hr
    refine CALL_same (r := none) (h1 := hMs r7) (by decide) (hr7) ?_
    obtain ⟨r8, er8⟩ : ∃ z : Int32 × Ms, m_X12_plainTelling r7 x = z := ⟨_, rfl⟩
    have hr8 := c_X12_plainTelling l hf r7 x h1 (by omega)
    rw [er8] at hr8
    refine CALL_same (r := some (.int r8.1)) (h1 := hMs r8.2) (by decide) (hr8) ?_
    exact And.intro True.intro (DPis (F := (fun z => hMs z)) (s' := r8.2) ((if_neg c1).trans ((bindv_eq er7).trans (bindv_eq er8))))
set_option maxHeartbeats 100000 in
theorem ef_bristlesActs {K : Nat} {m : Ms} (x : Int32) (h : rl K (Ms.ra m)) : rl (K + 8) (Ms.ra (m_X12_bristlesActs m x).2) := by
  unfold m_X12_bristlesActs bindv
  dsimp only
  by_cases c1 : m_X12_isUnder (Ms.ki m) (nI 3) = 0
  · rw [if_pos c1]
    by_cases c2 : Ms.ki m = nI 4
    · rw [if_pos c2]; dsimp only; exact (ef_leansActs (nI 2) (ef_plainTelling (x - nI 1) (ef_ranBody (nI 41) h))).mono (by omega)
    · rw [if_neg c2]; dsimp only; exact (ef_plainTelling x h).mono (by omega)
  · rw [if_neg c1]; dsimp only; exact (ef_plainTelling x (ef_ranBody (nI 31) h)).mono (by omega)
def m_X12_act (m : Ms) (u : Int32) (a : Int32) (x : Int32) : Int32 × Ms := if (m_X12_isUrchin (Ms.s m) u) = 0 then (nI 0, (Ms.th m, Ms.s m, Ms.im m, Ms.fr m, Ms.hi m, Ms.ac m, Ms.sp m, Ms.en m, Ms.wr m, Ms.op m, Ms.bb m, Ms.tr m, Ms.su m, Ms.lf m, Ms.lk m, Ms.nx m, Ms.bo m, nI 0, Ms.ki m, Ms.nu m, Ms.tv m)) else (if (m_X12_in a (nI 0) (nI 2)) = 0 then (nI 0, (Ms.th m, Ms.s m, Ms.im m, Ms.fr m, Ms.hi m, Ms.ac m, Ms.sp m, Ms.en m, Ms.wr m, Ms.op m, Ms.bb m, Ms.tr m, Ms.su m, Ms.lf m, Ms.lk m, Ms.nx m, Ms.bo m, nI 0, Ms.ki m, Ms.nu m, Ms.tv m)) else (if a = 0 then (bindv (m_X12_leansActs (Ms.th m, Ms.s m, Ms.im m, Ms.fr m, Ms.hi m, Ms.ac m, Ms.sp m, Ms.en m, Ms.wr m, Ms.op m, Ms.bb m, Ms.tr m, Ms.su m, Ms.lf m, Ms.lk m, Ms.nx m, Ms.bo m, nI 0, (Ms.s m (nI 24 + u).toNatClampNeg), u, (Ms.s m (nI 30 + u).toNatClampNeg)) x) (fun r7 => (r7.1, r7.2))) else (if a = nI 1 then (bindv (m_X12_saysActs (Ms.th m, Ms.s m, Ms.im m, Ms.fr m, Ms.hi m, Ms.ac m, Ms.sp m, Ms.en m, Ms.wr m, Ms.op m, Ms.bb m, Ms.tr m, Ms.su m, Ms.lf m, Ms.lk m, Ms.nx m, Ms.bo m, nI 0, (Ms.s m (nI 24 + u).toNatClampNeg), u, (Ms.s m (nI 30 + u).toNatClampNeg)) x) (fun r6 => (r6.1, r6.2))) else (bindv (m_X12_bristlesActs (Ms.th m, Ms.s m, Ms.im m, Ms.fr m, Ms.hi m, Ms.ac m, Ms.sp m, Ms.en m, Ms.wr m, Ms.op m, Ms.bb m, Ms.tr m, Ms.su m, Ms.lf m, Ms.lk m, Ms.nx m, Ms.bo m, nI 0, (Ms.s m (nI 24 + u).toNatClampNeg), u, (Ms.s m (nI 30 + u).toNatClampNeg)) x) (fun r5 => (r5.1, r5.2))))))
set_option maxRecDepth 100000 in
set_option maxHeartbeats 4000000 in
theorem c_X12_act (l : Launch) {fv : Value} (hf : FV fv) (m : Ms) (u : Int32) (a : Int32) (x : Int32) (hu : hU m) : CT l fv 11 jX12_act [.ref 0, .int u, .int a, .int x] (hMs m) (DP (some (.int (m_X12_act m u a x).1)) (hMs ((m_X12_act m u a x).2))) := by
  refine CT_of [] mt_X12_act (by decide +kernel) (tab_X12 hf) okX12_act (Nat.le_of_ble_eq_true rfl) ?_
  intro J hJ hD
  refine hJ 0 _ _ _ ?_
  refine And.intro True.intro ?_
  refine CALL_same (r := some (.int (m_X12_isUrchin (Ms.s m) u))) (h1 := wMs (Ms.th m) (Ms.s m) (Ms.im m) (Ms.fr m) (Ms.hi m) (Ms.ac m) (Ms.sp m) (Ms.en m) (Ms.wr m) (Ms.op m) (Ms.bb m) (Ms.tr m) (Ms.su m) (Ms.lf m) (Ms.lk m) (Ms.nx m) (Ms.bo m) (nI 0) (Ms.ki m) (Ms.nu m) (Ms.tv m)) (by decide) (c_X12_isUrchin l hf (Ms.th m, Ms.s m, Ms.im m, Ms.fr m, Ms.hi m, Ms.ac m, Ms.sp m, Ms.en m, Ms.wr m, Ms.op m, Ms.bb m, Ms.tr m, Ms.su m, Ms.lf m, Ms.lk m, Ms.nx m, Ms.bo m, nI 0, Ms.ki m, Ms.nu m, Ms.tv m) u) ?_
  refine And.intro (fun c1 => ?_) (fun c1 => ?_)
  · skip
    refine hJ 22 _ _ _ ?_
    exact And.intro True.intro (DPis (F := (fun z => hMs z)) (s' := (Ms.th m, Ms.s m, Ms.im m, Ms.fr m, Ms.hi m, Ms.ac m, Ms.sp m, Ms.en m, Ms.wr m, Ms.op m, Ms.bb m, Ms.tr m, Ms.su m, Ms.lf m, Ms.lk m, Ms.nx m, Ms.bo m, nI 0, Ms.ki m, Ms.nu m, Ms.tv m)) (if_pos c1))
  · skip
    have hp := ur_of hu c1
    refine CALL_sub (h' := wMs (Ms.th m) (Ms.s m) (Ms.im m) (Ms.fr m) (Ms.hi m) (Ms.ac m) (Ms.sp m) (Ms.en m) (Ms.wr m) (Ms.op m) (Ms.bb m) (Ms.tr m) (Ms.su m) (Ms.lf m) (Ms.lk m) (Ms.nx m) (Ms.bo m) (nI 0) (Ms.ki m) (Ms.nu m) (Ms.tv m)) [] (by decide) (c_X12_in l hf a (nI 0) (nI 2)) rfl rfl (by decide) (by decide) rfl ?_
    refine And.intro (fun c2 => ?_) (fun c2 => ?_)
    · skip
      refine hJ 24 _ _ _ ?_
      refine And.intro (vp_ad 24 hp (by decide) (by decide)) ?_
      refine And.intro True.intro ?_
      refine And.intro True.intro ?_
      refine And.intro (vp_ad 30 hp (by decide) (by decide)) ?_
      refine And.intro True.intro ?_
      refine And.intro (fun c3 => ?_) (fun c3 => ?_)
      · skip
        refine hJ 67 _ _ _ ?_
        refine And.intro (fun c4 => ?_) (fun c4 => ?_)
        · skip
          refine hJ 80 _ _ _ ?_
          obtain ⟨r5, er5⟩ : ∃ z : Int32 × Ms, m_X12_bristlesActs (Ms.th m, Ms.s m, Ms.im m, Ms.fr m, Ms.hi m, Ms.ac m, Ms.sp m, Ms.en m, Ms.wr m, Ms.op m, Ms.bb m, Ms.tr m, Ms.su m, Ms.lf m, Ms.lk m, Ms.nx m, Ms.bo m, nI 0, (Ms.s m (nI 24 + u).toNatClampNeg), u, (Ms.s m (nI 30 + u).toNatClampNeg)) x = z := ⟨_, rfl⟩
          have hr5 := c_X12_bristlesActs l hf (Ms.th m, Ms.s m, Ms.im m, Ms.fr m, Ms.hi m, Ms.ac m, Ms.sp m, Ms.en m, Ms.wr m, Ms.op m, Ms.bb m, Ms.tr m, Ms.su m, Ms.lf m, Ms.lk m, Ms.nx m, Ms.bo m, nI 0, (Ms.s m (nI 24 + u).toNatClampNeg), u, (Ms.s m (nI 30 + u).toNatClampNeg)) x (K := 0) (by exact ⟨0, by omega, rfl⟩) (by decide)
          rw [er5] at hr5
          refine CALL_same (r := some (.int r5.1)) (h1 := hMs r5.2) (by decide) (hr5) ?_
          exact And.intro True.intro (DPis (F := (fun z => hMs z)) (s' := r5.2) ((if_neg c1).trans ((if_neg c2).trans ((if_neg c3).trans ((if_neg c4).trans (bindv_eq er5))))))
        · skip
          obtain ⟨r6, er6⟩ : ∃ z : Int32 × Ms, m_X12_saysActs (Ms.th m, Ms.s m, Ms.im m, Ms.fr m, Ms.hi m, Ms.ac m, Ms.sp m, Ms.en m, Ms.wr m, Ms.op m, Ms.bb m, Ms.tr m, Ms.su m, Ms.lf m, Ms.lk m, Ms.nx m, Ms.bo m, nI 0, (Ms.s m (nI 24 + u).toNatClampNeg), u, (Ms.s m (nI 30 + u).toNatClampNeg)) x = z := ⟨_, rfl⟩
          have hr6 := c_X12_saysActs l hf (Ms.th m, Ms.s m, Ms.im m, Ms.fr m, Ms.hi m, Ms.ac m, Ms.sp m, Ms.en m, Ms.wr m, Ms.op m, Ms.bb m, Ms.tr m, Ms.su m, Ms.lf m, Ms.lk m, Ms.nx m, Ms.bo m, nI 0, (Ms.s m (nI 24 + u).toNatClampNeg), u, (Ms.s m (nI 30 + u).toNatClampNeg)) x (K := 0) (by exact ⟨0, by omega, rfl⟩) (by decide)
          rw [er6] at hr6
          refine CALL_same (r := some (.int r6.1)) (h1 := hMs r6.2) (by decide) (hr6) ?_
          refine hJ 85 _ _ _ ?_
          exact And.intro True.intro (DPis (F := (fun z => hMs z)) (s' := r6.2) ((if_neg c1).trans ((if_neg c2).trans ((if_neg c3).trans ((if_pos c4).trans (bindv_eq er6))))))
      · skip
        obtain ⟨r7, er7⟩ : ∃ z : Int32 × Ms, m_X12_leansActs (Ms.th m, Ms.s m, Ms.im m, Ms.fr m, Ms.hi m, Ms.ac m, Ms.sp m, Ms.en m, Ms.wr m, Ms.op m, Ms.bb m, Ms.tr m, Ms.su m, Ms.lf m, Ms.lk m, Ms.nx m, Ms.bo m, nI 0, (Ms.s m (nI 24 + u).toNatClampNeg), u, (Ms.s m (nI 30 + u).toNatClampNeg)) x = z := ⟨_, rfl⟩
        have hr7 := c_X12_leansActs l hf (Ms.th m, Ms.s m, Ms.im m, Ms.fr m, Ms.hi m, Ms.ac m, Ms.sp m, Ms.en m, Ms.wr m, Ms.op m, Ms.bb m, Ms.tr m, Ms.su m, Ms.lf m, Ms.lk m, Ms.nx m, Ms.bo m, nI 0, (Ms.s m (nI 24 + u).toNatClampNeg), u, (Ms.s m (nI 30 + u).toNatClampNeg)) x (K := 0) (by exact ⟨0, by omega, rfl⟩) (by decide)
        rw [er7] at hr7
        refine CALL_same (r := some (.int r7.1)) (h1 := hMs r7.2) (by decide) (hr7) ?_
        refine hJ 85 _ _ _ ?_
        exact And.intro True.intro (DPis (F := (fun z => hMs z)) (s' := r7.2) ((if_neg c1).trans ((if_neg c2).trans ((if_pos c3).trans (bindv_eq er7)))))
    · skip
      exact And.intro True.intro (DPis (F := (fun z => hMs z)) (s' := (Ms.th m, Ms.s m, Ms.im m, Ms.fr m, Ms.hi m, Ms.ac m, Ms.sp m, Ms.en m, Ms.wr m, Ms.op m, Ms.bb m, Ms.tr m, Ms.su m, Ms.lf m, Ms.lk m, Ms.nx m, Ms.bo m, nI 0, Ms.ki m, Ms.nu m, Ms.tv m)) ((if_neg c1).trans (if_pos c2)))
theorem tr_of {K : Nat} {i x : Int32} (hr : rl K x) (hK : K ≤ 1000) {y : Int32} (e : (if nI 20 ≤ x then nI 20 else x) = y) (h : ¬ m_X12_in i (nI 0) (y - nI 1) = 0) : vp_in i 20 := by
  have hy : ∃ k, k ≤ 20 ∧ y = nI k := by
    rw [← e]
    split
    · exact ⟨20, by omega, rfl⟩
    · rename_i c
      obtain ⟨k, hk, rfl⟩ := hr
      rw [nI_leI (by omega) (by omega)] at c
      exact ⟨k, by omega, rfl⟩
  obtain ⟨k, hk, rfl⟩ := hy
  by_cases z : k = 0
  · subst z
    exfalso
    apply h
    unfold m_X12_in
    by_cases c : i < nI 0
    · rw [if_pos c]; rfl
    · rw [if_neg c, if_pos]; · rfl
      have : (nI 0 - nI 1 : Int32) < nI 0 := by decide
      exact Int32.lt_of_lt_of_le this (Int32.not_lt.mp c)
  · rw [pk_sub (by omega)] at h
    obtain ⟨q, hq, rfl⟩ := in_of h (by omega)
    exact vp_in_nI (by omega) (by decide)
def m_X12_trace (zbo : Fn) (zra : Int32) (i : Int32) : Int32 := bindv (if nI 20 ≤ zra then (nI 20) else (zra)) (fun x1_0 => if (m_X12_in i (nI 0) (x1_0 - nI 1)) = 0 then (-nI 1) else (zbo i.toNatClampNeg))
set_option maxRecDepth 100000 in
set_option maxHeartbeats 4000000 in
theorem c_X12_trace (l : Launch) {fv : Value} (hf : FV fv) (m : Ms) (i : Int32) {K : Nat} (hr : rl K (Ms.ra m)) (hK : K ≤ 1000) : CT l fv 2 jX12_trace [.ref 0, .int i] (hMs m) (DP (some (.int (m_X12_trace (Ms.bo m) (Ms.ra m) i))) (hMs m)) := by
  refine CT_of [20] mt_X12_trace (by decide +kernel) (tab_X12 hf) okX12_trace (Nat.le_of_ble_eq_true rfl) ?_
  intro J hJ hD
  refine hJ 0 _ _ _ ?_
  have K1 : ∀ (x1_0 : Int32), (if nI 20 ≤ Ms.ra m then (nI 20) else (Ms.ra m)) = x1_0 → J 20 [(0, .ref 0), (1, .int i)] [.int x1_0, .int (nI 0), .int i] (hMs m) := by
    intro x1_0 ex1_0
    have hx := fun h => tr_of (i := i) hr hK ex1_0 h
    refine hJ 20 _ _ _ ?_
    refine CALL_sub (h' := hMs m) [] (by decide) (c_X12_in l hf i (nI 0) (x1_0 - nI 1)) rfl rfl (by decide) (by decide) rfl ?_
    refine And.intro (fun c2 => ?_) (fun c2 => ?_)
    · skip
      refine hJ 37 _ _ _ ?_
      exact And.intro True.intro (DPi ((bindv_eq ex1_0).trans (if_pos c2)))
    · skip
      have hv := hx c2
      refine And.intro (hv) ?_
      refine hJ 38 _ _ _ ?_
      exact And.intro True.intro (DPi ((bindv_eq ex1_0).trans (if_neg c2)))
  refine And.intro (fun c3 => ?_) (fun c3 => ?_)
  · skip
    refine hJ 18 _ _ _ ?_
    exact hD _ _ [0, 1] _ _ (K1 _ (if_pos c3))
  · skip
    exact hD _ _ [0, 1] _ _ (K1 _ (if_neg c3))
def m_X12_as (zs : Fn) (u : Int32) (k : Int32) : Int32 := if (m_X12_isUrchin (zs) u) = 0 then (-nI 1) else (if (m_X12_in k (nI 0) (nI 6)) = 0 then (-nI 1) else (if (m_X12_isUnder (zs (nI 24 + u).toNatClampNeg) k) = 0 then (-nI 6) else (zs (nI 30 + u).toNatClampNeg)))
set_option maxRecDepth 100000 in
set_option maxHeartbeats 4000000 in
theorem c_X12_as (l : Launch) {fv : Value} (hf : FV fv) (m : Ms) (u : Int32) (k : Int32) (hu : hU m) : CT l fv 3 jX12_as [.ref 0, .int u, .int k] (hMs m) (DP (some (.int (m_X12_as (Ms.s m) u k))) (hMs m)) := by
  refine CT_of [] mt_X12_as (by decide +kernel) (tab_X12 hf) okX12_as (Nat.le_of_ble_eq_true rfl) ?_
  intro J hJ hD
  refine hJ 0 _ _ _ ?_
  refine CALL_same (r := some (.int (m_X12_isUrchin (Ms.s m) u))) (h1 := hMs m) (by decide) (c_X12_isUrchin l hf m u) ?_
  refine And.intro (fun c1 => ?_) (fun c1 => ?_)
  · skip
    refine hJ 18 _ _ _ ?_
    exact And.intro True.intro (DPi (if_pos c1))
  · skip
    have hp := ur_of hu c1
    refine CALL_sub (h' := hMs m) [] (by decide) (c_X12_in l hf k (nI 0) (nI 6)) rfl rfl (by decide) (by decide) rfl ?_
    refine And.intro (fun c2 => ?_) (fun c2 => ?_)
    · skip
      refine hJ 20 _ _ _ ?_
      refine And.intro (vp_ad 24 hp (by decide) (by decide)) ?_
      refine CALL_sub (h' := hMs m) [] (by decide) (c_X12_isUnder l hf (Ms.s m (nI 24 + u).toNatClampNeg) k) rfl rfl (by decide) (by decide) rfl ?_
      refine And.intro (fun c3 => ?_) (fun c3 => ?_)
      · skip
        refine hJ 48 _ _ _ ?_
        exact And.intro True.intro (DPi ((if_neg c1).trans ((if_neg c2).trans (if_pos c3))))
      · skip
        refine And.intro (vp_ad 30 hp (by decide) (by decide)) ?_
        refine hJ 50 _ _ _ ?_
        exact And.intro True.intro (DPi ((if_neg c1).trans ((if_neg c2).trans (if_neg c3))))
    · skip
      exact And.intro True.intro (DPi ((if_neg c1).trans (if_pos c2)))
def l_X12_image_2 (m : Ms) : Nat → Int32 → Fn → Int32 × Ms
  | 0, _, _ => (0, m)
  | n2 + 1, i, im1 => if nI 927 ≤ i then ((Ms.s m (nI 17).toNatClampNeg), (Ms.th m, Ms.s m, im1, Ms.fr m, nI 1, Ms.ac m, Ms.sp m, Ms.en m, Ms.wr m, Ms.op m, Ms.bb m, Ms.tr m, Ms.su m, Ms.lf m, Ms.lk m, Ms.nx m, Ms.bo m, Ms.ra m, Ms.ki m, Ms.nu m, Ms.tv m)) else l_X12_image_2 m n2 (i + nI 1) (upd im1 i.toNatClampNeg (Ms.s m i.toNatClampNeg))
theorem q_X12_image_2 (m : Ms) (n2 : Nat) (i : Int32) (im1 : Fn) : l_X12_image_2 m (n2 + 1) i im1 = (if nI 927 ≤ i then ((Ms.s m (nI 17).toNatClampNeg), (Ms.th m, Ms.s m, im1, Ms.fr m, nI 1, Ms.ac m, Ms.sp m, Ms.en m, Ms.wr m, Ms.op m, Ms.bb m, Ms.tr m, Ms.su m, Ms.lf m, Ms.lk m, Ms.nx m, Ms.bo m, Ms.ra m, Ms.ki m, Ms.nu m, Ms.tv m)) else l_X12_image_2 m n2 (i + nI 1) (upd im1 i.toNatClampNeg (Ms.s m i.toNatClampNeg))) := rfl
def m_X12_image (m : Ms) : Int32 × Ms := l_X12_image_2 m 928 (nI 0) (Ms.im m)
set_option maxRecDepth 100000 in
set_option maxHeartbeats 4000000 in
theorem c_X12_image (l : Launch) {fv : Value} (hf : FV fv) (m : Ms) : CT l fv 11 jX12_image [.ref 0] (hMs m) (DP (some (.int (m_X12_image m).1)) (hMs ((m_X12_image m).2))) := by
  refine CT_of [2] mt_X12_image (by decide +kernel) (tab_X12 hf) okX12_image (Nat.le_of_ble_eq_true rfl) ?_
  intro J hJ hD
  refine hJ 0 _ _ _ ?_
  have L2 : ∀ (n2 : Nat) (i : Int32) (im1 : Fn), (∃ z9 : Nat, z9 ≤ 927 ∧ n2 + z9 = 928 ∧ i = nI z9) → m_X12_image m = l_X12_image_2 m n2 i im1 → J 2 [(0, .ref 0), (1, .int i)] [] (wMs (Ms.th m) (Ms.s m) im1 (Ms.fr m) (Ms.hi m) (Ms.ac m) (Ms.sp m) (Ms.en m) (Ms.wr m) (Ms.op m) (Ms.bb m) (Ms.tr m) (Ms.su m) (Ms.lf m) (Ms.lk m) (Ms.nx m) (Ms.bo m) (Ms.ra m) (Ms.ki m) (Ms.nu m) (Ms.tv m)) := by
    intro n2
    induction n2 with
    | zero =>
      intro i im1 hv
      obtain ⟨z9, h1, h2, h3⟩ := hv
      omega
    | succ n2 ih2 =>
      intro i im1 hv e2
      obtain ⟨z9, h1, h2, h3⟩ := hv
      refine hJ 2 _ _ _ ?_
      refine And.intro (fun c1 => ?_) (fun c1 => ?_)
      · skip
        refine hJ 27 _ _ _ ?_
        refine And.intro (Or.inr rfl) ?_
        refine And.intro (vp_in_nI (by decide) (by decide)) ?_
        exact And.intro True.intro (DPis (F := (fun z => hMs z)) (s' := (Ms.th m, Ms.s m, im1, Ms.fr m, nI 1, Ms.ac m, Ms.sp m, Ms.en m, Ms.wr m, Ms.op m, Ms.bb m, Ms.tr m, Ms.su m, Ms.lf m, Ms.lk m, Ms.nx m, Ms.bo m, Ms.ra m, Ms.ki m, Ms.nu m, Ms.tv m)) (e2.trans ((q_X12_image_2 m n2 i im1).trans (if_pos c1))))
      · skip
        have h4 : z9 < 927 := cnt_lt h3 h1 (by decide) c1
        refine And.intro (vp_nI h3 h4 (by decide)) ?_
        refine And.intro (vp_nI h3 h4 (by decide)) ?_
        exact hD _ _ [1, 0] _ _ (ih2 _ _ ⟨z9 + 1, by omega, by omega, by rw [h3]; exact nI_add z9 1⟩ (e2.trans ((q_X12_image_2 m n2 i im1).trans (if_neg c1))))
  exact hD _ _ [1, 0] _ _ (L2 928 _ _ ⟨0, by decide, by decide, rfl⟩ (rfl))
def l_X12_undo_12 (m : Ms) : Nat → Int32 → Fn → Int32 × Ms
  | 0, _, _ => (0, m)
  | n12 + 1, i, s1 => if nI 927 ≤ i then ((s1 (nI 17).toNatClampNeg), (Ms.th m, s1, Ms.im m, Ms.fr m, Ms.hi m, Ms.ac m, Ms.sp m, Ms.en m, Ms.wr m, Ms.op m, Ms.bb m, Ms.tr m, Ms.su m, Ms.lf m, Ms.lk m, Ms.nx m, Ms.bo m, Ms.ra m, Ms.ki m, Ms.nu m, Ms.tv m)) else l_X12_undo_12 m n12 (i + nI 1) (upd s1 i.toNatClampNeg (Ms.im m i.toNatClampNeg))
theorem q_X12_undo_12 (m : Ms) (n12 : Nat) (i : Int32) (s1 : Fn) : l_X12_undo_12 m (n12 + 1) i s1 = (if nI 927 ≤ i then ((s1 (nI 17).toNatClampNeg), (Ms.th m, s1, Ms.im m, Ms.fr m, Ms.hi m, Ms.ac m, Ms.sp m, Ms.en m, Ms.wr m, Ms.op m, Ms.bb m, Ms.tr m, Ms.su m, Ms.lf m, Ms.lk m, Ms.nx m, Ms.bo m, Ms.ra m, Ms.ki m, Ms.nu m, Ms.tv m)) else l_X12_undo_12 m n12 (i + nI 1) (upd s1 i.toNatClampNeg (Ms.im m i.toNatClampNeg))) := rfl
def m_X12_undo (m : Ms) : Int32 × Ms := if Ms.hi m = 0 then ((-nI 3), m) else l_X12_undo_12 m 928 (nI 0) (Ms.s m)
set_option maxRecDepth 100000 in
set_option maxHeartbeats 4000000 in
theorem c_X12_undo (l : Launch) {fv : Value} (hf : FV fv) (m : Ms) : CT l fv 11 jX12_undo [.ref 0] (hMs m) (DP (some (.int (m_X12_undo m).1)) (hMs ((m_X12_undo m).2))) := by
  refine CT_of [12] mt_X12_undo (by decide +kernel) (tab_X12 hf) okX12_undo (Nat.le_of_ble_eq_true rfl) ?_
  intro J hJ hD
  refine hJ 0 _ _ _ ?_
  refine And.intro (fun c1 => ?_) (fun c1 => ?_)
  · skip
    refine hJ 10 _ _ _ ?_
    have L12 : ∀ (n12 : Nat) (i : Int32) (s1 : Fn), (∃ z9 : Nat, z9 ≤ 927 ∧ n12 + z9 = 928 ∧ i = nI z9) → m_X12_undo m = l_X12_undo_12 m n12 i s1 → J 12 [(0, .ref 0), (1, .int i)] [] (wMs (Ms.th m) s1 (Ms.im m) (Ms.fr m) (Ms.hi m) (Ms.ac m) (Ms.sp m) (Ms.en m) (Ms.wr m) (Ms.op m) (Ms.bb m) (Ms.tr m) (Ms.su m) (Ms.lf m) (Ms.lk m) (Ms.nx m) (Ms.bo m) (Ms.ra m) (Ms.ki m) (Ms.nu m) (Ms.tv m)) := by
      intro n12
      induction n12 with
      | zero =>
        intro i s1 hv
        obtain ⟨z9, h1, h2, h3⟩ := hv
        omega
      | succ n12 ih12 =>
        intro i s1 hv e12
        obtain ⟨z9, h1, h2, h3⟩ := hv
        refine hJ 12 _ _ _ ?_
        refine And.intro (fun c2 => ?_) (fun c2 => ?_)
        · skip
          refine hJ 37 _ _ _ ?_
          refine And.intro (vp_in_nI (by decide) (by decide)) ?_
          exact And.intro True.intro (DPis (F := (fun z => hMs z)) (s' := (Ms.th m, s1, Ms.im m, Ms.fr m, Ms.hi m, Ms.ac m, Ms.sp m, Ms.en m, Ms.wr m, Ms.op m, Ms.bb m, Ms.tr m, Ms.su m, Ms.lf m, Ms.lk m, Ms.nx m, Ms.bo m, Ms.ra m, Ms.ki m, Ms.nu m, Ms.tv m)) (e12.trans ((q_X12_undo_12 m n12 i s1).trans (if_pos c2))))
        · skip
          have h4 : z9 < 927 := cnt_lt h3 h1 (by decide) c2
          refine And.intro (vp_nI h3 h4 (by decide)) ?_
          refine And.intro (vp_nI h3 h4 (by decide)) ?_
          exact hD _ _ [1, 0] _ _ (ih12 _ _ ⟨z9 + 1, by omega, by omega, by rw [h3]; exact nI_add z9 1⟩ (e12.trans ((q_X12_undo_12 m n12 i s1).trans (if_neg c2))))
    exact hD _ _ [1, 0] _ _ (L12 928 _ _ ⟨0, by decide, by decide, rfl⟩ (if_neg c1))
  · skip
    exact And.intro True.intro (DPis (F := (fun z => hMs z)) (s' := m) (if_pos c1))
def m_X12_count (zs : Fn) (zra : Int32) (w : Int32) : Int32 := if w = nI 6 then zra else (if (m_X12_in w (nI 0) (nI 5)) = 0 then (-nI 1) else (zs (nI 17 + w).toNatClampNeg))
set_option maxRecDepth 100000 in
set_option maxHeartbeats 4000000 in
theorem c_X12_count (l : Launch) {fv : Value} (hf : FV fv) (m : Ms) (w : Int32) : CT l fv 11 jX12_count [.ref 0, .int w] (hMs m) (DP (some (.int (m_X12_count (Ms.s m) (Ms.ra m) w))) (hMs m)) := by
  refine CT_of [] mt_X12_count (by decide +kernel) (tab_X12 hf) okX12_count (Nat.le_of_ble_eq_true rfl) ?_
  intro J hJ hD
  refine hJ 0 _ _ _ ?_
  refine And.intro (fun c1 => ?_) (fun c1 => ?_)
  · skip
    refine hJ 13 _ _ _ ?_
    refine CALL_sub (h' := hMs m) [] (by decide) (c_X12_in l hf w (nI 0) (nI 5)) rfl rfl (by decide) (by decide) rfl ?_
    refine And.intro (fun c2 => ?_) (fun c2 => ?_)
    · skip
      refine hJ 34 _ _ _ ?_
      exact And.intro True.intro (DPi ((if_neg c1).trans (if_pos c2)))
    · skip
      have hk := in_vp c2 (by decide)
      refine And.intro (vp_ad 17 hk (by decide) (by decide)) ?_
      refine hJ 35 _ _ _ ?_
      exact And.intro True.intro (DPi ((if_neg c1).trans (if_neg c2)))
  · skip
    refine hJ 35 _ _ _ ?_
    exact And.intro True.intro (DPi (if_pos c1))

/-! printed by wip/whole/gen/specs37.py: how the model reads a ledge -/
/-- the reader stands on the tape: j steps less than signs read, q signs read at least -/
def Pg (j q : Nat) (m : Ms) : Prop := ∃ a e p c : Nat, Ms.ac m = nI a ∧ a < 5 ∧ Ms.en m = nI e ∧ e ≤ 100 ∧ Ms.sp m = nI p ∧ p ≤ e ∧ Ms.s m (222 + a) = nI c ∧ c + j ≤ p ∧ q ≤ p ∧ bl (Ms.wr m)
theorem Pg.mono {j q j' q' : Nat} {m : Ms} (h : Pg j q m) (h1 : j' ≤ j) (h2 : q' ≤ q) : Pg j' q' m := by
  obtain ⟨a, e, p, c, g1, g2, g3, g4, g5, g6, g7, g8, g9, g10⟩ := h
  exact ⟨a, e, p, c, g1, g2, g3, g4, g5, g6, g7, by omega, by omega, g10⟩
theorem Pg.z {j q : Nat} {m : Ms} (h : Pg j q m) : Pg 0 0 m := h.mono (Nat.zero_le _) (Nat.zero_le _)
theorem Pg.q {j q : Nat} {m : Ms} (h : Pg j q m) : q ≤ 100 := by
  obtain ⟨a, e, p, c, g1, g2, g3, g4, g5, g6, g7, g8, g9, g10⟩ := h
  omega
theorem Pg.ix {j q : Nat} {m : Ms} (h : Pg j q m) : ¬ Ms.en m ≤ Ms.sp m → vp_in (nI 112 + Ms.sp m) 927 := by
  obtain ⟨a, e, p, c, g1, g2, g3, g4, g5, g6, g7, g8, g9, g10⟩ := h
  intro _
  rw [g5, nI_add]
  exact vp_in_nI (by omega) (by decide)
theorem Pg.ex {j q : Nat} {m : Ms} (h : Pg j q m) : vp_in (nI 222 + Ms.ac m) 927 ∧ vp_in ((nI 227 + nI 140 * Ms.ac m) + Ms.s m (nI 222 + Ms.ac m).toNatClampNeg) 927 := by
  obtain ⟨a, e, p, c, g1, g2, g3, g4, g5, g6, g7, g8, g9, g10⟩ := h
  rw [g1, nI_add, nI_clamp (by omega), g7, pk_mul, nI_add, nI_add]
  exact ⟨vp_in_nI (by omega) (by decide), vp_in_nI (by omega) (by decide)⟩
theorem Pg.wx {j q : Nat} {m : Ms} (h : Pg j q m) {x : Int32} {w : Nat} (hx : x = nI w) (hw : w + 5 ≤ 222) : vp_in (x + Ms.ac m) 927 := by
  obtain ⟨a, e, p, c, g1, g2, g3, g4, g5, g6, g7, g8, g9, g10⟩ := h
  rw [hx, g1, nI_add]
  exact vp_in_nI (by omega) (by decide)
theorem Pg.bw {j q : Nat} {m : Ms} (h : Pg j q m) : bl (Ms.wr m) := by
  obtain ⟨a, e, p, c, g1, g2, g3, g4, g5, g6, g7, g8, g9, g10⟩ := h
  exact g10
theorem Pg.go {j q : Nat} {m m' : Ms} (h : Pg j q m) (h1 : Ms.ac m' = Ms.ac m) (h2 : Ms.en m' = Ms.en m) (h3 : Ms.s m' = Ms.s m) (h4 : Ms.sp m' = Ms.sp m + nI 0 ∨ Ms.sp m' = Ms.sp m) (h5 : bl (Ms.wr m')) : Pg j q m' := by
  obtain ⟨a, e, p, c, g1, g2, g3, g4, g5, g6, g7, g8, g9, g10⟩ := h
  refine ⟨a, e, p, c, h1.trans g1, g2, h2.trans g3, g4, ?_, g6, by rw [h3]; exact g7, g8, g9, h5⟩
  rcases h4 with h4 | h4
  · rw [h4, g5]; exact nI_add p 0
  · rw [h4, g5]
theorem Pg.go1 {j q : Nat} {m m' : Ms} (h : Pg j q m) (he : ¬ Ms.en m ≤ Ms.sp m) (h1 : Ms.ac m' = Ms.ac m) (h2 : Ms.en m' = Ms.en m) (h3 : Ms.s m' = Ms.s m) (h4 : Ms.sp m' = Ms.sp m + nI 1) (h5 : bl (Ms.wr m')) : Pg (j + 1) (q + 1) m' := by
  obtain ⟨a, e, p, c, g1, g2, g3, g4, g5, g6, g7, g8, g9, g10⟩ := h
  rw [g3, g5, nI_leI (by omega) (by omega)] at he
  exact ⟨a, e, p + 1, c, h1.trans g1, g2, h2.trans g3, g4, by rw [h4, g5]; exact nI_add p 1, by omega, by rw [h3]; exact g7, by omega, by omega, h5⟩
theorem Pg.g0 {j q : Nat} {m m' : Ms} (h : Pg j q m) (he : ¬ Ms.en m ≤ Ms.sp m) (h1 : Ms.ac m' = Ms.ac m) (h2 : Ms.en m' = Ms.en m) (h3 : Ms.s m' = Ms.s m) (h4 : Ms.sp m' = Ms.sp m + nI 1) (h5 : bl (Ms.wr m')) : Pg 0 0 m' := (h.go1 he h1 h2 h3 h4 h5).z
/-- what each reader leaves as it was, and keeps -/
def Pe (m m' : Ms) : Prop := Ms.op m' = Ms.op m ∧ (¬ Ms.wr m = 0 → ¬ Ms.wr m' = 0) ∧ ∀ j q, Pg j q m → Pg j q m'
theorem Pe.rf (m : Ms) : Pe m m := ⟨rfl, id, fun _ _ => id⟩
theorem Pe.tr {a b c : Ms} (h : Pe a b) (g : Pe b c) : Pe a c := ⟨g.1.trans h.1, fun q => g.2.1 (h.2.1 q), fun j q p => g.2.2 j q (h.2.2 j q p)⟩
theorem ch_ne (y : Int32) : ¬ (y.toUInt32 % 65536).toInt32 = (-nI 1) := by
  rw [pk_char]
  intro h
  have h2 := congrArg Int32.toInt h
  rw [nI_toInt (by omega)] at h2
  have h3 : (-nI 1 : Int32).toInt = -1 := by decide
  rw [h3] at h2
  omega
def m_X12_here (zs : Fn) (zsp : Int32) (zen : Int32) : Int32 := if zen ≤ zsp then (-nI 1) else (zs (nI 112 + zsp).toNatClampNeg)
set_option maxRecDepth 100000 in
set_option maxHeartbeats 4000000 in
theorem c_X12_here (l : Launch) {fv : Value} (hf : FV fv) (m : Ms) (hx : ¬ Ms.en m ≤ Ms.sp m → vp_in (nI 112 + Ms.sp m) 927) : CT l fv 1 jX12_here [.ref 0] (hMs m) (DP (some (.int (m_X12_here (Ms.s m) (Ms.sp m) (Ms.en m)))) (hMs m)) := by
  refine CT_of [] mt_X12_here (by decide +kernel) (tab_X12 hf) okX12_here (Nat.le_of_ble_eq_true rfl) ?_
  intro J hJ hD
  refine hJ 0 _ _ _ ?_
  refine And.intro (fun c1 => ?_) (fun c1 => ?_)
  · skip
    refine hJ 26 _ _ _ ?_
    exact And.intro True.intro (DPi (if_pos c1))
  · skip
    have hy := hx c1
    refine And.intro (hy) ?_
    refine hJ 27 _ _ _ ?_
    exact And.intro True.intro (DPi (if_neg c1))
theorem here_lt {s : Fn} {sp en c : Int32} (h : m_X12_here s sp en = c) (hc : ¬ c = (-nI 1)) : ¬ en ≤ sp := by
  intro h2
  unfold m_X12_here at h
  rw [if_pos h2] at h
  exact hc h.symm
def m_X12_must (m : Ms) (c : Int32) : Ms := if Ms.wr m = 0 then (if (m_X12_here (Ms.s m) (Ms.sp m) (Ms.en m)) = c then (Ms.th m, Ms.s m, Ms.im m, Ms.fr m, Ms.hi m, Ms.ac m, (Ms.sp m + nI 1), Ms.en m, nI 0, Ms.op m, Ms.bb m, Ms.tr m, Ms.su m, Ms.lf m, Ms.lk m, Ms.nx m, Ms.bo m, Ms.ra m, Ms.ki m, Ms.nu m, Ms.tv m) else (Ms.th m, Ms.s m, Ms.im m, Ms.fr m, Ms.hi m, Ms.ac m, (Ms.sp m + nI 0), Ms.en m, nI 1, Ms.op m, Ms.bb m, Ms.tr m, Ms.su m, Ms.lf m, Ms.lk m, Ms.nx m, Ms.bo m, Ms.ra m, Ms.ki m, Ms.nu m, Ms.tv m)) else (Ms.th m, Ms.s m, Ms.im m, Ms.fr m, Ms.hi m, Ms.ac m, (Ms.sp m + nI 0), Ms.en m, nI 1, Ms.op m, Ms.bb m, Ms.tr m, Ms.su m, Ms.lf m, Ms.lk m, Ms.nx m, Ms.bo m, Ms.ra m, Ms.ki m, Ms.nu m, Ms.tv m)
set_option maxRecDepth 100000 in
set_option maxHeartbeats 4000000 in
theorem c_X12_must (l : Launch) {fv : Value} (hf : FV fv) (m : Ms) (c : Int32) (hg : Pg 0 0 m) : CT l fv 2 jX12_must [.ref 0, .int c] (hMs m) (DP none (hMs (m_X12_must m c))) := by
  refine CT_of [] mt_X12_must (by decide +kernel) (tab_X12 hf) okX12_must (Nat.le_of_ble_eq_true rfl) ?_
  intro J hJ hD
  refine hJ 0 _ _ _ ?_
  refine And.intro (fun c1 => ?_) (fun c1 => ?_)
  · skip
    refine hJ 16 _ _ _ ?_
    refine hJ 21 _ _ _ ?_
    refine And.intro (Or.inr rfl) ?_
    refine And.intro (fun c2 => absurd c2 (by decide)) (fun c2 => ?_)
    refine hJ 41 _ _ _ ?_
    refine And.intro True.intro ?_
    exact And.intro rfl (DPs (F := (fun z => hMs z)) (s' := (Ms.th m, Ms.s m, Ms.im m, Ms.fr m, Ms.hi m, Ms.ac m, (Ms.sp m + nI 0), Ms.en m, nI 1, Ms.op m, Ms.bb m, Ms.tr m, Ms.su m, Ms.lf m, Ms.lk m, Ms.nx m, Ms.bo m, Ms.ra m, Ms.ki m, Ms.nu m, Ms.tv m)) (if_neg c1))
  · skip
    refine CALL_same (r := some (.int (m_X12_here (Ms.s m) (Ms.sp m) (Ms.en m)))) (h1 := hMs m) (by decide) (c_X12_here l hf m hg.ix) ?_
    refine And.intro (fun c3 => ?_) (fun c3 => ?_)
    · skip
      refine hJ 20 _ _ _ ?_
      refine And.intro (Or.inl rfl) ?_
      refine And.intro (fun c4 => ?_) (fun c4 => absurd (by decide) c4)
      refine hJ 40 _ _ _ ?_
      refine And.intro True.intro ?_
      exact And.intro rfl (DPs (F := (fun z => hMs z)) (s' := (Ms.th m, Ms.s m, Ms.im m, Ms.fr m, Ms.hi m, Ms.ac m, (Ms.sp m + nI 1), Ms.en m, nI 0, Ms.op m, Ms.bb m, Ms.tr m, Ms.su m, Ms.lf m, Ms.lk m, Ms.nx m, Ms.bo m, Ms.ra m, Ms.ki m, Ms.nu m, Ms.tv m)) ((if_pos c1).trans (if_pos c3)))
    · skip
      refine hJ 21 _ _ _ ?_
      refine And.intro (Or.inr rfl) ?_
      refine And.intro (fun c5 => absurd c5 (by decide)) (fun c5 => ?_)
      refine hJ 41 _ _ _ ?_
      refine And.intro True.intro ?_
      exact And.intro rfl (DPs (F := (fun z => hMs z)) (s' := (Ms.th m, Ms.s m, Ms.im m, Ms.fr m, Ms.hi m, Ms.ac m, (Ms.sp m + nI 0), Ms.en m, nI 1, Ms.op m, Ms.bb m, Ms.tr m, Ms.su m, Ms.lf m, Ms.lk m, Ms.nx m, Ms.bo m, Ms.ra m, Ms.ki m, Ms.nu m, Ms.tv m)) ((if_pos c1).trans (if_neg c3)))
theorem ef_must (m : Ms) {c : Int32} (hc : ¬ c = (-nI 1)) : Pe m (m_X12_must m c) ∧ (Ms.wr (m_X12_must m c) = 0 → Ms.wr m = 0 ∧ ∀ j q, Pg j q m → Pg (j + 1) (q + 1) (m_X12_must m c)) := by
  unfold m_X12_must
  by_cases w : Ms.wr m = 0
  · rw [if_pos w]
    by_cases e : m_X12_here (Ms.s m) (Ms.sp m) (Ms.en m) = c
    · rw [if_pos e]
      have he := here_lt e hc
      have g : ∀ j q, Pg j q m → Pg (j + 1) (q + 1) (Ms.th m, Ms.s m, Ms.im m, Ms.fr m, Ms.hi m, Ms.ac m, (Ms.sp m + nI 1), Ms.en m, nI 0, Ms.op m, Ms.bb m, Ms.tr m, Ms.su m, Ms.lf m, Ms.lk m, Ms.nx m, Ms.bo m, Ms.ra m, Ms.ki m, Ms.nu m, Ms.tv m) := fun j q h => h.go1 he rfl rfl rfl rfl (Or.inl rfl)
      exact ⟨⟨rfl, fun h => absurd w h, fun j q h => (g j q h).mono (by omega) (by omega)⟩, fun _ => ⟨w, g⟩⟩
    · rw [if_neg e]
      exact ⟨⟨rfl, fun _ h => absurd h (by show ¬ nI 1 = 0; decide), fun j q h => h.go rfl rfl rfl (Or.inl rfl) (Or.inr rfl)⟩, fun h => absurd h (by show ¬ nI 1 = 0; decide)⟩
  · rw [if_neg w]
    exact ⟨⟨rfl, fun _ h => absurd h (by show ¬ nI 1 = 0; decide), fun j q h => h.go rfl rfl rfl (Or.inl rfl) (Or.inr rfl)⟩, fun h => absurd h (by show ¬ nI 1 = 0; decide)⟩
theorem ef_must_r {m r : Ms} {c : Int32} (e : m_X12_must m c = r) (hc : ¬ c = (-nI 1)) : Pe m r := by rw [← e]; exact (ef_must m hc).1
def l_X12_spells_1000_2 (m : Ms) : Nat → Int32 → Ms → Ms
  | 0, _, _ => m
  | n2 + 1, k, m1 => if nI 5 ≤ k then m1 else (bindv (m_X12_must m1 (m_J0_charAt_5068e_1000 k)) (fun r2 => l_X12_spells_1000_2 m n2 (k + nI 1) r2))
theorem q_X12_spells_1000_2 (m : Ms) (n2 : Nat) (k : Int32) (m1 : Ms) : l_X12_spells_1000_2 m (n2 + 1) k m1 = (if nI 5 ≤ k then m1 else (bindv (m_X12_must m1 (m_J0_charAt_5068e_1000 k)) (fun r2 => l_X12_spells_1000_2 m n2 (k + nI 1) r2))) := rfl
def m_X12_spells_1000 (m : Ms) : Ms := l_X12_spells_1000_2 m 6 (nI 0) m
set_option maxRecDepth 100000 in
set_option maxHeartbeats 4000000 in
theorem c_X12_spells_1000 (l : Launch) {fv : Value} (hf : FV fv) (m : Ms) (hg : Pg 0 0 m) : CT l fv 5 jX12_spells [.ref 0, .ref 1000] (hMs m) (DP none (hMs (m_X12_spells_1000 m))) := by
  refine CT_of [2] mt_X12_spells (by decide +kernel) (tab_X12 hf) okX12_spells (Nat.le_of_ble_eq_true rfl) ?_
  intro J hJ hD
  refine hJ 0 _ _ _ ?_
  have L2 : ∀ (n2 : Nat) (k : Int32) (m1 : Ms), (∃ z9 : Nat, z9 ≤ 5 ∧ n2 + z9 = 6 ∧ k = nI z9 ∧ Pg 0 0 m1) → m_X12_spells_1000 m = l_X12_spells_1000_2 m n2 k m1 → J 2 [(0, .ref 0), (1, .ref 1000), (2, .int k)] [] (hMs m1) := by
    intro n2
    induction n2 with
    | zero =>
      intro k m1 hv
      obtain ⟨z9, h1, h2, h3, h5⟩ := hv
      omega
    | succ n2 ih2 =>
      intro k m1 hv e2
      obtain ⟨z9, h1, h2, h3, h5⟩ := hv
      refine hJ 2 _ _ _ ?_
      refine CALL_sub (r := some (.int (nI 5))) (h' := hMs m1) [] (by decide) (c_J0_length_8abf5_1000 l hf ) rfl rfl (by decide) (by decide) rfl ?_
      refine And.intro (fun c1 => ?_) (fun c1 => ?_)
      · skip
        refine hJ 25 _ _ _ ?_
        exact And.intro rfl (DPs (F := (fun z => hMs z)) (s' := m1) (e2.trans ((q_X12_spells_1000_2 m n2 k m1).trans (if_pos c1))))
      · skip
        have h4 : z9 < 5 := cnt_lt h3 h1 (by decide) c1
        refine CALL_sub (h' := hMs m1) [] (by decide) (c_J0_charAt_5068e_1000 l hf k (vp_nI h3 h4 (by decide))) rfl rfl (by decide) (by decide) rfl ?_
        obtain ⟨r2, er2⟩ : ∃ z : Ms, m_X12_must m1 (m_J0_charAt_5068e_1000 k) = z := ⟨_, rfl⟩
        have hr2 := c_X12_must l hf m1 (m_J0_charAt_5068e_1000 k) h5
        rw [er2] at hr2
        have h6 := (ef_must_r er2 (ch_ne _)).2.2 0 0 h5
        refine CALL_same (r := none) (h1 := hMs r2) (by decide) (hr2) ?_
        exact hD _ _ [1, 2, 0] _ _ (ih2 _ _ ⟨z9 + 1, by omega, by omega, by rw [h3]; exact nI_add z9 1, h6⟩ (e2.trans ((q_X12_spells_1000_2 m n2 k m1).trans ((if_neg c1).trans (bindv_eq er2)))))
  exact hD _ _ [1, 2, 0] _ _ (L2 6 _ _ ⟨0, by decide, by decide, rfl, hg⟩ (rfl))
def l_X12_spells_1001_2 (m : Ms) : Nat → Int32 → Ms → Ms
  | 0, _, _ => m
  | n2 + 1, k, m1 => if nI 5 ≤ k then m1 else (bindv (m_X12_must m1 (m_J0_charAt_5068e_1001 k)) (fun r2 => l_X12_spells_1001_2 m n2 (k + nI 1) r2))
theorem q_X12_spells_1001_2 (m : Ms) (n2 : Nat) (k : Int32) (m1 : Ms) : l_X12_spells_1001_2 m (n2 + 1) k m1 = (if nI 5 ≤ k then m1 else (bindv (m_X12_must m1 (m_J0_charAt_5068e_1001 k)) (fun r2 => l_X12_spells_1001_2 m n2 (k + nI 1) r2))) := rfl
def m_X12_spells_1001 (m : Ms) : Ms := l_X12_spells_1001_2 m 6 (nI 0) m
set_option maxRecDepth 100000 in
set_option maxHeartbeats 4000000 in
theorem c_X12_spells_1001 (l : Launch) {fv : Value} (hf : FV fv) (m : Ms) (hg : Pg 0 0 m) : CT l fv 5 jX12_spells [.ref 0, .ref 1001] (hMs m) (DP none (hMs (m_X12_spells_1001 m))) := by
  refine CT_of [2] mt_X12_spells (by decide +kernel) (tab_X12 hf) okX12_spells (Nat.le_of_ble_eq_true rfl) ?_
  intro J hJ hD
  refine hJ 0 _ _ _ ?_
  have L2 : ∀ (n2 : Nat) (k : Int32) (m1 : Ms), (∃ z9 : Nat, z9 ≤ 5 ∧ n2 + z9 = 6 ∧ k = nI z9 ∧ Pg 0 0 m1) → m_X12_spells_1001 m = l_X12_spells_1001_2 m n2 k m1 → J 2 [(0, .ref 0), (1, .ref 1001), (2, .int k)] [] (hMs m1) := by
    intro n2
    induction n2 with
    | zero =>
      intro k m1 hv
      obtain ⟨z9, h1, h2, h3, h5⟩ := hv
      omega
    | succ n2 ih2 =>
      intro k m1 hv e2
      obtain ⟨z9, h1, h2, h3, h5⟩ := hv
      refine hJ 2 _ _ _ ?_
      refine CALL_sub (r := some (.int (nI 5))) (h' := hMs m1) [] (by decide) (c_J0_length_8abf5_1001 l hf ) rfl rfl (by decide) (by decide) rfl ?_
      refine And.intro (fun c1 => ?_) (fun c1 => ?_)
      · skip
        refine hJ 25 _ _ _ ?_
        exact And.intro rfl (DPs (F := (fun z => hMs z)) (s' := m1) (e2.trans ((q_X12_spells_1001_2 m n2 k m1).trans (if_pos c1))))
      · skip
        have h4 : z9 < 5 := cnt_lt h3 h1 (by decide) c1
        refine CALL_sub (h' := hMs m1) [] (by decide) (c_J0_charAt_5068e_1001 l hf k (vp_nI h3 h4 (by decide))) rfl rfl (by decide) (by decide) rfl ?_
        obtain ⟨r2, er2⟩ : ∃ z : Ms, m_X12_must m1 (m_J0_charAt_5068e_1001 k) = z := ⟨_, rfl⟩
        have hr2 := c_X12_must l hf m1 (m_J0_charAt_5068e_1001 k) h5
        rw [er2] at hr2
        have h6 := (ef_must_r er2 (ch_ne _)).2.2 0 0 h5
        refine CALL_same (r := none) (h1 := hMs r2) (by decide) (hr2) ?_
        exact hD _ _ [1, 2, 0] _ _ (ih2 _ _ ⟨z9 + 1, by omega, by omega, by rw [h3]; exact nI_add z9 1, h6⟩ (e2.trans ((q_X12_spells_1001_2 m n2 k m1).trans ((if_neg c1).trans (bindv_eq er2)))))
  exact hD _ _ [1, 2, 0] _ _ (L2 6 _ _ ⟨0, by decide, by decide, rfl, hg⟩ (rfl))
def l_X12_spells_1002_2 (m : Ms) : Nat → Int32 → Ms → Ms
  | 0, _, _ => m
  | n2 + 1, k, m1 => if nI 5 ≤ k then m1 else (bindv (m_X12_must m1 (m_J0_charAt_5068e_1002 k)) (fun r2 => l_X12_spells_1002_2 m n2 (k + nI 1) r2))
theorem q_X12_spells_1002_2 (m : Ms) (n2 : Nat) (k : Int32) (m1 : Ms) : l_X12_spells_1002_2 m (n2 + 1) k m1 = (if nI 5 ≤ k then m1 else (bindv (m_X12_must m1 (m_J0_charAt_5068e_1002 k)) (fun r2 => l_X12_spells_1002_2 m n2 (k + nI 1) r2))) := rfl
def m_X12_spells_1002 (m : Ms) : Ms := l_X12_spells_1002_2 m 6 (nI 0) m
set_option maxRecDepth 100000 in
set_option maxHeartbeats 4000000 in
theorem c_X12_spells_1002 (l : Launch) {fv : Value} (hf : FV fv) (m : Ms) (hg : Pg 0 0 m) : CT l fv 5 jX12_spells [.ref 0, .ref 1002] (hMs m) (DP none (hMs (m_X12_spells_1002 m))) := by
  refine CT_of [2] mt_X12_spells (by decide +kernel) (tab_X12 hf) okX12_spells (Nat.le_of_ble_eq_true rfl) ?_
  intro J hJ hD
  refine hJ 0 _ _ _ ?_
  have L2 : ∀ (n2 : Nat) (k : Int32) (m1 : Ms), (∃ z9 : Nat, z9 ≤ 5 ∧ n2 + z9 = 6 ∧ k = nI z9 ∧ Pg 0 0 m1) → m_X12_spells_1002 m = l_X12_spells_1002_2 m n2 k m1 → J 2 [(0, .ref 0), (1, .ref 1002), (2, .int k)] [] (hMs m1) := by
    intro n2
    induction n2 with
    | zero =>
      intro k m1 hv
      obtain ⟨z9, h1, h2, h3, h5⟩ := hv
      omega
    | succ n2 ih2 =>
      intro k m1 hv e2
      obtain ⟨z9, h1, h2, h3, h5⟩ := hv
      refine hJ 2 _ _ _ ?_
      refine CALL_sub (r := some (.int (nI 5))) (h' := hMs m1) [] (by decide) (c_J0_length_8abf5_1002 l hf ) rfl rfl (by decide) (by decide) rfl ?_
      refine And.intro (fun c1 => ?_) (fun c1 => ?_)
      · skip
        refine hJ 25 _ _ _ ?_
        exact And.intro rfl (DPs (F := (fun z => hMs z)) (s' := m1) (e2.trans ((q_X12_spells_1002_2 m n2 k m1).trans (if_pos c1))))
      · skip
        have h4 : z9 < 5 := cnt_lt h3 h1 (by decide) c1
        refine CALL_sub (h' := hMs m1) [] (by decide) (c_J0_charAt_5068e_1002 l hf k (vp_nI h3 h4 (by decide))) rfl rfl (by decide) (by decide) rfl ?_
        obtain ⟨r2, er2⟩ : ∃ z : Ms, m_X12_must m1 (m_J0_charAt_5068e_1002 k) = z := ⟨_, rfl⟩
        have hr2 := c_X12_must l hf m1 (m_J0_charAt_5068e_1002 k) h5
        rw [er2] at hr2
        have h6 := (ef_must_r er2 (ch_ne _)).2.2 0 0 h5
        refine CALL_same (r := none) (h1 := hMs r2) (by decide) (hr2) ?_
        exact hD _ _ [1, 2, 0] _ _ (ih2 _ _ ⟨z9 + 1, by omega, by omega, by rw [h3]; exact nI_add z9 1, h6⟩ (e2.trans ((q_X12_spells_1002_2 m n2 k m1).trans ((if_neg c1).trans (bindv_eq er2)))))
  exact hD _ _ [1, 2, 0] _ _ (L2 6 _ _ ⟨0, by decide, by decide, rfl, hg⟩ (rfl))
def l_X12_spells_1003_2 (m : Ms) : Nat → Int32 → Ms → Ms
  | 0, _, _ => m
  | n2 + 1, k, m1 => if nI 5 ≤ k then m1 else (bindv (m_X12_must m1 (m_J0_charAt_5068e_1003 k)) (fun r2 => l_X12_spells_1003_2 m n2 (k + nI 1) r2))
theorem q_X12_spells_1003_2 (m : Ms) (n2 : Nat) (k : Int32) (m1 : Ms) : l_X12_spells_1003_2 m (n2 + 1) k m1 = (if nI 5 ≤ k then m1 else (bindv (m_X12_must m1 (m_J0_charAt_5068e_1003 k)) (fun r2 => l_X12_spells_1003_2 m n2 (k + nI 1) r2))) := rfl
def m_X12_spells_1003 (m : Ms) : Ms := l_X12_spells_1003_2 m 6 (nI 0) m
set_option maxRecDepth 100000 in
set_option maxHeartbeats 4000000 in
theorem c_X12_spells_1003 (l : Launch) {fv : Value} (hf : FV fv) (m : Ms) (hg : Pg 0 0 m) : CT l fv 5 jX12_spells [.ref 0, .ref 1003] (hMs m) (DP none (hMs (m_X12_spells_1003 m))) := by
  refine CT_of [2] mt_X12_spells (by decide +kernel) (tab_X12 hf) okX12_spells (Nat.le_of_ble_eq_true rfl) ?_
  intro J hJ hD
  refine hJ 0 _ _ _ ?_
  have L2 : ∀ (n2 : Nat) (k : Int32) (m1 : Ms), (∃ z9 : Nat, z9 ≤ 5 ∧ n2 + z9 = 6 ∧ k = nI z9 ∧ Pg 0 0 m1) → m_X12_spells_1003 m = l_X12_spells_1003_2 m n2 k m1 → J 2 [(0, .ref 0), (1, .ref 1003), (2, .int k)] [] (hMs m1) := by
    intro n2
    induction n2 with
    | zero =>
      intro k m1 hv
      obtain ⟨z9, h1, h2, h3, h5⟩ := hv
      omega
    | succ n2 ih2 =>
      intro k m1 hv e2
      obtain ⟨z9, h1, h2, h3, h5⟩ := hv
      refine hJ 2 _ _ _ ?_
      refine CALL_sub (r := some (.int (nI 5))) (h' := hMs m1) [] (by decide) (c_J0_length_8abf5_1003 l hf ) rfl rfl (by decide) (by decide) rfl ?_
      refine And.intro (fun c1 => ?_) (fun c1 => ?_)
      · skip
        refine hJ 25 _ _ _ ?_
        exact And.intro rfl (DPs (F := (fun z => hMs z)) (s' := m1) (e2.trans ((q_X12_spells_1003_2 m n2 k m1).trans (if_pos c1))))
      · skip
        have h4 : z9 < 5 := cnt_lt h3 h1 (by decide) c1
        refine CALL_sub (h' := hMs m1) [] (by decide) (c_J0_charAt_5068e_1003 l hf k (vp_nI h3 h4 (by decide))) rfl rfl (by decide) (by decide) rfl ?_
        obtain ⟨r2, er2⟩ : ∃ z : Ms, m_X12_must m1 (m_J0_charAt_5068e_1003 k) = z := ⟨_, rfl⟩
        have hr2 := c_X12_must l hf m1 (m_J0_charAt_5068e_1003 k) h5
        rw [er2] at hr2
        have h6 := (ef_must_r er2 (ch_ne _)).2.2 0 0 h5
        refine CALL_same (r := none) (h1 := hMs r2) (by decide) (hr2) ?_
        exact hD _ _ [1, 2, 0] _ _ (ih2 _ _ ⟨z9 + 1, by omega, by omega, by rw [h3]; exact nI_add z9 1, h6⟩ (e2.trans ((q_X12_spells_1003_2 m n2 k m1).trans ((if_neg c1).trans (bindv_eq er2)))))
  exact hD _ _ [1, 2, 0] _ _ (L2 6 _ _ ⟨0, by decide, by decide, rfl, hg⟩ (rfl))
theorem Pg.dig {j q : Nat} {m : Ms} (h : Pg j q m) (c : ¬ m_X12_in (m_X12_here (Ms.s m) (Ms.sp m) (Ms.en m)) (nI 48) (nI 57) = 0) : ¬ Ms.en m ≤ Ms.sp m := by
  intro h2
  apply c
  unfold m_X12_here
  rw [if_pos h2]
  rfl
def l_X12_figures_34 (m : Ms) (x1_0 : Int32) : Nat → Int32 → Int32 → Ms → Int32 × Ms
  | 0, _, _, _ => (0, m)
  | n34 + 1, v, k, m1 => if nI 2 ≤ k then (v, m1) else (if Ms.wr m1 = 0 then (if (m_X12_in (m_X12_here (Ms.s m1) (Ms.sp m1) (Ms.en m1)) (nI 48) (nI 57)) = 0 then (v, m1) else (if k = 0 then l_X12_figures_34 m x1_0 n34 (((nI 10 * v) + (m_X12_here (Ms.s m1) (Ms.sp m1) (Ms.en m1))) - nI 48) (k + nI 1) (Ms.th m1, Ms.s m1, Ms.im m1, Ms.fr m1, Ms.hi m1, Ms.ac m1, (Ms.sp m1 + nI 1), Ms.en m1, Ms.wr m1, Ms.op m1, Ms.bb m1, Ms.tr m1, Ms.su m1, Ms.lf m1, Ms.lk m1, Ms.nx m1, Ms.bo m1, Ms.ra m1, Ms.ki m1, Ms.nu m1, Ms.tv m1) else (if v ≤ 0 then (v, m1) else l_X12_figures_34 m x1_0 n34 (((nI 10 * v) + (m_X12_here (Ms.s m1) (Ms.sp m1) (Ms.en m1))) - nI 48) (k + nI 1) (Ms.th m1, Ms.s m1, Ms.im m1, Ms.fr m1, Ms.hi m1, Ms.ac m1, (Ms.sp m1 + nI 1), Ms.en m1, Ms.wr m1, Ms.op m1, Ms.bb m1, Ms.tr m1, Ms.su m1, Ms.lf m1, Ms.lk m1, Ms.nx m1, Ms.bo m1, Ms.ra m1, Ms.ki m1, Ms.nu m1, Ms.tv m1)))) else (v, m1))
theorem q_X12_figures_34 (m : Ms) (x1_0 : Int32) (n34 : Nat) (v : Int32) (k : Int32) (m1 : Ms) : l_X12_figures_34 m x1_0 (n34 + 1) v k m1 = (if nI 2 ≤ k then (v, m1) else (if Ms.wr m1 = 0 then (if (m_X12_in (m_X12_here (Ms.s m1) (Ms.sp m1) (Ms.en m1)) (nI 48) (nI 57)) = 0 then (v, m1) else (if k = 0 then l_X12_figures_34 m x1_0 n34 (((nI 10 * v) + (m_X12_here (Ms.s m1) (Ms.sp m1) (Ms.en m1))) - nI 48) (k + nI 1) (Ms.th m1, Ms.s m1, Ms.im m1, Ms.fr m1, Ms.hi m1, Ms.ac m1, (Ms.sp m1 + nI 1), Ms.en m1, Ms.wr m1, Ms.op m1, Ms.bb m1, Ms.tr m1, Ms.su m1, Ms.lf m1, Ms.lk m1, Ms.nx m1, Ms.bo m1, Ms.ra m1, Ms.ki m1, Ms.nu m1, Ms.tv m1) else (if v ≤ 0 then (v, m1) else l_X12_figures_34 m x1_0 n34 (((nI 10 * v) + (m_X12_here (Ms.s m1) (Ms.sp m1) (Ms.en m1))) - nI 48) (k + nI 1) (Ms.th m1, Ms.s m1, Ms.im m1, Ms.fr m1, Ms.hi m1, Ms.ac m1, (Ms.sp m1 + nI 1), Ms.en m1, Ms.wr m1, Ms.op m1, Ms.bb m1, Ms.tr m1, Ms.su m1, Ms.lf m1, Ms.lk m1, Ms.nx m1, Ms.bo m1, Ms.ra m1, Ms.ki m1, Ms.nu m1, Ms.tv m1)))) else (v, m1))) := rfl
def m_X12_figures (m : Ms) : Int32 × Ms := bindv (if Ms.wr m = 0 then (if (m_X12_in (m_X12_here (Ms.s m) (Ms.sp m) (Ms.en m)) (nI 48) (nI 57)) = 0 then (nI 1) else (nI 0)) else (nI 1)) (fun x1_0 => l_X12_figures_34 m x1_0 3 (nI 0) (nI 0) (Ms.th m, Ms.s m, Ms.im m, Ms.fr m, Ms.hi m, Ms.ac m, Ms.sp m, Ms.en m, x1_0, Ms.op m, Ms.bb m, Ms.tr m, Ms.su m, Ms.lf m, Ms.lk m, Ms.nx m, Ms.bo m, Ms.ra m, Ms.ki m, Ms.nu m, Ms.tv m))
set_option maxRecDepth 100000 in
set_option maxHeartbeats 4000000 in
theorem c_X12_figures (l : Launch) {fv : Value} (hf : FV fv) (m : Ms) (hg : Pg 0 0 m) : CT l fv 4 jX12_figures [.ref 0] (hMs m) (DP (some (.int (m_X12_figures m).1)) (hMs ((m_X12_figures m).2))) := by
  refine CT_of [27, 34] mt_X12_figures (by decide +kernel) (tab_X12 hf) okX12_figures (Nat.le_of_ble_eq_true rfl) ?_
  intro J hJ hD
  refine hJ 0 _ _ _ ?_
  have K1 : ∀ (x1_0 : Int32), (if Ms.wr m = 0 then (if (m_X12_in (m_X12_here (Ms.s m) (Ms.sp m) (Ms.en m)) (nI 48) (nI 57)) = 0 then (nI 1) else (nI 0)) else (nI 1)) = x1_0 → J 27 [(0, .ref 0)] [.int x1_0, .ref 0] (hMs m) := by
    intro x1_0 ex1_0
    have hb : bl x1_0 := (by rw [← ex1_0]; (repeat' split) <;> first | exact Or.inl rfl | exact Or.inr rfl)
    refine hJ 27 _ _ _ ?_
    refine And.intro (hb) ?_
    have L34 : ∀ (n34 : Nat) (v : Int32) (k : Int32) (m1 : Ms), (∃ z9 : Nat, z9 ≤ 2 ∧ n34 + z9 = 3 ∧ k = nI z9 ∧ Pg 0 0 m1) → m_X12_figures m = l_X12_figures_34 m x1_0 n34 v k m1 → J 34 [(0, .ref 0), (1, .int v), (2, .int k)] [] (hMs m1) := by
      intro n34
      induction n34 with
      | zero =>
        intro v k m1 hv
        obtain ⟨z9, h1, h2, h3, h5⟩ := hv
        omega
      | succ n34 ih34 =>
        intro v k m1 hv e34
        obtain ⟨z9, h1, h2, h3, h5⟩ := hv
        refine hJ 34 _ _ _ ?_
        refine And.intro (fun c2 => ?_) (fun c2 => ?_)
        · skip
          refine hJ 97 _ _ _ ?_
          exact And.intro True.intro (DPis (F := (fun z => hMs z)) (s' := m1) (e34.trans ((q_X12_figures_34 m x1_0 n34 v k m1).trans (if_pos c2))))
        · skip
          have h4 : z9 < 2 := cnt_lt h3 h1 (by decide) c2
          refine And.intro (fun c3 => ?_) (fun c3 => ?_)
          · skip
            refine hJ 97 _ _ _ ?_
            exact And.intro True.intro (DPis (F := (fun z => hMs z)) (s' := m1) (e34.trans ((q_X12_figures_34 m x1_0 n34 v k m1).trans ((if_neg c2).trans (if_neg c3)))))
          · skip
            refine CALL_same (r := some (.int (m_X12_here (Ms.s m1) (Ms.sp m1) (Ms.en m1)))) (h1 := hMs m1) (by decide) (c_X12_here l hf m1 h5.ix) ?_
            refine CALL_sub (h' := hMs m1) [] (by decide) (c_X12_in l hf (m_X12_here (Ms.s m1) (Ms.sp m1) (Ms.en m1)) (nI 48) (nI 57)) rfl rfl (by decide) (by decide) rfl ?_
            refine And.intro (fun c4 => ?_) (fun c4 => ?_)
            · skip
              refine hJ 97 _ _ _ ?_
              exact And.intro True.intro (DPis (F := (fun z => hMs z)) (s' := m1) (e34.trans ((q_X12_figures_34 m x1_0 n34 v k m1).trans ((if_neg c2).trans ((if_pos c3).trans (if_pos c4))))))
            · skip
              have h6 := h5.dig c4
              refine And.intro (fun c5 => ?_) (fun c5 => ?_)
              · skip
                refine hJ 68 _ _ _ ?_
                refine CALL_same (r := some (.int (m_X12_here (Ms.s m1) (Ms.sp m1) (Ms.en m1)))) (h1 := hMs m1) (by decide) (c_X12_here l hf m1 h5.ix) ?_
                refine And.intro True.intro ?_
                exact hD _ _ [2, 1, 0] _ _ (ih34 _ _ (Ms.th m1, Ms.s m1, Ms.im m1, Ms.fr m1, Ms.hi m1, Ms.ac m1, (Ms.sp m1 + nI 1), Ms.en m1, Ms.wr m1, Ms.op m1, Ms.bb m1, Ms.tr m1, Ms.su m1, Ms.lf m1, Ms.lk m1, Ms.nx m1, Ms.bo m1, Ms.ra m1, Ms.ki m1, Ms.nu m1, Ms.tv m1) ⟨z9 + 1, by omega, by omega, by rw [h3]; exact nI_add z9 1, by exact Pg.g0 h5 h6 rfl rfl rfl rfl h5.bw⟩ (e34.trans ((q_X12_figures_34 m x1_0 n34 v k m1).trans ((if_neg c2).trans ((if_pos c3).trans ((if_neg c4).trans (if_pos c5)))))))
              · skip
                refine And.intro (fun c6 => ?_) (fun c6 => ?_)
                · skip
                  refine hJ 97 _ _ _ ?_
                  exact And.intro True.intro (DPis (F := (fun z => hMs z)) (s' := m1) (e34.trans ((q_X12_figures_34 m x1_0 n34 v k m1).trans ((if_neg c2).trans ((if_pos c3).trans ((if_neg c4).trans ((if_neg c5).trans (if_pos c6))))))))
                · skip
                  refine CALL_same (r := some (.int (m_X12_here (Ms.s m1) (Ms.sp m1) (Ms.en m1)))) (h1 := hMs m1) (by decide) (c_X12_here l hf m1 h5.ix) ?_
                  refine And.intro True.intro ?_
                  exact hD _ _ [2, 1, 0] _ _ (ih34 _ _ (Ms.th m1, Ms.s m1, Ms.im m1, Ms.fr m1, Ms.hi m1, Ms.ac m1, (Ms.sp m1 + nI 1), Ms.en m1, Ms.wr m1, Ms.op m1, Ms.bb m1, Ms.tr m1, Ms.su m1, Ms.lf m1, Ms.lk m1, Ms.nx m1, Ms.bo m1, Ms.ra m1, Ms.ki m1, Ms.nu m1, Ms.tv m1) ⟨z9 + 1, by omega, by omega, by rw [h3]; exact nI_add z9 1, by exact Pg.g0 h5 h6 rfl rfl rfl rfl h5.bw⟩ (e34.trans ((q_X12_figures_34 m x1_0 n34 v k m1).trans ((if_neg c2).trans ((if_pos c3).trans ((if_neg c4).trans ((if_neg c5).trans (if_neg c6))))))))
    exact hD _ _ [2, 1, 0] _ _ (L34 3 _ _ (Ms.th m, Ms.s m, Ms.im m, Ms.fr m, Ms.hi m, Ms.ac m, Ms.sp m, Ms.en m, x1_0, Ms.op m, Ms.bb m, Ms.tr m, Ms.su m, Ms.lf m, Ms.lk m, Ms.nx m, Ms.bo m, Ms.ra m, Ms.ki m, Ms.nu m, Ms.tv m) ⟨0, by decide, by decide, rfl, hg.go rfl rfl rfl (Or.inr rfl) hb⟩ (bindv_eq ex1_0))
  refine And.intro (fun c7 => ?_) (fun c7 => ?_)
  · skip
    refine hJ 22 _ _ _ ?_
    exact hD _ _ [0] _ _ (K1 _ (if_neg c7))
  · skip
    refine CALL_same (r := some (.int (m_X12_here (Ms.s m) (Ms.sp m) (Ms.en m)))) (h1 := hMs m) (by decide) (c_X12_here l hf m hg.ix) ?_
    refine CALL_sub (h' := hMs m) [] (by decide) (c_X12_in l hf (m_X12_here (Ms.s m) (Ms.sp m) (Ms.en m)) (nI 48) (nI 57)) rfl rfl (by decide) (by decide) rfl ?_
    refine And.intro (fun c8 => ?_) (fun c8 => ?_)
    · skip
      refine hJ 26 _ _ _ ?_
      exact hD _ _ [0] _ _ (K1 _ ((if_pos c7).trans (if_neg c8)))
    · skip
      exact hD _ _ [0] _ _ (K1 _ ((if_pos c7).trans (if_pos c8)))
theorem ef_spells_l_1000 (m : Ms) : ∀ (n k : Nat) (i : Int32) (m1 : Ms), k ≤ 5 → n + k = 6 → i = nI k → Pe m1 (l_X12_spells_1000_2 m n i m1) ∧ (Ms.wr (l_X12_spells_1000_2 m n i m1) = 0 → k < 5 → ∀ j q, Pg j q m1 → Pg (j + 1) (q + 1) (l_X12_spells_1000_2 m n i m1)) := by
  intro n
  induction n with
  | zero => intro k i m1 h1 h2; omega
  | succ n ih =>
    intro k i m1 h1 h2 h3
    rw [q_X12_spells_1000_2]
    by_cases c : nI 5 ≤ i
    · rw [if_pos c]
      rw [h3, nI_leI (by omega) (by omega)] at c
      exact ⟨Pe.rf _, fun _ h => by omega⟩
    · rw [if_neg c]
      have hk : k < 5 := cnt_lt h3 h1 (by decide) c
      have e := ef_must m1 (c := m_J0_charAt_5068e_1000 i) (ch_ne _)
      have g := ih (k + 1) (i + nI 1) (m_X12_must m1 (m_J0_charAt_5068e_1000 i)) (by omega) (by omega) (by rw [h3]; exact nI_add k 1)
      refine ⟨e.1.tr g.1, fun w _ j q p => g.1.2.2 _ _ ((e.2 ?_).2 j q p)⟩
      exact Classical.byContradiction fun h => g.1.2.1 h w
theorem ef_spells_1000 (m : Ms) : Pe m (m_X12_spells_1000 m) ∧ (Ms.wr (m_X12_spells_1000 m) = 0 → ∀ j q, Pg j q m → Pg (j + 1) (q + 1) (m_X12_spells_1000 m)) := ⟨(ef_spells_l_1000 m 6 0 _ m (by omega) rfl rfl).1, fun w => (ef_spells_l_1000 m 6 0 _ m (by omega) rfl rfl).2 w (by omega)⟩
theorem ef_spells_1000_r {m r : Ms} (e : m_X12_spells_1000 m = r) : Pe m r ∧ (Ms.wr r = 0 → ∀ j q, Pg j q m → Pg (j + 1) (q + 1) r) := by rw [← e]; exact ef_spells_1000 m
theorem ef_spells_l_1001 (m : Ms) : ∀ (n k : Nat) (i : Int32) (m1 : Ms), k ≤ 5 → n + k = 6 → i = nI k → Pe m1 (l_X12_spells_1001_2 m n i m1) ∧ (Ms.wr (l_X12_spells_1001_2 m n i m1) = 0 → k < 5 → ∀ j q, Pg j q m1 → Pg (j + 1) (q + 1) (l_X12_spells_1001_2 m n i m1)) := by
  intro n
  induction n with
  | zero => intro k i m1 h1 h2; omega
  | succ n ih =>
    intro k i m1 h1 h2 h3
    rw [q_X12_spells_1001_2]
    by_cases c : nI 5 ≤ i
    · rw [if_pos c]
      rw [h3, nI_leI (by omega) (by omega)] at c
      exact ⟨Pe.rf _, fun _ h => by omega⟩
    · rw [if_neg c]
      have hk : k < 5 := cnt_lt h3 h1 (by decide) c
      have e := ef_must m1 (c := m_J0_charAt_5068e_1001 i) (ch_ne _)
      have g := ih (k + 1) (i + nI 1) (m_X12_must m1 (m_J0_charAt_5068e_1001 i)) (by omega) (by omega) (by rw [h3]; exact nI_add k 1)
      refine ⟨e.1.tr g.1, fun w _ j q p => g.1.2.2 _ _ ((e.2 ?_).2 j q p)⟩
      exact Classical.byContradiction fun h => g.1.2.1 h w
theorem ef_spells_1001 (m : Ms) : Pe m (m_X12_spells_1001 m) ∧ (Ms.wr (m_X12_spells_1001 m) = 0 → ∀ j q, Pg j q m → Pg (j + 1) (q + 1) (m_X12_spells_1001 m)) := ⟨(ef_spells_l_1001 m 6 0 _ m (by omega) rfl rfl).1, fun w => (ef_spells_l_1001 m 6 0 _ m (by omega) rfl rfl).2 w (by omega)⟩
theorem ef_spells_1001_r {m r : Ms} (e : m_X12_spells_1001 m = r) : Pe m r ∧ (Ms.wr r = 0 → ∀ j q, Pg j q m → Pg (j + 1) (q + 1) r) := by rw [← e]; exact ef_spells_1001 m
theorem ef_spells_l_1002 (m : Ms) : ∀ (n k : Nat) (i : Int32) (m1 : Ms), k ≤ 5 → n + k = 6 → i = nI k → Pe m1 (l_X12_spells_1002_2 m n i m1) ∧ (Ms.wr (l_X12_spells_1002_2 m n i m1) = 0 → k < 5 → ∀ j q, Pg j q m1 → Pg (j + 1) (q + 1) (l_X12_spells_1002_2 m n i m1)) := by
  intro n
  induction n with
  | zero => intro k i m1 h1 h2; omega
  | succ n ih =>
    intro k i m1 h1 h2 h3
    rw [q_X12_spells_1002_2]
    by_cases c : nI 5 ≤ i
    · rw [if_pos c]
      rw [h3, nI_leI (by omega) (by omega)] at c
      exact ⟨Pe.rf _, fun _ h => by omega⟩
    · rw [if_neg c]
      have hk : k < 5 := cnt_lt h3 h1 (by decide) c
      have e := ef_must m1 (c := m_J0_charAt_5068e_1002 i) (ch_ne _)
      have g := ih (k + 1) (i + nI 1) (m_X12_must m1 (m_J0_charAt_5068e_1002 i)) (by omega) (by omega) (by rw [h3]; exact nI_add k 1)
      refine ⟨e.1.tr g.1, fun w _ j q p => g.1.2.2 _ _ ((e.2 ?_).2 j q p)⟩
      exact Classical.byContradiction fun h => g.1.2.1 h w
theorem ef_spells_1002 (m : Ms) : Pe m (m_X12_spells_1002 m) ∧ (Ms.wr (m_X12_spells_1002 m) = 0 → ∀ j q, Pg j q m → Pg (j + 1) (q + 1) (m_X12_spells_1002 m)) := ⟨(ef_spells_l_1002 m 6 0 _ m (by omega) rfl rfl).1, fun w => (ef_spells_l_1002 m 6 0 _ m (by omega) rfl rfl).2 w (by omega)⟩
theorem ef_spells_1002_r {m r : Ms} (e : m_X12_spells_1002 m = r) : Pe m r ∧ (Ms.wr r = 0 → ∀ j q, Pg j q m → Pg (j + 1) (q + 1) r) := by rw [← e]; exact ef_spells_1002 m
theorem ef_spells_l_1003 (m : Ms) : ∀ (n k : Nat) (i : Int32) (m1 : Ms), k ≤ 5 → n + k = 6 → i = nI k → Pe m1 (l_X12_spells_1003_2 m n i m1) ∧ (Ms.wr (l_X12_spells_1003_2 m n i m1) = 0 → k < 5 → ∀ j q, Pg j q m1 → Pg (j + 1) (q + 1) (l_X12_spells_1003_2 m n i m1)) := by
  intro n
  induction n with
  | zero => intro k i m1 h1 h2; omega
  | succ n ih =>
    intro k i m1 h1 h2 h3
    rw [q_X12_spells_1003_2]
    by_cases c : nI 5 ≤ i
    · rw [if_pos c]
      rw [h3, nI_leI (by omega) (by omega)] at c
      exact ⟨Pe.rf _, fun _ h => by omega⟩
    · rw [if_neg c]
      have hk : k < 5 := cnt_lt h3 h1 (by decide) c
      have e := ef_must m1 (c := m_J0_charAt_5068e_1003 i) (ch_ne _)
      have g := ih (k + 1) (i + nI 1) (m_X12_must m1 (m_J0_charAt_5068e_1003 i)) (by omega) (by omega) (by rw [h3]; exact nI_add k 1)
      refine ⟨e.1.tr g.1, fun w _ j q p => g.1.2.2 _ _ ((e.2 ?_).2 j q p)⟩
      exact Classical.byContradiction fun h => g.1.2.1 h w
theorem ef_spells_1003 (m : Ms) : Pe m (m_X12_spells_1003 m) ∧ (Ms.wr (m_X12_spells_1003 m) = 0 → ∀ j q, Pg j q m → Pg (j + 1) (q + 1) (m_X12_spells_1003 m)) := ⟨(ef_spells_l_1003 m 6 0 _ m (by omega) rfl rfl).1, fun w => (ef_spells_l_1003 m 6 0 _ m (by omega) rfl rfl).2 w (by omega)⟩
theorem ef_spells_1003_r {m r : Ms} (e : m_X12_spells_1003 m = r) : Pe m r ∧ (Ms.wr r = 0 → ∀ j q, Pg j q m → Pg (j + 1) (q + 1) r) := by rw [← e]; exact ef_spells_1003 m
theorem Pe.go {m m' : Ms} (h1 : Ms.ac m' = Ms.ac m) (h2 : Ms.en m' = Ms.en m) (h3 : Ms.s m' = Ms.s m) (h4 : Ms.sp m' = Ms.sp m + nI 0 ∨ Ms.sp m' = Ms.sp m) (h5 : bl (Ms.wr m')) (h6 : Ms.op m' = Ms.op m) (h7 : ¬ Ms.wr m = 0 → ¬ Ms.wr m' = 0) : Pe m m' := ⟨h6, h7, fun _ _ h => h.go h1 h2 h3 h4 h5⟩
theorem Pe.go1 {m m' : Ms} (he : ¬ Ms.en m ≤ Ms.sp m) (h1 : Ms.ac m' = Ms.ac m) (h2 : Ms.en m' = Ms.en m) (h3 : Ms.s m' = Ms.s m) (h4 : Ms.sp m' = Ms.sp m + nI 1) (h5 : Ms.wr m' = Ms.wr m) (h6 : Ms.op m' = Ms.op m) : Pe m m' := ⟨h6, fun h => by rw [h5]; exact h, fun j q h => (h.go1 he h1 h2 h3 h4 (by rw [h5]; exact h.bw)).mono (by omega) (by omega)⟩
theorem dig_lt {s : Fn} {sp en : Int32} (c : ¬ m_X12_in (m_X12_here s sp en) (nI 48) (nI 57) = 0) : ¬ en ≤ sp := by
  intro h2
  apply c
  unfold m_X12_here
  rw [if_pos h2]
  rfl
theorem ef_figures_l (m : Ms) (x : Int32) : ∀ (n : Nat) (v i : Int32) (m1 : Ms), Pe m m1 → Pe m (l_X12_figures_34 m x n v i m1).2 := by
  intro n
  induction n with
  | zero => intro v i m1 h; exact Pe.rf m
  | succ n ih =>
    intro v i m1 h
    rw [q_X12_figures_34]
    by_cases c1 : nI 2 ≤ i
    · rw [if_pos c1]; exact h
    · rw [if_neg c1]
      by_cases c2 : Ms.wr m1 = 0
      · rw [if_pos c2]
        by_cases c3 : m_X12_in (m_X12_here (Ms.s m1) (Ms.sp m1) (Ms.en m1)) (nI 48) (nI 57) = 0
        · rw [if_pos c3]; exact h
        · rw [if_neg c3]
          have he := dig_lt c3
          by_cases c4 : i = 0
          · rw [if_pos c4]; exact ih _ _ _ (h.tr (Pe.go1 he rfl rfl rfl rfl rfl rfl))
          · rw [if_neg c4]
            by_cases c5 : v ≤ 0
            · rw [if_pos c5]; exact h
            · rw [if_neg c5]; exact ih _ _ _ (h.tr (Pe.go1 he rfl rfl rfl rfl rfl rfl))
      · rw [if_neg c2]; exact h
theorem ef_figures (m : Ms) : Pe m (m_X12_figures m).2 := by
  unfold m_X12_figures bindv
  refine ef_figures_l m _ _ _ _ _ (Pe.go rfl rfl rfl (Or.inr rfl) ?_ rfl ?_)
  · show bl (if Ms.wr m = 0 then (if (m_X12_in (m_X12_here (Ms.s m) (Ms.sp m) (Ms.en m)) (nI 48) (nI 57)) = 0 then (nI 1) else (nI 0)) else (nI 1))
    (repeat' split) <;> first | exact Or.inl rfl | exact Or.inr rfl
  · intro h
    show ¬ (if Ms.wr m = 0 then (if (m_X12_in (m_X12_here (Ms.s m) (Ms.sp m) (Ms.en m)) (nI 48) (nI 57)) = 0 then (nI 1) else (nI 0)) else (nI 1)) = 0
    rw [if_neg h]; decide
theorem ef_figures_r {m : Ms} {r : Int32 × Ms} (e : m_X12_figures m = r) : Pe m r.2 := by rw [← e]; exact ef_figures m
def l_X12_among_1004_2 (m : Ms) : Nat → Int32 → Int32 × Ms
  | 0, _ => (0, m)
  | n2 + 1, k => if nI 6 ≤ k then ((-nI 1), m) else (if (m_X12_here (Ms.s m) (Ms.sp m) (Ms.en m)) = (m_J0_charAt_5068e_1004 k) then (k, (Ms.th m, Ms.s m, Ms.im m, Ms.fr m, Ms.hi m, Ms.ac m, (Ms.sp m + nI 1), Ms.en m, Ms.wr m, Ms.op m, Ms.bb m, Ms.tr m, Ms.su m, Ms.lf m, Ms.lk m, Ms.nx m, Ms.bo m, Ms.ra m, Ms.ki m, Ms.nu m, Ms.tv m)) else l_X12_among_1004_2 m n2 (k + nI 1))
theorem q_X12_among_1004_2 (m : Ms) (n2 : Nat) (k : Int32) : l_X12_among_1004_2 m (n2 + 1) k = (if nI 6 ≤ k then ((-nI 1), m) else (if (m_X12_here (Ms.s m) (Ms.sp m) (Ms.en m)) = (m_J0_charAt_5068e_1004 k) then (k, (Ms.th m, Ms.s m, Ms.im m, Ms.fr m, Ms.hi m, Ms.ac m, (Ms.sp m + nI 1), Ms.en m, Ms.wr m, Ms.op m, Ms.bb m, Ms.tr m, Ms.su m, Ms.lf m, Ms.lk m, Ms.nx m, Ms.bo m, Ms.ra m, Ms.ki m, Ms.nu m, Ms.tv m)) else l_X12_among_1004_2 m n2 (k + nI 1))) := rfl
def m_X12_among_1004 (m : Ms) : Int32 × Ms := l_X12_among_1004_2 m 7 (nI 0)
set_option maxRecDepth 100000 in
set_option maxHeartbeats 4000000 in
theorem c_X12_among_1004 (l : Launch) {fv : Value} (hf : FV fv) (m : Ms) (hx : ¬ Ms.en m ≤ Ms.sp m → vp_in (nI 112 + Ms.sp m) 927) : CT l fv 5 jX12_among [.ref 0, .ref 1004] (hMs m) (DP (some (.int (m_X12_among_1004 m).1)) (hMs ((m_X12_among_1004 m).2))) := by
  refine CT_of [2] mt_X12_among (by decide +kernel) (tab_X12 hf) okX12_among (Nat.le_of_ble_eq_true rfl) ?_
  intro J hJ hD
  refine hJ 0 _ _ _ ?_
  have L2 : ∀ (n2 : Nat) (k : Int32), (∃ z9 : Nat, z9 ≤ 6 ∧ n2 + z9 = 7 ∧ k = nI z9) → m_X12_among_1004 m = l_X12_among_1004_2 m n2 k → J 2 [(0, .ref 0), (1, .ref 1004), (2, .int k)] [] (hMs m) := by
    intro n2
    induction n2 with
    | zero =>
      intro k hv
      obtain ⟨z9, h1, h2, h3⟩ := hv
      omega
    | succ n2 ih2 =>
      intro k hv e2
      obtain ⟨z9, h1, h2, h3⟩ := hv
      refine hJ 2 _ _ _ ?_
      refine CALL_sub (r := some (.int (nI 6))) (h' := hMs m) [] (by decide) (c_J0_length_8abf5_1004 l hf ) rfl rfl (by decide) (by decide) rfl ?_
      refine And.intro (fun c1 => ?_) (fun c1 => ?_)
      · skip
        refine hJ 40 _ _ _ ?_
        exact And.intro True.intro (DPis (F := (fun z => hMs z)) (s' := m) (e2.trans ((q_X12_among_1004_2 m n2 k).trans (if_pos c1))))
      · skip
        have h4 : z9 < 6 := cnt_lt h3 h1 (by decide) c1
        refine CALL_same (r := some (.int (m_X12_here (Ms.s m) (Ms.sp m) (Ms.en m)))) (h1 := hMs m) (by decide) (c_X12_here l hf m hx) ?_
        refine CALL_sub (h' := hMs m) [] (by decide) (c_J0_charAt_5068e_1004 l hf k (vp_nI h3 h4 (by decide))) rfl rfl (by decide) (by decide) rfl ?_
        refine And.intro (fun c2 => ?_) (fun c2 => ?_)
        · skip
          refine hJ 34 _ _ _ ?_
          exact hD _ _ [1, 2, 0] _ _ (ih2 _ ⟨z9 + 1, by omega, by omega, by rw [h3]; exact nI_add z9 1⟩ (e2.trans ((q_X12_among_1004_2 m n2 k).trans ((if_neg c1).trans (if_neg c2)))))
        · skip
          refine And.intro True.intro ?_
          exact And.intro True.intro (DPis (F := (fun z => hMs z)) (s' := (Ms.th m, Ms.s m, Ms.im m, Ms.fr m, Ms.hi m, Ms.ac m, (Ms.sp m + nI 1), Ms.en m, Ms.wr m, Ms.op m, Ms.bb m, Ms.tr m, Ms.su m, Ms.lf m, Ms.lk m, Ms.nx m, Ms.bo m, Ms.ra m, Ms.ki m, Ms.nu m, Ms.tv m)) (e2.trans ((q_X12_among_1004_2 m n2 k).trans ((if_neg c1).trans (if_pos c2)))))
  exact hD _ _ [1, 2, 0] _ _ (L2 7 _ ⟨0, by decide, by decide, rfl⟩ (rfl))
def l_X12_among_1005_2 (m : Ms) : Nat → Int32 → Int32 × Ms
  | 0, _ => (0, m)
  | n2 + 1, k => if nI 3 ≤ k then ((-nI 1), m) else (if (m_X12_here (Ms.s m) (Ms.sp m) (Ms.en m)) = (m_J0_charAt_5068e_1005 k) then (k, (Ms.th m, Ms.s m, Ms.im m, Ms.fr m, Ms.hi m, Ms.ac m, (Ms.sp m + nI 1), Ms.en m, Ms.wr m, Ms.op m, Ms.bb m, Ms.tr m, Ms.su m, Ms.lf m, Ms.lk m, Ms.nx m, Ms.bo m, Ms.ra m, Ms.ki m, Ms.nu m, Ms.tv m)) else l_X12_among_1005_2 m n2 (k + nI 1))
theorem q_X12_among_1005_2 (m : Ms) (n2 : Nat) (k : Int32) : l_X12_among_1005_2 m (n2 + 1) k = (if nI 3 ≤ k then ((-nI 1), m) else (if (m_X12_here (Ms.s m) (Ms.sp m) (Ms.en m)) = (m_J0_charAt_5068e_1005 k) then (k, (Ms.th m, Ms.s m, Ms.im m, Ms.fr m, Ms.hi m, Ms.ac m, (Ms.sp m + nI 1), Ms.en m, Ms.wr m, Ms.op m, Ms.bb m, Ms.tr m, Ms.su m, Ms.lf m, Ms.lk m, Ms.nx m, Ms.bo m, Ms.ra m, Ms.ki m, Ms.nu m, Ms.tv m)) else l_X12_among_1005_2 m n2 (k + nI 1))) := rfl
def m_X12_among_1005 (m : Ms) : Int32 × Ms := l_X12_among_1005_2 m 4 (nI 0)
set_option maxRecDepth 100000 in
set_option maxHeartbeats 4000000 in
theorem c_X12_among_1005 (l : Launch) {fv : Value} (hf : FV fv) (m : Ms) (hx : ¬ Ms.en m ≤ Ms.sp m → vp_in (nI 112 + Ms.sp m) 927) : CT l fv 5 jX12_among [.ref 0, .ref 1005] (hMs m) (DP (some (.int (m_X12_among_1005 m).1)) (hMs ((m_X12_among_1005 m).2))) := by
  refine CT_of [2] mt_X12_among (by decide +kernel) (tab_X12 hf) okX12_among (Nat.le_of_ble_eq_true rfl) ?_
  intro J hJ hD
  refine hJ 0 _ _ _ ?_
  have L2 : ∀ (n2 : Nat) (k : Int32), (∃ z9 : Nat, z9 ≤ 3 ∧ n2 + z9 = 4 ∧ k = nI z9) → m_X12_among_1005 m = l_X12_among_1005_2 m n2 k → J 2 [(0, .ref 0), (1, .ref 1005), (2, .int k)] [] (hMs m) := by
    intro n2
    induction n2 with
    | zero =>
      intro k hv
      obtain ⟨z9, h1, h2, h3⟩ := hv
      omega
    | succ n2 ih2 =>
      intro k hv e2
      obtain ⟨z9, h1, h2, h3⟩ := hv
      refine hJ 2 _ _ _ ?_
      refine CALL_sub (r := some (.int (nI 3))) (h' := hMs m) [] (by decide) (c_J0_length_8abf5_1005 l hf ) rfl rfl (by decide) (by decide) rfl ?_
      refine And.intro (fun c1 => ?_) (fun c1 => ?_)
      · skip
        refine hJ 40 _ _ _ ?_
        exact And.intro True.intro (DPis (F := (fun z => hMs z)) (s' := m) (e2.trans ((q_X12_among_1005_2 m n2 k).trans (if_pos c1))))
      · skip
        have h4 : z9 < 3 := cnt_lt h3 h1 (by decide) c1
        refine CALL_same (r := some (.int (m_X12_here (Ms.s m) (Ms.sp m) (Ms.en m)))) (h1 := hMs m) (by decide) (c_X12_here l hf m hx) ?_
        refine CALL_sub (h' := hMs m) [] (by decide) (c_J0_charAt_5068e_1005 l hf k (vp_nI h3 h4 (by decide))) rfl rfl (by decide) (by decide) rfl ?_
        refine And.intro (fun c2 => ?_) (fun c2 => ?_)
        · skip
          refine hJ 34 _ _ _ ?_
          exact hD _ _ [1, 2, 0] _ _ (ih2 _ ⟨z9 + 1, by omega, by omega, by rw [h3]; exact nI_add z9 1⟩ (e2.trans ((q_X12_among_1005_2 m n2 k).trans ((if_neg c1).trans (if_neg c2)))))
        · skip
          refine And.intro True.intro ?_
          exact And.intro True.intro (DPis (F := (fun z => hMs z)) (s' := (Ms.th m, Ms.s m, Ms.im m, Ms.fr m, Ms.hi m, Ms.ac m, (Ms.sp m + nI 1), Ms.en m, Ms.wr m, Ms.op m, Ms.bb m, Ms.tr m, Ms.su m, Ms.lf m, Ms.lk m, Ms.nx m, Ms.bo m, Ms.ra m, Ms.ki m, Ms.nu m, Ms.tv m)) (e2.trans ((q_X12_among_1005_2 m n2 k).trans ((if_neg c1).trans (if_pos c2)))))
  exact hD _ _ [1, 2, 0] _ _ (L2 4 _ ⟨0, by decide, by decide, rfl⟩ (rfl))
theorem ef_among_l_1004 (m : Ms) : ∀ (n k : Nat) (i : Int32), k ≤ 6 → n + k = 6 + 1 → i = nI k → Pe m (l_X12_among_1004_2 m n i).2 ∧ ((l_X12_among_1004_2 m n i).1 = (-nI 1) ∨ ∀ j q, Pg j q m → Pg (j + 1) (q + 1) (l_X12_among_1004_2 m n i).2) := by
  intro n
  induction n with
  | zero => intro k i h1 h2; omega
  | succ n ih =>
    intro k i h1 h2 h3
    rw [q_X12_among_1004_2]
    by_cases c : nI 6 ≤ i
    · rw [if_pos c]; exact ⟨Pe.rf m, Or.inl rfl⟩
    · rw [if_neg c]
      have hk : k < 6 := cnt_lt h3 h1 (by decide) c
      by_cases c2 : m_X12_here (Ms.s m) (Ms.sp m) (Ms.en m) = m_J0_charAt_5068e_1004 i
      · rw [if_pos c2]
        have he := here_lt c2 (ch_ne _)
        exact ⟨Pe.go1 he rfl rfl rfl rfl rfl rfl, Or.inr fun j q h => h.go1 he rfl rfl rfl rfl h.bw⟩
      · rw [if_neg c2]
        exact ih (k + 1) _ (by omega) (by omega) (by rw [h3]; exact nI_add k 1)
theorem ef_among_1004_r {m : Ms} {r : Int32 × Ms} (e : m_X12_among_1004 m = r) : Pe m r.2 ∧ (r.1 = (-nI 1) ∨ ∀ j q, Pg j q m → Pg (j + 1) (q + 1) r.2) := by rw [← e]; exact ef_among_l_1004 m (6 + 1) 0 _ (by omega) rfl rfl
theorem ef_among_l_1005 (m : Ms) : ∀ (n k : Nat) (i : Int32), k ≤ 3 → n + k = 3 + 1 → i = nI k → Pe m (l_X12_among_1005_2 m n i).2 ∧ ((l_X12_among_1005_2 m n i).1 = (-nI 1) ∨ ∀ j q, Pg j q m → Pg (j + 1) (q + 1) (l_X12_among_1005_2 m n i).2) := by
  intro n
  induction n with
  | zero => intro k i h1 h2; omega
  | succ n ih =>
    intro k i h1 h2 h3
    rw [q_X12_among_1005_2]
    by_cases c : nI 3 ≤ i
    · rw [if_pos c]; exact ⟨Pe.rf m, Or.inl rfl⟩
    · rw [if_neg c]
      have hk : k < 3 := cnt_lt h3 h1 (by decide) c
      by_cases c2 : m_X12_here (Ms.s m) (Ms.sp m) (Ms.en m) = m_J0_charAt_5068e_1005 i
      · rw [if_pos c2]
        have he := here_lt c2 (ch_ne _)
        exact ⟨Pe.go1 he rfl rfl rfl rfl rfl rfl, Or.inr fun j q h => h.go1 he rfl rfl rfl rfl h.bw⟩
      · rw [if_neg c2]
        exact ih (k + 1) _ (by omega) (by omega) (by rw [h3]; exact nI_add k 1)
theorem ef_among_1005_r {m : Ms} {r : Int32 × Ms} (e : m_X12_among_1005 m = r) : Pe m r.2 ∧ (r.1 = (-nI 1) ∨ ∀ j q, Pg j q m → Pg (j + 1) (q + 1) r.2) := by rw [← e]; exact ef_among_l_1005 m (3 + 1) 0 _ (by omega) rfl rfl
def m_X12_emits (m : Ms) (x : Int32) : Ms := if Ms.wr m = 0 then (Ms.th m, (upd (upd (Ms.s m) ((nI 227 + (nI 140 * Ms.ac m)) + (Ms.s m (nI 222 + Ms.ac m).toNatClampNeg)).toNatClampNeg x) (nI 222 + Ms.ac m).toNatClampNeg (((upd (Ms.s m) ((nI 227 + (nI 140 * Ms.ac m)) + (Ms.s m (nI 222 + Ms.ac m).toNatClampNeg)).toNatClampNeg x) (nI 222 + Ms.ac m).toNatClampNeg) + nI 1)), Ms.im m, Ms.fr m, Ms.hi m, Ms.ac m, Ms.sp m, Ms.en m, Ms.wr m, Ms.op m, Ms.bb m, Ms.tr m, Ms.su m, Ms.lf m, Ms.lk m, Ms.nx m, Ms.bo m, Ms.ra m, Ms.ki m, Ms.nu m, Ms.tv m) else m
set_option maxRecDepth 100000 in
set_option maxHeartbeats 4000000 in
theorem c_X12_emits (l : Launch) {fv : Value} (hf : FV fv) (m : Ms) (x : Int32) (hg : Pg 0 0 m) : CT l fv 1 jX12_emits [.ref 0, .int x] (hMs m) (DP none (hMs (m_X12_emits m x))) := by
  refine CT_of [] mt_X12_emits (by decide +kernel) (tab_X12 hf) okX12_emits (Nat.le_of_ble_eq_true rfl) ?_
  intro J hJ hD
  refine hJ 0 _ _ _ ?_
  refine And.intro (fun c1 => ?_) (fun c1 => ?_)
  · skip
    refine hJ 56 _ _ _ ?_
    exact And.intro rfl (DPs (F := (fun z => hMs z)) (s' := m) (if_neg c1))
  · skip
    refine And.intro (hg.ex.1) ?_
    refine And.intro (hg.ex.2) ?_
    refine And.intro (hg.ex.1) ?_
    refine And.intro (hg.ex.1) ?_
    exact And.intro rfl (DPs (F := (fun z => hMs z)) (s' := (Ms.th m, (upd (upd (Ms.s m) ((nI 227 + (nI 140 * Ms.ac m)) + (Ms.s m (nI 222 + Ms.ac m).toNatClampNeg)).toNatClampNeg x) (nI 222 + Ms.ac m).toNatClampNeg (((upd (Ms.s m) ((nI 227 + (nI 140 * Ms.ac m)) + (Ms.s m (nI 222 + Ms.ac m).toNatClampNeg)).toNatClampNeg x) (nI 222 + Ms.ac m).toNatClampNeg) + nI 1)), Ms.im m, Ms.fr m, Ms.hi m, Ms.ac m, Ms.sp m, Ms.en m, Ms.wr m, Ms.op m, Ms.bb m, Ms.tr m, Ms.su m, Ms.lf m, Ms.lk m, Ms.nx m, Ms.bo m, Ms.ra m, Ms.ki m, Ms.nu m, Ms.tv m)) (if_pos c1))
theorem ef_emits {m : Ms} {x : Int32} : Ms.op (m_X12_emits m x) = Ms.op m ∧ Ms.wr (m_X12_emits m x) = Ms.wr m ∧ ∀ j q, Pg j q m → (Ms.wr m = 0 → Pg (j + 1) q m) → Pg j q (m_X12_emits m x) := by
  unfold m_X12_emits
  by_cases w : Ms.wr m = 0
  · rw [if_pos w]
    refine ⟨rfl, rfl, fun j q _ h => ?_⟩
    obtain ⟨a, e, p, c, g1, g2, g3, g4, g5, g6, g7, g8, g9, g10⟩ := h w
    refine ⟨a, e, p, c + 1, g1, g2, g3, g4, g5, g6, ?_, by omega, g9, g10⟩
    show upd (upd (Ms.s m) ((nI 227 + (nI 140 * Ms.ac m)) + (Ms.s m (nI 222 + Ms.ac m).toNatClampNeg)).toNatClampNeg x) (nI 222 + Ms.ac m).toNatClampNeg (((upd (Ms.s m) ((nI 227 + (nI 140 * Ms.ac m)) + (Ms.s m (nI 222 + Ms.ac m).toNatClampNeg)).toNatClampNeg x) (nI 222 + Ms.ac m).toNatClampNeg) + nI 1) (222 + a) = nI (c + 1)
    rw [g1, nI_add, nI_clamp (by omega), g7, pk_mul, nI_add, nI_add, nI_clamp (by omega), pk_us, pk_un (by omega), g7]
    exact nI_add c 1
  · rw [if_neg w]
    exact ⟨rfl, rfl, fun j q h _ => h⟩
theorem ef_emits_r {m r : Ms} {x : Int32} (e : m_X12_emits m x = r) : Ms.op r = Ms.op m ∧ Ms.wr r = Ms.wr m ∧ ∀ j q, Pg j q m → (Ms.wr m = 0 → Pg (j + 1) q m) → Pg j q r := by rw [← e]; exact ef_emits
/-- ahead of a factor: k are free to stand open yet -/
def Pf (k q : Nat) (m : Ms) : Prop := Pg 0 q m ∧ (∃ o, Ms.op m = nI o ∧ o + k = 6) ∧ (k = 0 → ¬ Ms.wr m = 0)
theorem Pf.pe {k q : Nat} {m m' : Ms} (h : Pf k q m) (e : Pe m m') : Pf k q m' := ⟨e.2.2 0 q h.1, by rw [e.1]; exact h.2.1, fun z => e.2.1 (h.2.2 z)⟩
theorem Pf.go1 {k q : Nat} {m m' : Ms} (h : Pf k q m) (w : Ms.wr m = 0) (he : ¬ Ms.en m ≤ Ms.sp m) (h1 : Ms.ac m' = Ms.ac m) (h2 : Ms.en m' = Ms.en m) (h3 : Ms.s m' = Ms.s m) (h4 : Ms.sp m' = Ms.sp m + nI 1) (h5 : Ms.wr m' = Ms.wr m) (h6 : Ms.op m' = Ms.op m) : Pf k (q + 1) m' ∧ Pg 1 (q + 1) m' :=
  have g := h.1.go1 he h1 h2 h3 h4 (by rw [h5]; exact h.1.bw)
  ⟨⟨g.mono (by omega) (by omega), by rw [h6]; exact h.2.1, fun z => absurd w (h.2.2 z)⟩, g⟩
theorem Pf.em {k q : Nat} {m r : Ms} (h : Pf k q m) (g : Pg 1 q m) (e : Ms.op r = Ms.op m ∧ Ms.wr r = Ms.wr m ∧ ∀ j q, Pg j q m → (Ms.wr m = 0 → Pg (j + 1) q m) → Pg j q r) : Pf k q r := ⟨e.2.2 0 q h.1 (fun _ => g), by rw [e.1]; exact h.2.1, by rw [e.2.1]; exact h.2.2⟩
theorem Pf.z {k q : Nat} {m : Ms} (h : Pf k q m) : Pf k 0 m := ⟨h.1.mono (Nat.le_refl _) (Nat.zero_le _), h.2⟩
theorem Pf.g0 {k q : Nat} {m m' : Ms} (h : Pf k q m) (w : Ms.wr m = 0) (he : ¬ Ms.en m ≤ Ms.sp m) (h1 : Ms.ac m' = Ms.ac m) (h2 : Ms.en m' = Ms.en m) (h3 : Ms.s m' = Ms.s m) (h4 : Ms.sp m' = Ms.sp m + nI 1) (h5 : Ms.wr m' = Ms.wr m) (h6 : Ms.op m' = Ms.op m) : Pf k 0 m' := (h.go1 w he h1 h2 h3 h4 h5 h6).1.z
theorem fac_in {k q : Nat} {fac : Ms → Ms} {m1 t r : Ms} (e : fac t = r) (hef : ∀ m, Pf k 0 m → Pe m (fac m)) (h : Pf k q m1) (w : Ms.wr m1 = 0) (he : ¬ Ms.en m1 ≤ Ms.sp m1) (h1 : Ms.ac t = Ms.ac m1) (h2 : Ms.en t = Ms.en m1) (h3 : Ms.s t = Ms.s m1) (h4 : Ms.sp t = Ms.sp m1 + nI 1) (h5 : Ms.wr t = Ms.wr m1) (h6 : Ms.op t = Ms.op m1) : Pf k (q + 1) r ∧ Pg 1 (q + 1) r := by
  have g := h.go1 w he h1 h2 h3 h4 h5 h6
  have p := hef t g.1.z
  rw [e] at p
  exact ⟨g.1.pe p, p.2.2 _ _ g.2⟩
def l_X12_every_4 (m : Ms) (fac : Ms → Ms) (r1 : Ms) : Nat → Ms → Ms
  | 0, _ => m
  | n4 + 1, m1 => if Ms.wr m1 = 0 then (if (m_X12_here (Ms.s m1) (Ms.sp m1) (Ms.en m1)) = nI 38 then (bindv (fac (Ms.th m1, Ms.s m1, Ms.im m1, Ms.fr m1, Ms.hi m1, Ms.ac m1, (Ms.sp m1 + nI 1), Ms.en m1, Ms.wr m1, Ms.op m1, Ms.bb m1, Ms.tr m1, Ms.su m1, Ms.lf m1, Ms.lk m1, Ms.nx m1, Ms.bo m1, Ms.ra m1, Ms.ki m1, Ms.nu m1, Ms.tv m1)) (fun r4 => bindv (m_X12_emits r4 (-nI 2)) (fun r5 => l_X12_every_4 m fac r1 n4 r5))) else m1) else m1
theorem q_X12_every_4 (m : Ms) (fac : Ms → Ms) (r1 : Ms) (n4 : Nat) (m1 : Ms) : l_X12_every_4 m fac r1 (n4 + 1) m1 = (if Ms.wr m1 = 0 then (if (m_X12_here (Ms.s m1) (Ms.sp m1) (Ms.en m1)) = nI 38 then (bindv (fac (Ms.th m1, Ms.s m1, Ms.im m1, Ms.fr m1, Ms.hi m1, Ms.ac m1, (Ms.sp m1 + nI 1), Ms.en m1, Ms.wr m1, Ms.op m1, Ms.bb m1, Ms.tr m1, Ms.su m1, Ms.lf m1, Ms.lk m1, Ms.nx m1, Ms.bo m1, Ms.ra m1, Ms.ki m1, Ms.nu m1, Ms.tv m1)) (fun r4 => bindv (m_X12_emits r4 (-nI 2)) (fun r5 => l_X12_every_4 m fac r1 n4 r5))) else m1) else m1) := rfl
def m_X12_every (m : Ms) (fac : Ms → Ms) : Ms := bindv (fac m) (fun r1 => l_X12_every_4 m fac r1 102 r1)
set_option maxRecDepth 100000 in
set_option maxHeartbeats 4000000 in
theorem c_X12_every (l : Launch) {fv : Value} (hf : FV fv) (m : Ms) (fac : Ms → Ms) {k d : Nat} (hd : 10 ≤ d) (hfac : ∀ m, Pf k 0 m → CT l fv d jX12_factor [.ref 0] (hMs m) (DP none (hMs (fac m)))) (hef : ∀ m, Pf k 0 m → Pe m (fac m)) (hP : Pf k 0 m) : CT l fv (d + 1) jX12_every [.ref 0] (hMs m) (DP none (hMs (m_X12_every m fac))) := by
  refine CT_of [4] mt_X12_every (by decide +kernel) (tab_X12 hf) okX12_every (Nat.le_of_ble_eq_true rfl) ?_
  intro J hJ hD
  refine hJ 0 _ _ _ ?_
  obtain ⟨r1, er1⟩ : ∃ z : Ms, fac m = z := ⟨_, rfl⟩
  have hr1 := hfac m hP
  rw [er1] at hr1
  have h1 := hef _ hP; rw [er1] at h1
  refine CALL_same (r := none) (h1 := hMs r1) (by omega) (hr1) ?_
  have L4 : ∀ (n4 : Nat) (m1 : Ms), (∃ q : Nat, n4 + q = 102 ∧ Pf k q m1) → m_X12_every m fac = l_X12_every_4 m fac r1 n4 m1 → J 4 [(0, .ref 0)] [] (hMs m1) := by
    intro n4
    induction n4 with
    | zero =>
      intro m1 hv
      obtain ⟨q, h1, h2⟩ := hv
      have := h2.1.q
      omega
    | succ n4 ih4 =>
      intro m1 hv e4
      obtain ⟨q, h1, h2⟩ := hv
      have hv2 := h2
      refine hJ 4 _ _ _ ?_
      refine And.intro (fun c2 => ?_) (fun c2 => ?_)
      · skip
        refine hJ 43 _ _ _ ?_
        exact And.intro rfl (DPs (F := (fun z => hMs z)) (s' := m1) (e4.trans ((q_X12_every_4 m fac r1 n4 m1).trans (if_neg c2))))
      · skip
        have w2 := c2
        refine CALL_same (r := some (.int (m_X12_here (Ms.s m1) (Ms.sp m1) (Ms.en m1)))) (h1 := hMs m1) (by omega) (c_X12_here l hf m1 h2.1.ix) ?_
        refine And.intro (fun c3 => ?_) (fun c3 => ?_)
        · skip
          refine hJ 43 _ _ _ ?_
          exact And.intro rfl (DPs (F := (fun z => hMs z)) (s' := m1) (e4.trans ((q_X12_every_4 m fac r1 n4 m1).trans ((if_pos c2).trans (if_neg c3)))))
        · skip
          have he := here_lt c3 (by decide)
          refine And.intro True.intro ?_
          obtain ⟨r4, er4⟩ : ∃ z : Ms, fac (Ms.th m1, Ms.s m1, Ms.im m1, Ms.fr m1, Ms.hi m1, Ms.ac m1, (Ms.sp m1 + nI 1), Ms.en m1, Ms.wr m1, Ms.op m1, Ms.bb m1, Ms.tr m1, Ms.su m1, Ms.lf m1, Ms.lk m1, Ms.nx m1, Ms.bo m1, Ms.ra m1, Ms.ki m1, Ms.nu m1, Ms.tv m1) = z := ⟨_, rfl⟩
          have hr4 := hfac (Ms.th m1, Ms.s m1, Ms.im m1, Ms.fr m1, Ms.hi m1, Ms.ac m1, (Ms.sp m1 + nI 1), Ms.en m1, Ms.wr m1, Ms.op m1, Ms.bb m1, Ms.tr m1, Ms.su m1, Ms.lf m1, Ms.lk m1, Ms.nx m1, Ms.bo m1, Ms.ra m1, Ms.ki m1, Ms.nu m1, Ms.tv m1) (by exact Pf.g0 hv2 w2 he rfl rfl rfl rfl rfl rfl)
          rw [er4] at hr4
          have h8 := fac_in (fac := fac) er4 hef hv2 w2 he rfl rfl rfl rfl rfl rfl
          refine CALL_same (r := none) (h1 := hMs r4) (by omega) (hr4) ?_
          obtain ⟨r5, er5⟩ : ∃ z : Ms, m_X12_emits r4 (-nI 2) = z := ⟨_, rfl⟩
          have hr5 := c_X12_emits l hf r4 (-nI 2) h8.1.1.z
          rw [er5] at hr5
          have h9 := h8.1.em h8.2 (ef_emits_r er5)
          refine CALL_same (r := none) (h1 := hMs r5) (by omega) (hr5) ?_
          exact hD _ _ [0] _ _ (ih4 _ ⟨q + 1, by omega, h9⟩ (e4.trans ((q_X12_every_4 m fac r1 n4 m1).trans ((if_pos c2).trans ((if_pos c3).trans ((bindv_eq er4).trans (bindv_eq er5)))))))
  exact hD _ _ [0] _ _ (L4 102 _ ⟨0, rfl, hP.pe h1⟩ (bindv_eq er1))
theorem ef_every_l (m : Ms) (fac : Ms → Ms) (x : Ms) {k : Nat} (hef : ∀ m, Pf k 0 m → Pe m (fac m)) : ∀ (n q : Nat) (m1 : Ms), n + q = 102 → Pf k q m1 → Pe m1 (l_X12_every_4 m fac x n m1) := by
  intro n
  induction n with
  | zero => intro q m1 h1 h2; have := h2.1.q; omega
  | succ n ih =>
    intro q m1 h1 h2
    rw [q_X12_every_4]
    by_cases w : Ms.wr m1 = 0
    · rw [if_pos w]
      by_cases c : m_X12_here (Ms.s m1) (Ms.sp m1) (Ms.en m1) = nI 38
      · rw [if_pos c]
        have he := here_lt c (by decide)
        have h8 := fac_in (fac := fac) rfl hef h2 w he rfl rfl rfl rfl rfl rfl (t := (Ms.th m1, Ms.s m1, Ms.im m1, Ms.fr m1, Ms.hi m1, Ms.ac m1, (Ms.sp m1 + nI 1), Ms.en m1, Ms.wr m1, Ms.op m1, Ms.bb m1, Ms.tr m1, Ms.su m1, Ms.lf m1, Ms.lk m1, Ms.nx m1, Ms.bo m1, Ms.ra m1, Ms.ki m1, Ms.nu m1, Ms.tv m1))
        have g := h2.go1 w he rfl rfl rfl rfl rfl rfl (m' := (Ms.th m1, Ms.s m1, Ms.im m1, Ms.fr m1, Ms.hi m1, Ms.ac m1, (Ms.sp m1 + nI 1), Ms.en m1, Ms.wr m1, Ms.op m1, Ms.bb m1, Ms.tr m1, Ms.su m1, Ms.lf m1, Ms.lk m1, Ms.nx m1, Ms.bo m1, Ms.ra m1, Ms.ki m1, Ms.nu m1, Ms.tv m1))
        have p := hef _ g.1.z
        have h9 := h8.1.em h8.2 (ef_emits (x := (-nI 2)))
        refine Pe.tr ?_ (ih (q + 1) _ (by omega) h9)
        refine ⟨ef_emits.1.trans p.1, fun z => absurd w z, fun j q h => ?_⟩
        have h10 := p.2.2 (j + 1) (q + 1) (h.go1 he rfl rfl rfl rfl h.bw)
        exact (ef_emits.2.2 j q (h10.mono (by omega) (by omega)) (fun _ => h10.mono (by omega) (by omega)))
      · rw [if_neg c]; exact Pe.rf m1
    · rw [if_neg w]; exact Pe.rf m1
theorem ef_every {fac : Ms → Ms} {k : Nat} (hef : ∀ m, Pf k 0 m → Pe m (fac m)) : ∀ m, Pf k 0 m → Pe m (m_X12_every m fac) := fun m h => (hef m h).tr (ef_every_l m fac _ hef 102 0 _ rfl (h.pe (hef m h)))
def l_X12_some_4 (m : Ms) (fac : Ms → Ms) (r1 : Ms) : Nat → Ms → Ms
  | 0, _ => m
  | n4 + 1, m1 => if Ms.wr m1 = 0 then (if (m_X12_here (Ms.s m1) (Ms.sp m1) (Ms.en m1)) = nI 124 then (bindv (m_X12_every (Ms.th m1, Ms.s m1, Ms.im m1, Ms.fr m1, Ms.hi m1, Ms.ac m1, (Ms.sp m1 + nI 1), Ms.en m1, Ms.wr m1, Ms.op m1, Ms.bb m1, Ms.tr m1, Ms.su m1, Ms.lf m1, Ms.lk m1, Ms.nx m1, Ms.bo m1, Ms.ra m1, Ms.ki m1, Ms.nu m1, Ms.tv m1) fac) (fun r4 => bindv (m_X12_emits r4 (-nI 3)) (fun r5 => l_X12_some_4 m fac r1 n4 r5))) else m1) else m1
theorem q_X12_some_4 (m : Ms) (fac : Ms → Ms) (r1 : Ms) (n4 : Nat) (m1 : Ms) : l_X12_some_4 m fac r1 (n4 + 1) m1 = (if Ms.wr m1 = 0 then (if (m_X12_here (Ms.s m1) (Ms.sp m1) (Ms.en m1)) = nI 124 then (bindv (m_X12_every (Ms.th m1, Ms.s m1, Ms.im m1, Ms.fr m1, Ms.hi m1, Ms.ac m1, (Ms.sp m1 + nI 1), Ms.en m1, Ms.wr m1, Ms.op m1, Ms.bb m1, Ms.tr m1, Ms.su m1, Ms.lf m1, Ms.lk m1, Ms.nx m1, Ms.bo m1, Ms.ra m1, Ms.ki m1, Ms.nu m1, Ms.tv m1) fac) (fun r4 => bindv (m_X12_emits r4 (-nI 3)) (fun r5 => l_X12_some_4 m fac r1 n4 r5))) else m1) else m1) := rfl
def m_X12_some (m : Ms) (fac : Ms → Ms) : Ms := bindv (m_X12_every m fac) (fun r1 => l_X12_some_4 m fac r1 102 r1)
set_option maxRecDepth 100000 in
set_option maxHeartbeats 4000000 in
theorem c_X12_some (l : Launch) {fv : Value} (hf : FV fv) (m : Ms) (fac : Ms → Ms) {k d : Nat} (hd : 10 ≤ d) (hfac : ∀ m, Pf k 0 m → CT l fv d jX12_factor [.ref 0] (hMs m) (DP none (hMs (fac m)))) (hef : ∀ m, Pf k 0 m → Pe m (fac m)) (hP : Pf k 0 m) : CT l fv (d + 2) jX12_some [.ref 0] (hMs m) (DP none (hMs (m_X12_some m fac))) := by
  refine CT_of [4] mt_X12_some (by decide +kernel) (tab_X12 hf) okX12_some (Nat.le_of_ble_eq_true rfl) ?_
  intro J hJ hD
  refine hJ 0 _ _ _ ?_
  obtain ⟨r1, er1⟩ : ∃ z : Ms, m_X12_every m fac = z := ⟨_, rfl⟩
  have hr1 := c_X12_every l hf m fac hd hfac hef hP
  rw [er1] at hr1
  have h1 := (ef_every hef) _ hP; rw [er1] at h1
  refine CALL_same (r := none) (h1 := hMs r1) (by omega) (hr1) ?_
  have L4 : ∀ (n4 : Nat) (m1 : Ms), (∃ q : Nat, n4 + q = 102 ∧ Pf k q m1) → m_X12_some m fac = l_X12_some_4 m fac r1 n4 m1 → J 4 [(0, .ref 0)] [] (hMs m1) := by
    intro n4
    induction n4 with
    | zero =>
      intro m1 hv
      obtain ⟨q, h1, h2⟩ := hv
      have := h2.1.q
      omega
    | succ n4 ih4 =>
      intro m1 hv e4
      obtain ⟨q, h1, h2⟩ := hv
      have hv2 := h2
      refine hJ 4 _ _ _ ?_
      refine And.intro (fun c2 => ?_) (fun c2 => ?_)
      · skip
        refine hJ 43 _ _ _ ?_
        exact And.intro rfl (DPs (F := (fun z => hMs z)) (s' := m1) (e4.trans ((q_X12_some_4 m fac r1 n4 m1).trans (if_neg c2))))
      · skip
        have w2 := c2
        refine CALL_same (r := some (.int (m_X12_here (Ms.s m1) (Ms.sp m1) (Ms.en m1)))) (h1 := hMs m1) (by omega) (c_X12_here l hf m1 h2.1.ix) ?_
        refine And.intro (fun c3 => ?_) (fun c3 => ?_)
        · skip
          refine hJ 43 _ _ _ ?_
          exact And.intro rfl (DPs (F := (fun z => hMs z)) (s' := m1) (e4.trans ((q_X12_some_4 m fac r1 n4 m1).trans ((if_pos c2).trans (if_neg c3)))))
        · skip
          have he := here_lt c3 (by decide)
          refine And.intro True.intro ?_
          obtain ⟨r4, er4⟩ : ∃ z : Ms, m_X12_every (Ms.th m1, Ms.s m1, Ms.im m1, Ms.fr m1, Ms.hi m1, Ms.ac m1, (Ms.sp m1 + nI 1), Ms.en m1, Ms.wr m1, Ms.op m1, Ms.bb m1, Ms.tr m1, Ms.su m1, Ms.lf m1, Ms.lk m1, Ms.nx m1, Ms.bo m1, Ms.ra m1, Ms.ki m1, Ms.nu m1, Ms.tv m1) fac = z := ⟨_, rfl⟩
          have hr4 := c_X12_every l hf (Ms.th m1, Ms.s m1, Ms.im m1, Ms.fr m1, Ms.hi m1, Ms.ac m1, (Ms.sp m1 + nI 1), Ms.en m1, Ms.wr m1, Ms.op m1, Ms.bb m1, Ms.tr m1, Ms.su m1, Ms.lf m1, Ms.lk m1, Ms.nx m1, Ms.bo m1, Ms.ra m1, Ms.ki m1, Ms.nu m1, Ms.tv m1) fac hd hfac hef (by exact Pf.g0 hv2 w2 he rfl rfl rfl rfl rfl rfl)
          rw [er4] at hr4
          have h8 := fac_in (fac := (fun m => m_X12_every m fac)) er4 (ef_every hef) hv2 w2 he rfl rfl rfl rfl rfl rfl
          refine CALL_same (r := none) (h1 := hMs r4) (by omega) (hr4) ?_
          obtain ⟨r5, er5⟩ : ∃ z : Ms, m_X12_emits r4 (-nI 3) = z := ⟨_, rfl⟩
          have hr5 := c_X12_emits l hf r4 (-nI 3) h8.1.1.z
          rw [er5] at hr5
          have h9 := h8.1.em h8.2 (ef_emits_r er5)
          refine CALL_same (r := none) (h1 := hMs r5) (by omega) (hr5) ?_
          exact hD _ _ [0] _ _ (ih4 _ ⟨q + 1, by omega, h9⟩ (e4.trans ((q_X12_some_4 m fac r1 n4 m1).trans ((if_pos c2).trans ((if_pos c3).trans ((bindv_eq er4).trans (bindv_eq er5)))))))
  exact hD _ _ [0] _ _ (L4 102 _ ⟨0, rfl, hP.pe h1⟩ (bindv_eq er1))
theorem ef_some_l (m : Ms) (fac : Ms → Ms) (x : Ms) {k : Nat} (hef : ∀ m, Pf k 0 m → Pe m (fac m)) : ∀ (n q : Nat) (m1 : Ms), n + q = 102 → Pf k q m1 → Pe m1 (l_X12_some_4 m fac x n m1) := by
  intro n
  induction n with
  | zero => intro q m1 h1 h2; have := h2.1.q; omega
  | succ n ih =>
    intro q m1 h1 h2
    rw [q_X12_some_4]
    by_cases w : Ms.wr m1 = 0
    · rw [if_pos w]
      by_cases c : m_X12_here (Ms.s m1) (Ms.sp m1) (Ms.en m1) = nI 124
      · rw [if_pos c]
        have he := here_lt c (by decide)
        have h8 := fac_in (fac := (fun m => m_X12_every m fac)) rfl (ef_every hef) h2 w he rfl rfl rfl rfl rfl rfl (t := (Ms.th m1, Ms.s m1, Ms.im m1, Ms.fr m1, Ms.hi m1, Ms.ac m1, (Ms.sp m1 + nI 1), Ms.en m1, Ms.wr m1, Ms.op m1, Ms.bb m1, Ms.tr m1, Ms.su m1, Ms.lf m1, Ms.lk m1, Ms.nx m1, Ms.bo m1, Ms.ra m1, Ms.ki m1, Ms.nu m1, Ms.tv m1))
        have g := h2.go1 w he rfl rfl rfl rfl rfl rfl (m' := (Ms.th m1, Ms.s m1, Ms.im m1, Ms.fr m1, Ms.hi m1, Ms.ac m1, (Ms.sp m1 + nI 1), Ms.en m1, Ms.wr m1, Ms.op m1, Ms.bb m1, Ms.tr m1, Ms.su m1, Ms.lf m1, Ms.lk m1, Ms.nx m1, Ms.bo m1, Ms.ra m1, Ms.ki m1, Ms.nu m1, Ms.tv m1))
        have p := (ef_every hef) _ g.1.z
        have h9 := h8.1.em h8.2 (ef_emits (x := (-nI 3)))
        refine Pe.tr ?_ (ih (q + 1) _ (by omega) h9)
        refine ⟨ef_emits.1.trans p.1, fun z => absurd w z, fun j q h => ?_⟩
        have h10 := p.2.2 (j + 1) (q + 1) (h.go1 he rfl rfl rfl rfl h.bw)
        exact (ef_emits.2.2 j q (h10.mono (by omega) (by omega)) (fun _ => h10.mono (by omega) (by omega)))
      · rw [if_neg c]; exact Pe.rf m1
    · rw [if_neg w]; exact Pe.rf m1
theorem ef_some {fac : Ms → Ms} {k : Nat} (hef : ∀ m, Pf k 0 m → Pe m (fac m)) : ∀ m, Pf k 0 m → Pe m (m_X12_some m fac) := fun m h => ((ef_every hef) m h).tr (ef_some_l m fac _ hef 102 0 _ rfl (h.pe ((ef_every hef) m h)))
theorem Pf.in1 {k q : Nat} {m m' : Ms} (h : Pf (k + 1) q m) (ho : ¬ Ms.op m = nI 5) (he : ¬ Ms.en m ≤ Ms.sp m) (h1 : Ms.ac m' = Ms.ac m) (h2 : Ms.en m' = Ms.en m) (h3 : Ms.s m' = Ms.s m) (h4 : Ms.sp m' = Ms.sp m + nI 1) (h5 : Ms.wr m' = nI 0) (h6 : Ms.op m' = Ms.op m + nI 1) : Pf k 0 m' := by
  obtain ⟨g, ⟨o, g1, g2⟩, -⟩ := h
  refine ⟨g.g0 he h1 h2 h3 h4 (by rw [h5]; exact Or.inl rfl), ⟨o + 1, by rw [h6, g1]; exact nI_add o 1, by omega⟩, fun z => ?_⟩
  subst z
  exact absurd (by rw [g1, show o = 5 by omega]) ho
theorem Pf.in0 {k q : Nat} {m m' : Ms} (h : Pf (k + 1) q m) (ho : Ms.op m = nI 5) (h1 : Ms.ac m' = Ms.ac m) (h2 : Ms.en m' = Ms.en m) (h3 : Ms.s m' = Ms.s m) (h4 : Ms.sp m' = Ms.sp m + nI 0) (h5 : Ms.wr m' = nI 1) (h6 : Ms.op m' = Ms.op m + nI 1) : Pf k 0 m' := by
  obtain ⟨g, ⟨o, g1, g2⟩, -⟩ := h
  exact ⟨(g.go h1 h2 h3 (Or.inl h4) (by rw [h5]; exact Or.inr rfl)).z, ⟨o + 1, by rw [h6, g1]; exact nI_add o 1, by omega⟩, fun _ => by rw [h5]; decide⟩
theorem fac_r {k : Nat} {fac : Ms → Ms} {t r : Ms} (e : fac t = r) (hef : ∀ m, Pf k 0 m → Pe m (fac m)) (h : Pf k 0 t) : Pf k 0 r ∧ Pe t r := by
  have p := hef t h
  rw [e] at p
  exact ⟨h.pe p, p⟩
def m_X12_factor (m : Ms) (fac : Ms → Ms) : Ms := if Ms.wr m = 0 then (if (m_X12_here (Ms.s m) (Ms.sp m) (Ms.en m)) = nI 33 then (if Ms.op m = nI 5 then (bindv (fac (Ms.th m, Ms.s m, Ms.im m, Ms.fr m, Ms.hi m, Ms.ac m, (Ms.sp m + nI 0), Ms.en m, nI 1, (Ms.op m + nI 1), Ms.bb m, Ms.tr m, Ms.su m, Ms.lf m, Ms.lk m, Ms.nx m, Ms.bo m, Ms.ra m, Ms.ki m, Ms.nu m, Ms.tv m)) (fun r10 => bindv (m_X12_emits r10 (-nI 1)) (fun r11 => (Ms.th r11, Ms.s r11, Ms.im r11, Ms.fr r11, Ms.hi r11, Ms.ac r11, Ms.sp r11, Ms.en r11, Ms.wr r11, (Ms.op r11 - nI 1), Ms.bb r11, Ms.tr r11, Ms.su r11, Ms.lf r11, Ms.lk r11, Ms.nx r11, Ms.bo r11, Ms.ra r11, Ms.ki r11, Ms.nu r11, Ms.tv r11)))) else (bindv (fac (Ms.th m, Ms.s m, Ms.im m, Ms.fr m, Ms.hi m, Ms.ac m, (Ms.sp m + nI 1), Ms.en m, nI 0, (Ms.op m + nI 1), Ms.bb m, Ms.tr m, Ms.su m, Ms.lf m, Ms.lk m, Ms.nx m, Ms.bo m, Ms.ra m, Ms.ki m, Ms.nu m, Ms.tv m)) (fun r6 => bindv (m_X12_emits r6 (-nI 1)) (fun r7 => (Ms.th r7, Ms.s r7, Ms.im r7, Ms.fr r7, Ms.hi r7, Ms.ac r7, Ms.sp r7, Ms.en r7, Ms.wr r7, (Ms.op r7 - nI 1), Ms.bb r7, Ms.tr r7, Ms.su r7, Ms.lf r7, Ms.lk r7, Ms.nx r7, Ms.bo r7, Ms.ra r7, Ms.ki r7, Ms.nu r7, Ms.tv r7))))) else (if (m_X12_here (Ms.s m) (Ms.sp m) (Ms.en m)) = nI 40 then (if Ms.op m = nI 5 then (bindv (m_X12_some (Ms.th m, Ms.s m, Ms.im m, Ms.fr m, Ms.hi m, Ms.ac m, (Ms.sp m + nI 0), Ms.en m, nI 1, (Ms.op m + nI 1), Ms.bb m, Ms.tr m, Ms.su m, Ms.lf m, Ms.lk m, Ms.nx m, Ms.bo m, Ms.ra m, Ms.ki m, Ms.nu m, Ms.tv m) fac) (fun r36 => bindv (m_X12_must r36 (nI 41)) (fun r37 => (Ms.th r37, Ms.s r37, Ms.im r37, Ms.fr r37, Ms.hi r37, Ms.ac r37, Ms.sp r37, Ms.en r37, Ms.wr r37, (Ms.op r37 - nI 1), Ms.bb r37, Ms.tr r37, Ms.su r37, Ms.lf r37, Ms.lk r37, Ms.nx r37, Ms.bo r37, Ms.ra r37, Ms.ki r37, Ms.nu r37, Ms.tv r37)))) else (bindv (m_X12_some (Ms.th m, Ms.s m, Ms.im m, Ms.fr m, Ms.hi m, Ms.ac m, (Ms.sp m + nI 1), Ms.en m, nI 0, (Ms.op m + nI 1), Ms.bb m, Ms.tr m, Ms.su m, Ms.lf m, Ms.lk m, Ms.nx m, Ms.bo m, Ms.ra m, Ms.ki m, Ms.nu m, Ms.tv m) fac) (fun r32 => bindv (m_X12_must r32 (nI 41)) (fun r33 => (Ms.th r33, Ms.s r33, Ms.im r33, Ms.fr r33, Ms.hi r33, Ms.ac r33, Ms.sp r33, Ms.en r33, Ms.wr r33, (Ms.op r33 - nI 1), Ms.bb r33, Ms.tr r33, Ms.su r33, Ms.lf r33, Ms.lk r33, Ms.nx r33, Ms.bo r33, Ms.ra r33, Ms.ki r33, Ms.nu r33, Ms.tv r33))))) else (bindv (m_X12_among_1004 m) (fun r13 => if r13.1 = (-nI 1) then (bindv (m_X12_figures (Ms.th r13.2, Ms.s r13.2, Ms.im r13.2, Ms.fr r13.2, Ms.hi r13.2, Ms.ac r13.2, Ms.sp r13.2, Ms.en r13.2, nI 1, Ms.op r13.2, Ms.bb r13.2, Ms.tr r13.2, Ms.su r13.2, Ms.lf r13.2, Ms.lk r13.2, Ms.nx r13.2, Ms.bo r13.2, Ms.ra r13.2, Ms.ki r13.2, Ms.nu r13.2, Ms.tv r13.2)) (fun r27 => bindv (m_X12_emits r27.2 ((r13.1 + (nI 8 * nI 0)) + (nI 32 * r27.1))) (fun r28 => r28))) else (bindv (m_X12_among_1005 (Ms.th r13.2, Ms.s r13.2, Ms.im r13.2, Ms.fr r13.2, Ms.hi r13.2, Ms.ac r13.2, Ms.sp r13.2, Ms.en r13.2, nI 0, Ms.op r13.2, Ms.bb r13.2, Ms.tr r13.2, Ms.su r13.2, Ms.lf r13.2, Ms.lk r13.2, Ms.nx r13.2, Ms.bo r13.2, Ms.ra r13.2, Ms.ki r13.2, Ms.nu r13.2, Ms.tv r13.2)) (fun r16 => if Ms.wr r16.2 = 0 then (if r16.1 = (-nI 1) then (bindv (m_X12_figures (Ms.th r16.2, Ms.s r16.2, Ms.im r16.2, Ms.fr r16.2, Ms.hi r16.2, Ms.ac r16.2, Ms.sp r16.2, Ms.en r16.2, nI 1, Ms.op r16.2, Ms.bb r16.2, Ms.tr r16.2, Ms.su r16.2, Ms.lf r16.2, Ms.lk r16.2, Ms.nx r16.2, Ms.bo r16.2, Ms.ra r16.2, Ms.ki r16.2, Ms.nu r16.2, Ms.tv r16.2)) (fun r23 => bindv (m_X12_emits r23.2 ((r13.1 + (nI 8 * r16.1)) + (nI 32 * r23.1))) (fun r24 => r24))) else (bindv (m_X12_figures (Ms.th r16.2, Ms.s r16.2, Ms.im r16.2, Ms.fr r16.2, Ms.hi r16.2, Ms.ac r16.2, Ms.sp r16.2, Ms.en r16.2, nI 0, Ms.op r16.2, Ms.bb r16.2, Ms.tr r16.2, Ms.su r16.2, Ms.lf r16.2, Ms.lk r16.2, Ms.nx r16.2, Ms.bo r16.2, Ms.ra r16.2, Ms.ki r16.2, Ms.nu r16.2, Ms.tv r16.2)) (fun r21 => bindv (m_X12_emits r21.2 ((r13.1 + (nI 8 * r16.1)) + (nI 32 * r21.1))) (fun r22 => r22)))) else (bindv (m_X12_figures (Ms.th r16.2, Ms.s r16.2, Ms.im r16.2, Ms.fr r16.2, Ms.hi r16.2, Ms.ac r16.2, Ms.sp r16.2, Ms.en r16.2, nI 1, Ms.op r16.2, Ms.bb r16.2, Ms.tr r16.2, Ms.su r16.2, Ms.lf r16.2, Ms.lk r16.2, Ms.nx r16.2, Ms.bo r16.2, Ms.ra r16.2, Ms.ki r16.2, Ms.nu r16.2, Ms.tv r16.2)) (fun r18 => bindv (m_X12_emits r18.2 ((r13.1 + (nI 8 * r16.1)) + (nI 32 * r18.1))) (fun r19 => r19))))))))) else m
set_option maxRecDepth 100000 in
set_option maxHeartbeats 4000000 in
theorem c_X12_factor (l : Launch) {fv : Value} (hf : FV fv) (m : Ms) (fac : Ms → Ms) {k d : Nat} (hd : 10 ≤ d) (hfac : ∀ m, Pf k 0 m → CT l fv d jX12_factor [.ref 0] (hMs m) (DP none (hMs (fac m)))) (hef : ∀ m, Pf k 0 m → Pe m (fac m)) (hP : Pf (k + 1) 0 m) : CT l fv (d + 3) jX12_factor [.ref 0] (hMs m) (DP none (hMs (m_X12_factor m fac))) := by
  refine CT_of [] mt_X12_factor (by decide +kernel) (tab_X12 hf) okX12_factor (Nat.le_of_ble_eq_true rfl) ?_
  intro J hJ hD
  refine hJ 0 _ _ _ ?_
  refine And.intro (fun c1 => ?_) (fun c1 => ?_)
  · skip
    have hw0 : Ms.wr m = 0 := c1
    refine hJ 8 _ _ _ ?_
    refine CALL_same (r := some (.int (m_X12_here (Ms.s m) (Ms.sp m) (Ms.en m)))) (h1 := hMs m) (by omega) (c_X12_here l hf m hP.1.ix) ?_
    refine And.intro (fun c2 => ?_) (fun c2 => ?_)
    · skip
      have he := here_lt c2 (by decide)
      refine hJ 25 _ _ _ ?_
      refine And.intro (fun c3 => ?_) (fun c3 => ?_)
      · skip
        have ho : ¬ Ms.op m = nI 5 := c3
        refine hJ 38 _ _ _ ?_
        refine And.intro (Or.inl rfl) ?_
        refine And.intro True.intro ?_
        refine And.intro (fun c4 => ?_) (fun c4 => absurd (by decide) c4)
        refine hJ 68 _ _ _ ?_
        refine And.intro True.intro ?_
        refine And.intro (fun c5 => absurd c2 c5) (fun c5 => ?_)
        obtain ⟨r6, er6⟩ : ∃ z : Ms, fac (Ms.th m, Ms.s m, Ms.im m, Ms.fr m, Ms.hi m, Ms.ac m, (Ms.sp m + nI 1), Ms.en m, nI 0, (Ms.op m + nI 1), Ms.bb m, Ms.tr m, Ms.su m, Ms.lf m, Ms.lk m, Ms.nx m, Ms.bo m, Ms.ra m, Ms.ki m, Ms.nu m, Ms.tv m) = z := ⟨_, rfl⟩
        have hr6 := hfac (Ms.th m, Ms.s m, Ms.im m, Ms.fr m, Ms.hi m, Ms.ac m, (Ms.sp m + nI 1), Ms.en m, nI 0, (Ms.op m + nI 1), Ms.bb m, Ms.tr m, Ms.su m, Ms.lf m, Ms.lk m, Ms.nx m, Ms.bo m, Ms.ra m, Ms.ki m, Ms.nu m, Ms.tv m) (by first | exact Pf.in1 hP ho he rfl rfl rfl rfl rfl rfl | exact Pf.in0 hP ho rfl rfl rfl rfl rfl rfl)
        rw [er6] at hr6
        have h1 := fac_r er6 hef (by first | exact Pf.in1 hP ho he rfl rfl rfl rfl rfl rfl | exact Pf.in0 hP ho rfl rfl rfl rfl rfl rfl)
        refine CALL_same (r := none) (h1 := hMs r6) (by omega) (hr6) ?_
        obtain ⟨r7, er7⟩ : ∃ z : Ms, m_X12_emits r6 (-nI 1) = z := ⟨_, rfl⟩
        have hr7 := c_X12_emits l hf r6 (-nI 1) h1.1.1.z
        rw [er7] at hr7
        refine CALL_same (r := none) (h1 := hMs r7) (by omega) (hr7) ?_
        refine hJ 101 _ _ _ ?_
        refine And.intro True.intro ?_
        exact And.intro rfl (DPs (F := (fun z => hMs z)) (s' := (Ms.th r7, Ms.s r7, Ms.im r7, Ms.fr r7, Ms.hi r7, Ms.ac r7, Ms.sp r7, Ms.en r7, Ms.wr r7, (Ms.op r7 - nI 1), Ms.bb r7, Ms.tr r7, Ms.su r7, Ms.lf r7, Ms.lk r7, Ms.nx r7, Ms.bo r7, Ms.ra r7, Ms.ki r7, Ms.nu r7, Ms.tv r7)) ((if_pos c1).trans ((if_pos c2).trans ((if_neg c3).trans ((bindv_eq er6).trans (bindv_eq er7))))))
      · skip
        have ho : Ms.op m = nI 5 := c3
        refine hJ 39 _ _ _ ?_
        refine And.intro (Or.inr rfl) ?_
        refine And.intro True.intro ?_
        refine And.intro (fun c8 => absurd c8 (by decide)) (fun c8 => ?_)
        refine hJ 69 _ _ _ ?_
        refine And.intro True.intro ?_
        refine And.intro (fun c9 => absurd c2 c9) (fun c9 => ?_)
        obtain ⟨r10, er10⟩ : ∃ z : Ms, fac (Ms.th m, Ms.s m, Ms.im m, Ms.fr m, Ms.hi m, Ms.ac m, (Ms.sp m + nI 0), Ms.en m, nI 1, (Ms.op m + nI 1), Ms.bb m, Ms.tr m, Ms.su m, Ms.lf m, Ms.lk m, Ms.nx m, Ms.bo m, Ms.ra m, Ms.ki m, Ms.nu m, Ms.tv m) = z := ⟨_, rfl⟩
        have hr10 := hfac (Ms.th m, Ms.s m, Ms.im m, Ms.fr m, Ms.hi m, Ms.ac m, (Ms.sp m + nI 0), Ms.en m, nI 1, (Ms.op m + nI 1), Ms.bb m, Ms.tr m, Ms.su m, Ms.lf m, Ms.lk m, Ms.nx m, Ms.bo m, Ms.ra m, Ms.ki m, Ms.nu m, Ms.tv m) (by first | exact Pf.in1 hP ho he rfl rfl rfl rfl rfl rfl | exact Pf.in0 hP ho rfl rfl rfl rfl rfl rfl)
        rw [er10] at hr10
        have h1 := fac_r er10 hef (by first | exact Pf.in1 hP ho he rfl rfl rfl rfl rfl rfl | exact Pf.in0 hP ho rfl rfl rfl rfl rfl rfl)
        refine CALL_same (r := none) (h1 := hMs r10) (by omega) (hr10) ?_
        obtain ⟨r11, er11⟩ : ∃ z : Ms, m_X12_emits r10 (-nI 1) = z := ⟨_, rfl⟩
        have hr11 := c_X12_emits l hf r10 (-nI 1) h1.1.1.z
        rw [er11] at hr11
        refine CALL_same (r := none) (h1 := hMs r11) (by omega) (hr11) ?_
        refine hJ 101 _ _ _ ?_
        refine And.intro True.intro ?_
        exact And.intro rfl (DPs (F := (fun z => hMs z)) (s' := (Ms.th r11, Ms.s r11, Ms.im r11, Ms.fr r11, Ms.hi r11, Ms.ac r11, Ms.sp r11, Ms.en r11, Ms.wr r11, (Ms.op r11 - nI 1), Ms.bb r11, Ms.tr r11, Ms.su r11, Ms.lf r11, Ms.lk r11, Ms.nx r11, Ms.bo r11, Ms.ra r11, Ms.ki r11, Ms.nu r11, Ms.tv r11)) ((if_pos c1).trans ((if_pos c2).trans ((if_pos c3).trans ((bindv_eq er10).trans (bindv_eq er11))))))
    · skip
      refine And.intro (fun c12 => ?_) (fun c12 => ?_)
      · skip
        refine hJ 112 _ _ _ ?_
        obtain ⟨r13, er13⟩ : ∃ z : Int32 × Ms, m_X12_among_1004 m = z := ⟨_, rfl⟩
        have hr13 := c_X12_among_1004 l hf m hP.1.ix
        rw [er13] at hr13
        have a1 := ef_among_1004_r er13
        have b1 := a1.1.2.2 0 0 hP.1
        refine CALL_same (r := some (.int r13.1)) (h1 := hMs r13.2) (by omega) (hr13) ?_
        refine And.intro (fun c14 => ?_) (fun c14 => ?_)
        · skip
          refine hJ 129 _ _ _ ?_
          refine And.intro (Or.inl rfl) ?_
          refine And.intro (fun c15 => ?_) (fun c15 => absurd (by decide) c15)
          refine hJ 144 _ _ _ ?_
          obtain ⟨r16, er16⟩ : ∃ z : Int32 × Ms, m_X12_among_1005 (Ms.th r13.2, Ms.s r13.2, Ms.im r13.2, Ms.fr r13.2, Ms.hi r13.2, Ms.ac r13.2, Ms.sp r13.2, Ms.en r13.2, nI 0, Ms.op r13.2, Ms.bb r13.2, Ms.tr r13.2, Ms.su r13.2, Ms.lf r13.2, Ms.lk r13.2, Ms.nx r13.2, Ms.bo r13.2, Ms.ra r13.2, Ms.ki r13.2, Ms.nu r13.2, Ms.tv r13.2) = z := ⟨_, rfl⟩
          have hr16 := c_X12_among_1005 l hf (Ms.th r13.2, Ms.s r13.2, Ms.im r13.2, Ms.fr r13.2, Ms.hi r13.2, Ms.ac r13.2, Ms.sp r13.2, Ms.en r13.2, nI 0, Ms.op r13.2, Ms.bb r13.2, Ms.tr r13.2, Ms.su r13.2, Ms.lf r13.2, Ms.lk r13.2, Ms.nx r13.2, Ms.bo r13.2, Ms.ra r13.2, Ms.ki r13.2, Ms.nu r13.2, Ms.tv r13.2) b1.ix
          rw [er16] at hr16
          have a2 := ef_among_1005_r er16
          have b2 := a2.1.2.2 0 0 (b1.go rfl rfl rfl (Or.inr rfl) (Or.inl rfl))
          refine CALL_same (r := some (.int r16.1)) (h1 := hMs r16.2) (by omega) (hr16) ?_
          refine And.intro (fun c17 => ?_) (fun c17 => ?_)
          · skip
            refine hJ 164 _ _ _ ?_
            refine hJ 169 _ _ _ ?_
            refine And.intro (Or.inr rfl) ?_
            obtain ⟨r18, er18⟩ : ∃ z : Int32 × Ms, m_X12_figures (Ms.th r16.2, Ms.s r16.2, Ms.im r16.2, Ms.fr r16.2, Ms.hi r16.2, Ms.ac r16.2, Ms.sp r16.2, Ms.en r16.2, nI 1, Ms.op r16.2, Ms.bb r16.2, Ms.tr r16.2, Ms.su r16.2, Ms.lf r16.2, Ms.lk r16.2, Ms.nx r16.2, Ms.bo r16.2, Ms.ra r16.2, Ms.ki r16.2, Ms.nu r16.2, Ms.tv r16.2) = z := ⟨_, rfl⟩
            have hr18 := c_X12_figures l hf (Ms.th r16.2, Ms.s r16.2, Ms.im r16.2, Ms.fr r16.2, Ms.hi r16.2, Ms.ac r16.2, Ms.sp r16.2, Ms.en r16.2, nI 1, Ms.op r16.2, Ms.bb r16.2, Ms.tr r16.2, Ms.su r16.2, Ms.lf r16.2, Ms.lk r16.2, Ms.nx r16.2, Ms.bo r16.2, Ms.ra r16.2, Ms.ki r16.2, Ms.nu r16.2, Ms.tv r16.2) (by first | exact b2.go rfl rfl rfl (Or.inr rfl) (by first | exact Or.inl rfl | exact Or.inr rfl) | exact b1.go rfl rfl rfl (Or.inr rfl) (by first | exact Or.inl rfl | exact Or.inr rfl))
            rw [er18] at hr18
            have b3 := (ef_figures_r er18).2.2 0 0 (by first | exact b2.go rfl rfl rfl (Or.inr rfl) (by first | exact Or.inl rfl | exact Or.inr rfl) | exact b1.go rfl rfl rfl (Or.inr rfl) (by first | exact Or.inl rfl | exact Or.inr rfl))
            refine CALL_same (r := some (.int r18.1)) (h1 := hMs r18.2) (by omega) (hr18) ?_
            obtain ⟨r19, er19⟩ : ∃ z : Ms, m_X12_emits r18.2 ((r13.1 + (nI 8 * r16.1)) + (nI 32 * r18.1)) = z := ⟨_, rfl⟩
            have hr19 := c_X12_emits l hf r18.2 ((r13.1 + (nI 8 * r16.1)) + (nI 32 * r18.1)) b3
            rw [er19] at hr19
            refine CALL_same (r := none) (h1 := hMs r19) (by omega) (hr19) ?_
            exact And.intro rfl (DPs (F := (fun z => hMs z)) (s' := r19) ((if_pos c1).trans ((if_neg c2).trans ((if_neg c12).trans ((bindv_eq er13).trans ((if_neg c14).trans ((bindv_eq er16).trans ((if_neg c17).trans ((bindv_eq er18).trans (bindv_eq er19))))))))))
          · skip
            refine And.intro (fun c20 => ?_) (fun c20 => ?_)
            · skip
              refine hJ 168 _ _ _ ?_
              refine And.intro (Or.inl rfl) ?_
              obtain ⟨r21, er21⟩ : ∃ z : Int32 × Ms, m_X12_figures (Ms.th r16.2, Ms.s r16.2, Ms.im r16.2, Ms.fr r16.2, Ms.hi r16.2, Ms.ac r16.2, Ms.sp r16.2, Ms.en r16.2, nI 0, Ms.op r16.2, Ms.bb r16.2, Ms.tr r16.2, Ms.su r16.2, Ms.lf r16.2, Ms.lk r16.2, Ms.nx r16.2, Ms.bo r16.2, Ms.ra r16.2, Ms.ki r16.2, Ms.nu r16.2, Ms.tv r16.2) = z := ⟨_, rfl⟩
              have hr21 := c_X12_figures l hf (Ms.th r16.2, Ms.s r16.2, Ms.im r16.2, Ms.fr r16.2, Ms.hi r16.2, Ms.ac r16.2, Ms.sp r16.2, Ms.en r16.2, nI 0, Ms.op r16.2, Ms.bb r16.2, Ms.tr r16.2, Ms.su r16.2, Ms.lf r16.2, Ms.lk r16.2, Ms.nx r16.2, Ms.bo r16.2, Ms.ra r16.2, Ms.ki r16.2, Ms.nu r16.2, Ms.tv r16.2) (by first | exact b2.go rfl rfl rfl (Or.inr rfl) (by first | exact Or.inl rfl | exact Or.inr rfl) | exact b1.go rfl rfl rfl (Or.inr rfl) (by first | exact Or.inl rfl | exact Or.inr rfl))
              rw [er21] at hr21
              have b3 := (ef_figures_r er21).2.2 0 0 (by first | exact b2.go rfl rfl rfl (Or.inr rfl) (by first | exact Or.inl rfl | exact Or.inr rfl) | exact b1.go rfl rfl rfl (Or.inr rfl) (by first | exact Or.inl rfl | exact Or.inr rfl))
              refine CALL_same (r := some (.int r21.1)) (h1 := hMs r21.2) (by omega) (hr21) ?_
              obtain ⟨r22, er22⟩ : ∃ z : Ms, m_X12_emits r21.2 ((r13.1 + (nI 8 * r16.1)) + (nI 32 * r21.1)) = z := ⟨_, rfl⟩
              have hr22 := c_X12_emits l hf r21.2 ((r13.1 + (nI 8 * r16.1)) + (nI 32 * r21.1)) b3
              rw [er22] at hr22
              refine CALL_same (r := none) (h1 := hMs r22) (by omega) (hr22) ?_
              exact And.intro rfl (DPs (F := (fun z => hMs z)) (s' := r22) ((if_pos c1).trans ((if_neg c2).trans ((if_neg c12).trans ((bindv_eq er13).trans ((if_neg c14).trans ((bindv_eq er16).trans ((if_pos c17).trans ((if_neg c20).trans ((bindv_eq er21).trans (bindv_eq er22)))))))))))
            · skip
              refine hJ 169 _ _ _ ?_
              refine And.intro (Or.inr rfl) ?_
              obtain ⟨r23, er23⟩ : ∃ z : Int32 × Ms, m_X12_figures (Ms.th r16.2, Ms.s r16.2, Ms.im r16.2, Ms.fr r16.2, Ms.hi r16.2, Ms.ac r16.2, Ms.sp r16.2, Ms.en r16.2, nI 1, Ms.op r16.2, Ms.bb r16.2, Ms.tr r16.2, Ms.su r16.2, Ms.lf r16.2, Ms.lk r16.2, Ms.nx r16.2, Ms.bo r16.2, Ms.ra r16.2, Ms.ki r16.2, Ms.nu r16.2, Ms.tv r16.2) = z := ⟨_, rfl⟩
              have hr23 := c_X12_figures l hf (Ms.th r16.2, Ms.s r16.2, Ms.im r16.2, Ms.fr r16.2, Ms.hi r16.2, Ms.ac r16.2, Ms.sp r16.2, Ms.en r16.2, nI 1, Ms.op r16.2, Ms.bb r16.2, Ms.tr r16.2, Ms.su r16.2, Ms.lf r16.2, Ms.lk r16.2, Ms.nx r16.2, Ms.bo r16.2, Ms.ra r16.2, Ms.ki r16.2, Ms.nu r16.2, Ms.tv r16.2) (by first | exact b2.go rfl rfl rfl (Or.inr rfl) (by first | exact Or.inl rfl | exact Or.inr rfl) | exact b1.go rfl rfl rfl (Or.inr rfl) (by first | exact Or.inl rfl | exact Or.inr rfl))
              rw [er23] at hr23
              have b3 := (ef_figures_r er23).2.2 0 0 (by first | exact b2.go rfl rfl rfl (Or.inr rfl) (by first | exact Or.inl rfl | exact Or.inr rfl) | exact b1.go rfl rfl rfl (Or.inr rfl) (by first | exact Or.inl rfl | exact Or.inr rfl))
              refine CALL_same (r := some (.int r23.1)) (h1 := hMs r23.2) (by omega) (hr23) ?_
              obtain ⟨r24, er24⟩ : ∃ z : Ms, m_X12_emits r23.2 ((r13.1 + (nI 8 * r16.1)) + (nI 32 * r23.1)) = z := ⟨_, rfl⟩
              have hr24 := c_X12_emits l hf r23.2 ((r13.1 + (nI 8 * r16.1)) + (nI 32 * r23.1)) b3
              rw [er24] at hr24
              refine CALL_same (r := none) (h1 := hMs r24) (by omega) (hr24) ?_
              exact And.intro rfl (DPs (F := (fun z => hMs z)) (s' := r24) ((if_pos c1).trans ((if_neg c2).trans ((if_neg c12).trans ((bindv_eq er13).trans ((if_neg c14).trans ((bindv_eq er16).trans ((if_pos c17).trans ((if_pos c20).trans ((bindv_eq er23).trans (bindv_eq er24)))))))))))
        · skip
          refine hJ 130 _ _ _ ?_
          refine And.intro (Or.inr rfl) ?_
          refine And.intro (fun c25 => absurd c25 (by decide)) (fun c25 => ?_)
          refine hJ 150 _ _ _ ?_
          refine And.intro (fun c26 => ?_) (fun c26 => absurd c26 (by decide))
          refine hJ 164 _ _ _ ?_
          refine hJ 169 _ _ _ ?_
          refine And.intro (Or.inr rfl) ?_
          obtain ⟨r27, er27⟩ : ∃ z : Int32 × Ms, m_X12_figures (Ms.th r13.2, Ms.s r13.2, Ms.im r13.2, Ms.fr r13.2, Ms.hi r13.2, Ms.ac r13.2, Ms.sp r13.2, Ms.en r13.2, nI 1, Ms.op r13.2, Ms.bb r13.2, Ms.tr r13.2, Ms.su r13.2, Ms.lf r13.2, Ms.lk r13.2, Ms.nx r13.2, Ms.bo r13.2, Ms.ra r13.2, Ms.ki r13.2, Ms.nu r13.2, Ms.tv r13.2) = z := ⟨_, rfl⟩
          have hr27 := c_X12_figures l hf (Ms.th r13.2, Ms.s r13.2, Ms.im r13.2, Ms.fr r13.2, Ms.hi r13.2, Ms.ac r13.2, Ms.sp r13.2, Ms.en r13.2, nI 1, Ms.op r13.2, Ms.bb r13.2, Ms.tr r13.2, Ms.su r13.2, Ms.lf r13.2, Ms.lk r13.2, Ms.nx r13.2, Ms.bo r13.2, Ms.ra r13.2, Ms.ki r13.2, Ms.nu r13.2, Ms.tv r13.2) (by first | exact b2.go rfl rfl rfl (Or.inr rfl) (by first | exact Or.inl rfl | exact Or.inr rfl) | exact b1.go rfl rfl rfl (Or.inr rfl) (by first | exact Or.inl rfl | exact Or.inr rfl))
          rw [er27] at hr27
          have b3 := (ef_figures_r er27).2.2 0 0 (by first | exact b2.go rfl rfl rfl (Or.inr rfl) (by first | exact Or.inl rfl | exact Or.inr rfl) | exact b1.go rfl rfl rfl (Or.inr rfl) (by first | exact Or.inl rfl | exact Or.inr rfl))
          refine CALL_same (r := some (.int r27.1)) (h1 := hMs r27.2) (by omega) (hr27) ?_
          obtain ⟨r28, er28⟩ : ∃ z : Ms, m_X12_emits r27.2 ((r13.1 + (nI 8 * nI 0)) + (nI 32 * r27.1)) = z := ⟨_, rfl⟩
          have hr28 := c_X12_emits l hf r27.2 ((r13.1 + (nI 8 * nI 0)) + (nI 32 * r27.1)) b3
          rw [er28] at hr28
          refine CALL_same (r := none) (h1 := hMs r28) (by omega) (hr28) ?_
          exact And.intro rfl (DPs (F := (fun z => hMs z)) (s' := r28) ((if_pos c1).trans ((if_neg c2).trans ((if_neg c12).trans ((bindv_eq er13).trans ((if_pos c14).trans ((bindv_eq er27).trans (bindv_eq er28))))))))
      · skip
        have he := here_lt c12 (by decide)
        refine And.intro (fun c29 => ?_) (fun c29 => ?_)
        · skip
          have ho : ¬ Ms.op m = nI 5 := c29
          refine hJ 38 _ _ _ ?_
          refine And.intro (Or.inl rfl) ?_
          refine And.intro True.intro ?_
          refine And.intro (fun c30 => ?_) (fun c30 => absurd (by decide) c30)
          refine hJ 68 _ _ _ ?_
          refine And.intro True.intro ?_
          refine And.intro (fun c31 => ?_) (fun c31 => absurd c31 c2)
          refine hJ 91 _ _ _ ?_
          obtain ⟨r32, er32⟩ : ∃ z : Ms, m_X12_some (Ms.th m, Ms.s m, Ms.im m, Ms.fr m, Ms.hi m, Ms.ac m, (Ms.sp m + nI 1), Ms.en m, nI 0, (Ms.op m + nI 1), Ms.bb m, Ms.tr m, Ms.su m, Ms.lf m, Ms.lk m, Ms.nx m, Ms.bo m, Ms.ra m, Ms.ki m, Ms.nu m, Ms.tv m) fac = z := ⟨_, rfl⟩
          have hr32 := c_X12_some l hf (Ms.th m, Ms.s m, Ms.im m, Ms.fr m, Ms.hi m, Ms.ac m, (Ms.sp m + nI 1), Ms.en m, nI 0, (Ms.op m + nI 1), Ms.bb m, Ms.tr m, Ms.su m, Ms.lf m, Ms.lk m, Ms.nx m, Ms.bo m, Ms.ra m, Ms.ki m, Ms.nu m, Ms.tv m) fac hd hfac hef (by first | exact Pf.in1 hP ho he rfl rfl rfl rfl rfl rfl | exact Pf.in0 hP ho rfl rfl rfl rfl rfl rfl)
          rw [er32] at hr32
          have h1 := fac_r (fac := fun m => m_X12_some m fac) er32 (ef_some hef) (by first | exact Pf.in1 hP ho he rfl rfl rfl rfl rfl rfl | exact Pf.in0 hP ho rfl rfl rfl rfl rfl rfl)
          refine CALL_same (r := none) (h1 := hMs r32) (by omega) (hr32) ?_
          obtain ⟨r33, er33⟩ : ∃ z : Ms, m_X12_must r32 (nI 41) = z := ⟨_, rfl⟩
          have hr33 := c_X12_must l hf r32 (nI 41) h1.1.1.z
          rw [er33] at hr33
          refine CALL_same (r := none) (h1 := hMs r33) (by omega) (hr33) ?_
          refine And.intro True.intro ?_
          exact And.intro rfl (DPs (F := (fun z => hMs z)) (s' := (Ms.th r33, Ms.s r33, Ms.im r33, Ms.fr r33, Ms.hi r33, Ms.ac r33, Ms.sp r33, Ms.en r33, Ms.wr r33, (Ms.op r33 - nI 1), Ms.bb r33, Ms.tr r33, Ms.su r33, Ms.lf r33, Ms.lk r33, Ms.nx r33, Ms.bo r33, Ms.ra r33, Ms.ki r33, Ms.nu r33, Ms.tv r33)) ((if_pos c1).trans ((if_neg c2).trans ((if_pos c12).trans ((if_neg c29).trans ((bindv_eq er32).trans (bindv_eq er33)))))))
        · skip
          have ho : Ms.op m = nI 5 := c29
          refine hJ 39 _ _ _ ?_
          refine And.intro (Or.inr rfl) ?_
          refine And.intro True.intro ?_
          refine And.intro (fun c34 => absurd c34 (by decide)) (fun c34 => ?_)
          refine hJ 69 _ _ _ ?_
          refine And.intro True.intro ?_
          refine And.intro (fun c35 => ?_) (fun c35 => absurd c35 c2)
          refine hJ 91 _ _ _ ?_
          obtain ⟨r36, er36⟩ : ∃ z : Ms, m_X12_some (Ms.th m, Ms.s m, Ms.im m, Ms.fr m, Ms.hi m, Ms.ac m, (Ms.sp m + nI 0), Ms.en m, nI 1, (Ms.op m + nI 1), Ms.bb m, Ms.tr m, Ms.su m, Ms.lf m, Ms.lk m, Ms.nx m, Ms.bo m, Ms.ra m, Ms.ki m, Ms.nu m, Ms.tv m) fac = z := ⟨_, rfl⟩
          have hr36 := c_X12_some l hf (Ms.th m, Ms.s m, Ms.im m, Ms.fr m, Ms.hi m, Ms.ac m, (Ms.sp m + nI 0), Ms.en m, nI 1, (Ms.op m + nI 1), Ms.bb m, Ms.tr m, Ms.su m, Ms.lf m, Ms.lk m, Ms.nx m, Ms.bo m, Ms.ra m, Ms.ki m, Ms.nu m, Ms.tv m) fac hd hfac hef (by first | exact Pf.in1 hP ho he rfl rfl rfl rfl rfl rfl | exact Pf.in0 hP ho rfl rfl rfl rfl rfl rfl)
          rw [er36] at hr36
          have h1 := fac_r (fac := fun m => m_X12_some m fac) er36 (ef_some hef) (by first | exact Pf.in1 hP ho he rfl rfl rfl rfl rfl rfl | exact Pf.in0 hP ho rfl rfl rfl rfl rfl rfl)
          refine CALL_same (r := none) (h1 := hMs r36) (by omega) (hr36) ?_
          obtain ⟨r37, er37⟩ : ∃ z : Ms, m_X12_must r36 (nI 41) = z := ⟨_, rfl⟩
          have hr37 := c_X12_must l hf r36 (nI 41) h1.1.1.z
          rw [er37] at hr37
          refine CALL_same (r := none) (h1 := hMs r37) (by omega) (hr37) ?_
          refine And.intro True.intro ?_
          exact And.intro rfl (DPs (F := (fun z => hMs z)) (s' := (Ms.th r37, Ms.s r37, Ms.im r37, Ms.fr r37, Ms.hi r37, Ms.ac r37, Ms.sp r37, Ms.en r37, Ms.wr r37, (Ms.op r37 - nI 1), Ms.bb r37, Ms.tr r37, Ms.su r37, Ms.lf r37, Ms.lk r37, Ms.nx r37, Ms.bo r37, Ms.ra r37, Ms.ki r37, Ms.nu r37, Ms.tv r37)) ((if_pos c1).trans ((if_neg c2).trans ((if_pos c12).trans ((if_pos c29).trans ((bindv_eq er36).trans (bindv_eq er37)))))))
  · skip
    exact And.intro rfl (DPs (F := (fun z => hMs z)) (s' := m) (if_neg c1))
def opd (r : Ms) : Ms := (Ms.th r, Ms.s r, Ms.im r, Ms.fr r, Ms.hi r, Ms.ac r, Ms.sp r, Ms.en r, Ms.wr r, (Ms.op r - nI 1), Ms.bb r, Ms.tr r, Ms.su r, Ms.lf r, Ms.lk r, Ms.nx r, Ms.bo r, Ms.ra r, Ms.ki r, Ms.nu r, Ms.tv r)
theorem ef_close {k : Nat} {m t r : Ms} (hP : Pf (k + 1) 0 m) (hw : Ms.wr m = 0) (ho : Ms.op t = Ms.op m + nI 1) (hr : Ms.op r = Ms.op t) (hpg : ∀ j q, Pg j q m → Pg j q r) : Pe m (opd r) := by
  obtain ⟨g, ⟨o, g1, g2⟩, -⟩ := hP
  refine ⟨?_, fun z => absurd hw z, fun j q h => (hpg j q h).go rfl rfl rfl (Or.inr rfl) (hpg j q h).bw⟩
  show Ms.op r - nI 1 = Ms.op m
  rw [hr, ho, g1, nI_add, pk_sub (by omega)]
  rfl
theorem ef_bang {k : Nat} {fac : Ms → Ms} {m t : Ms} {x : Int32} (hef : ∀ m, Pf k 0 m → Pe m (fac m)) (hP : Pf (k + 1) 0 m) (hw : Ms.wr m = 0) (he : ¬ Ms.en m ≤ Ms.sp m) (h1 : Ms.ac t = Ms.ac m) (h2 : Ms.en t = Ms.en m) (h3 : Ms.s t = Ms.s m) (h6 : Ms.op t = Ms.op m + nI 1) (h4 : (¬ Ms.op m = nI 5 ∧ Ms.sp t = Ms.sp m + nI 1 ∧ Ms.wr t = nI 0) ∨ (Ms.op m = nI 5 ∧ Ms.sp t = Ms.sp m + nI 0 ∧ Ms.wr t = nI 1)) : Pe m (opd (m_X12_emits (fac t) x)) := by
  rcases h4 with ⟨ho, h4, h5⟩ | ⟨ho, h4, h5⟩
  · have p := hef t (Pf.in1 hP ho he h1 h2 h3 h4 h5 h6)
    refine ef_close hP hw h6 (ef_emits.1.trans p.1) fun j q h => ?_
    have g := p.2.2 _ _ (h.go1 he h1 h2 h3 h4 (by rw [h5]; exact Or.inl rfl))
    exact ef_emits.2.2 j q (g.mono (by omega) (by omega)) (fun _ => g.mono (by omega) (by omega))
  · have p := hef t (Pf.in0 hP ho h1 h2 h3 h4 h5 h6)
    refine ef_close hP hw h6 (ef_emits.1.trans p.1) fun j q h => ?_
    exact ef_emits.2.2 j q (p.2.2 _ _ (h.go h1 h2 h3 (Or.inl h4) (by rw [h5]; exact Or.inr rfl))) (fun z => absurd z (p.2.1 (by rw [h5]; decide)))
theorem ef_paren {k : Nat} {fac : Ms → Ms} {m t : Ms} (hef : ∀ m, Pf k 0 m → Pe m (fac m)) (hP : Pf (k + 1) 0 m) (hw : Ms.wr m = 0) (he : ¬ Ms.en m ≤ Ms.sp m) (h1 : Ms.ac t = Ms.ac m) (h2 : Ms.en t = Ms.en m) (h3 : Ms.s t = Ms.s m) (h6 : Ms.op t = Ms.op m + nI 1) (h4 : (¬ Ms.op m = nI 5 ∧ Ms.sp t = Ms.sp m + nI 1 ∧ Ms.wr t = nI 0) ∨ (Ms.op m = nI 5 ∧ Ms.sp t = Ms.sp m + nI 0 ∧ Ms.wr t = nI 1)) : Pe m (opd (m_X12_must (m_X12_some t fac) (nI 41))) := by
  have e := (ef_must (m_X12_some t fac) (c := nI 41) (by decide)).1
  rcases h4 with ⟨ho, h4, h5⟩ | ⟨ho, h4, h5⟩
  · have p := ef_some hef t (Pf.in1 hP ho he h1 h2 h3 h4 h5 h6)
    refine ef_close hP hw h6 (e.1.trans p.1) fun j q h => ?_
    exact (e.2.2 _ _ (p.2.2 _ _ (h.go1 he h1 h2 h3 h4 (by rw [h5]; exact Or.inl rfl)))).mono (by omega) (by omega)
  · have p := ef_some hef t (Pf.in0 hP ho h1 h2 h3 h4 h5 h6)
    refine ef_close hP hw h6 (e.1.trans p.1) fun j q h => ?_
    exact e.2.2 _ _ (p.2.2 _ _ (h.go h1 h2 h3 (Or.inl h4) (by rw [h5]; exact Or.inr rfl)))
theorem ef_tail {m t : Ms} {x : Int32} (hw : Ms.wr m = 0) (ho : Ms.op t = Ms.op m) (hpg : ∀ j q, Pg j q m → Pg j q t) (hs : Ms.wr t = 0 → ∀ j q, Pg j q m → Pg (j + 1) q t) : Pe m (m_X12_emits (m_X12_figures t).2 x) := by
  have p := ef_figures t
  refine ⟨ef_emits.1.trans (p.1.trans ho), fun z => absurd hw z, fun j q h => ef_emits.2.2 j q (p.2.2 _ _ (hpg j q h)) fun w => p.2.2 _ _ (hs ?_ j q h)⟩
  exact Classical.byContradiction fun z => p.2.1 z w
theorem ef_factor {fac : Ms → Ms} {k : Nat} (hef : ∀ m, Pf k 0 m → Pe m (fac m)) {m : Ms} (hP : Pf (k + 1) 0 m) : Pe m (m_X12_factor m fac) := by
  unfold m_X12_factor
  by_cases hw : Ms.wr m = 0
  · rw [if_pos hw]
    by_cases c1 : m_X12_here (Ms.s m) (Ms.sp m) (Ms.en m) = nI 33
    · rw [if_pos c1]
      have he := here_lt c1 (by decide)
      by_cases ho : Ms.op m = nI 5
      · rw [if_pos ho]; exact ef_bang hef hP hw he rfl rfl rfl rfl (Or.inr ⟨ho, rfl, rfl⟩)
      · rw [if_neg ho]; exact ef_bang hef hP hw he rfl rfl rfl rfl (Or.inl ⟨ho, rfl, rfl⟩)
    · rw [if_neg c1]
      by_cases c2 : m_X12_here (Ms.s m) (Ms.sp m) (Ms.en m) = nI 40
      · rw [if_pos c2]
        have he := here_lt c2 (by decide)
        by_cases ho : Ms.op m = nI 5
        · rw [if_pos ho]; exact ef_paren hef hP hw he rfl rfl rfl rfl (Or.inr ⟨ho, rfl, rfl⟩)
        · rw [if_neg ho]; exact ef_paren hef hP hw he rfl rfl rfl rfl (Or.inl ⟨ho, rfl, rfl⟩)
      · rw [if_neg c2]
        unfold bindv
        have a1 := ef_among_1004_r (m := m) rfl
        generalize m_X12_among_1004 m = r at a1 ⊢
        dsimp only
        by_cases n : r.1 = (-nI 1)
        · rw [if_pos n]
          exact ef_tail hw a1.1.1 (fun j q h => (a1.1.2.2 j q h).go rfl rfl rfl (Or.inr rfl) (Or.inr rfl)) (fun w => absurd w (by show ¬ nI 1 = 0; decide))
        · rw [if_neg n]
          have s1 : ∀ j q, Pg j q m → Pg (j + 1) (q + 1) r.2 := a1.2.resolve_left n
          have a2 := ef_among_1005_r (m := (Ms.th r.2, Ms.s r.2, Ms.im r.2, Ms.fr r.2, Ms.hi r.2, Ms.ac r.2, Ms.sp r.2, Ms.en r.2, nI 0, Ms.op r.2, Ms.bb r.2, Ms.tr r.2, Ms.su r.2, Ms.lf r.2, Ms.lk r.2, Ms.nx r.2, Ms.bo r.2, Ms.ra r.2, Ms.ki r.2, Ms.nu r.2, Ms.tv r.2)) rfl
          have s3 : ∀ j q, Pg j q m → Pg (j + 1) (q + 1) (Ms.th r.2, Ms.s r.2, Ms.im r.2, Ms.fr r.2, Ms.hi r.2, Ms.ac r.2, Ms.sp r.2, Ms.en r.2, nI 0, Ms.op r.2, Ms.bb r.2, Ms.tr r.2, Ms.su r.2, Ms.lf r.2, Ms.lk r.2, Ms.nx r.2, Ms.bo r.2, Ms.ra r.2, Ms.ki r.2, Ms.nu r.2, Ms.tv r.2) := fun j q h => (s1 j q h).go rfl rfl rfl (Or.inr rfl) (Or.inl rfl)
          generalize m_X12_among_1005 (Ms.th r.2, Ms.s r.2, Ms.im r.2, Ms.fr r.2, Ms.hi r.2, Ms.ac r.2, Ms.sp r.2, Ms.en r.2, nI 0, Ms.op r.2, Ms.bb r.2, Ms.tr r.2, Ms.su r.2, Ms.lf r.2, Ms.lk r.2, Ms.nx r.2, Ms.bo r.2, Ms.ra r.2, Ms.ki r.2, Ms.nu r.2, Ms.tv r.2) = r2 at a2 ⊢
          have s2 : ∀ j q, Pg j q m → Pg (j + 1) (q + 1) r2.2 := fun j q h => a2.1.2.2 _ _ (s3 j q h)
          have ho2 : Ms.op r2.2 = Ms.op m := a2.1.1.trans a1.1.1
          by_cases c4 : Ms.wr r2.2 = 0
          · rw [if_pos c4]
            by_cases c5 : r2.1 = (-nI 1)
            · rw [if_pos c5]
              exact ef_tail hw ho2 (fun j q h => ((s2 j q h).mono (by omega) (by omega)).go rfl rfl rfl (Or.inr rfl) (Or.inr rfl)) (fun _ j q h => ((s2 j q h).mono (Nat.le_refl _) (by omega)).go rfl rfl rfl (Or.inr rfl) (Or.inr rfl))
            · rw [if_neg c5]
              exact ef_tail hw ho2 (fun j q h => ((s2 j q h).mono (by omega) (by omega)).go rfl rfl rfl (Or.inr rfl) (Or.inl rfl)) (fun _ j q h => ((s2 j q h).mono (Nat.le_refl _) (by omega)).go rfl rfl rfl (Or.inr rfl) (Or.inl rfl))
          · rw [if_neg c4]
            exact ef_tail hw ho2 (fun j q h => ((s2 j q h).mono (by omega) (by omega)).go rfl rfl rfl (Or.inr rfl) (Or.inr rfl)) (fun _ j q h => ((s2 j q h).mono (Nat.le_refl _) (by omega)).go rfl rfl rfl (Or.inr rfl) (Or.inr rfl))
  · rw [if_neg hw]; exact Pe.rf m
def m_X12_factor_0 (m : Ms) : Ms := m
set_option maxRecDepth 100000 in
set_option maxHeartbeats 4000000 in
theorem c_X12_factor_0 (l : Launch) {fv : Value} (hf : FV fv) (m : Ms) (hw : ¬ Ms.wr m = 0) : CT l fv 10 jX12_factor [.ref 0] (hMs m) (DP none (hMs (m_X12_factor_0 m))) := by
  refine CT_of [] mt_X12_factor (by decide +kernel) (tab_X12 hf) okX12_factor (Nat.le_of_ble_eq_true rfl) ?_
  intro J hJ hD
  refine hJ 0 _ _ _ ?_
  refine And.intro (fun c1 => absurd c1 hw) (fun c1 => ?_)
  exact And.intro rfl (DPs (F := (fun z => hMs z)) (s' := m) (rfl))
def fac_n : Nat → Ms → Ms
  | 0 => fun m => m
  | k + 1 => fun m => m_X12_factor m (fac_n k)
theorem ef_fac : ∀ (k : Nat) (m : Ms), Pf k 0 m → Pe m (fac_n k m)
  | 0, m, _ => Pe.rf m
  | k + 1, _, h => ef_factor (ef_fac k) h
theorem c_fac (l : Launch) {fv : Value} (hf : FV fv) : ∀ (k : Nat) (m : Ms), Pf k 0 m → CT l fv (10 + 3 * k) jX12_factor [.ref 0] (hMs m) (DP none (hMs (fac_n k m)))
  | 0, m, h => c_X12_factor_0 l hf m (h.2.2 rfl)
  | k + 1, m, h => by
    rw [show 10 + 3 * (k + 1) = 10 + 3 * k + 3 by omega]
    exact c_X12_factor l hf m (fac_n k) (by omega) (c_fac l hf k) (ef_fac k) h
def m_X12_someT (m : Ms) : Ms := m_X12_some m (fac_n 6)
theorem pf_top {m : Ms} (hg : Pg 0 0 m) (ho : Ms.op m = nI 0) : Pf 6 0 m := ⟨hg, ⟨0, ho, rfl⟩, fun h => by omega⟩
theorem c_X12_someT (l : Launch) {fv : Value} (hf : FV fv) (m : Ms) (hg : Pg 0 0 m) (ho : Ms.op m = nI 0) : CT l fv 30 jX12_some [.ref 0] (hMs m) (DP none (hMs (m_X12_someT m))) :=
  c_X12_some l hf m (fac_n 6) (d := 28) (by omega) (c_fac l hf 6) (ef_fac 6) (pf_top hg ho)
theorem ef_someT_r {m r : Ms} (e : m_X12_someT m = r) (hg : Pg 0 0 m) (ho : Ms.op m = nI 0) : Pe m r := by rw [← e]; exact ef_some (ef_fac 6) m (pf_top hg ho)
def m_X12_much_1002 (m : Ms) (kd : Int32) : Ms := bindv (m_X12_spells_1002 m) (fun r1 => bindv (m_X12_figures r1) (fun r2 => bindv (m_X12_must r2.2 (nI 32)) (fun r3 => bindv (m_X12_someT r3) (fun r4 => bindv (m_X12_emits r4 (kd - r2.1)) (fun r5 => r5)))))
set_option maxRecDepth 100000 in
set_option maxHeartbeats 4000000 in
theorem c_X12_much_1002 (l : Launch) {fv : Value} (hf : FV fv) (m : Ms) (kd : Int32) (hg : Pg 0 0 m) (ho : Ms.op m = nI 0) : CT l fv 31 jX12_much [.ref 0, .int kd, .ref 1002] (hMs m) (DP none (hMs (m_X12_much_1002 m kd))) := by
  refine CT_of [] mt_X12_much (by decide +kernel) (tab_X12 hf) okX12_much (Nat.le_of_ble_eq_true rfl) ?_
  intro J hJ hD
  refine hJ 0 _ _ _ ?_
  obtain ⟨r1, er1⟩ : ∃ z : Ms, m_X12_spells_1002 m = z := ⟨_, rfl⟩
  have hr1 := c_X12_spells_1002 l hf m hg
  rw [er1] at hr1
  have h1 := ef_spells_1002_r er1
  have g1 := h1.1.2.2 0 0 hg
  refine CALL_same (r := none) (h1 := hMs r1) (by decide) (hr1) ?_
  obtain ⟨r2, er2⟩ : ∃ z : Int32 × Ms, m_X12_figures r1 = z := ⟨_, rfl⟩
  have hr2 := c_X12_figures l hf r1 g1
  rw [er2] at hr2
  have h2 := ef_figures_r er2
  have g2 := h2.2.2 0 0 g1
  refine CALL_same (r := some (.int r2.1)) (h1 := hMs r2.2) (by decide) (hr2) ?_
  obtain ⟨r3, er3⟩ : ∃ z : Ms, m_X12_must r2.2 (nI 32) = z := ⟨_, rfl⟩
  have hr3 := c_X12_must l hf r2.2 (nI 32) g2
  rw [er3] at hr3
  have h3 := ef_must_r er3 (by decide)
  have g3 := h3.2.2 0 0 g2
  refine CALL_same (r := none) (h1 := hMs r3) (by decide) (hr3) ?_
  obtain ⟨r4, er4⟩ : ∃ z : Ms, m_X12_someT r3 = z := ⟨_, rfl⟩
  have hr4 := c_X12_someT l hf r3 g3 (((h3.1.trans h2.1).trans h1.1.1).trans ho)
  rw [er4] at hr4
  have h4 := ef_someT_r er4 g3 (((h3.1.trans h2.1).trans h1.1.1).trans ho)
  have g4 := h4.2.2 0 0 g3
  refine CALL_same (r := none) (h1 := hMs r4) (by decide) (hr4) ?_
  obtain ⟨r5, er5⟩ : ∃ z : Ms, m_X12_emits r4 (kd - r2.1) = z := ⟨_, rfl⟩
  have hr5 := c_X12_emits l hf r4 (kd - r2.1) g4
  rw [er5] at hr5
  refine CALL_same (r := none) (h1 := hMs r5) (by decide) (hr5) ?_
  exact And.intro rfl (DPs (F := (fun z => hMs z)) (s' := r5) ((bindv_eq er1).trans ((bindv_eq er2).trans ((bindv_eq er3).trans ((bindv_eq er4).trans (bindv_eq er5))))))
def m_X12_much_1003 (m : Ms) (kd : Int32) : Ms := bindv (m_X12_spells_1003 m) (fun r1 => bindv (m_X12_figures r1) (fun r2 => bindv (m_X12_must r2.2 (nI 32)) (fun r3 => bindv (m_X12_someT r3) (fun r4 => bindv (m_X12_emits r4 (kd - r2.1)) (fun r5 => r5)))))
set_option maxRecDepth 100000 in
set_option maxHeartbeats 4000000 in
theorem c_X12_much_1003 (l : Launch) {fv : Value} (hf : FV fv) (m : Ms) (kd : Int32) (hg : Pg 0 0 m) (ho : Ms.op m = nI 0) : CT l fv 31 jX12_much [.ref 0, .int kd, .ref 1003] (hMs m) (DP none (hMs (m_X12_much_1003 m kd))) := by
  refine CT_of [] mt_X12_much (by decide +kernel) (tab_X12 hf) okX12_much (Nat.le_of_ble_eq_true rfl) ?_
  intro J hJ hD
  refine hJ 0 _ _ _ ?_
  obtain ⟨r1, er1⟩ : ∃ z : Ms, m_X12_spells_1003 m = z := ⟨_, rfl⟩
  have hr1 := c_X12_spells_1003 l hf m hg
  rw [er1] at hr1
  have h1 := ef_spells_1003_r er1
  have g1 := h1.1.2.2 0 0 hg
  refine CALL_same (r := none) (h1 := hMs r1) (by decide) (hr1) ?_
  obtain ⟨r2, er2⟩ : ∃ z : Int32 × Ms, m_X12_figures r1 = z := ⟨_, rfl⟩
  have hr2 := c_X12_figures l hf r1 g1
  rw [er2] at hr2
  have h2 := ef_figures_r er2
  have g2 := h2.2.2 0 0 g1
  refine CALL_same (r := some (.int r2.1)) (h1 := hMs r2.2) (by decide) (hr2) ?_
  obtain ⟨r3, er3⟩ : ∃ z : Ms, m_X12_must r2.2 (nI 32) = z := ⟨_, rfl⟩
  have hr3 := c_X12_must l hf r2.2 (nI 32) g2
  rw [er3] at hr3
  have h3 := ef_must_r er3 (by decide)
  have g3 := h3.2.2 0 0 g2
  refine CALL_same (r := none) (h1 := hMs r3) (by decide) (hr3) ?_
  obtain ⟨r4, er4⟩ : ∃ z : Ms, m_X12_someT r3 = z := ⟨_, rfl⟩
  have hr4 := c_X12_someT l hf r3 g3 (((h3.1.trans h2.1).trans h1.1.1).trans ho)
  rw [er4] at hr4
  have h4 := ef_someT_r er4 g3 (((h3.1.trans h2.1).trans h1.1.1).trans ho)
  have g4 := h4.2.2 0 0 g3
  refine CALL_same (r := none) (h1 := hMs r4) (by decide) (hr4) ?_
  obtain ⟨r5, er5⟩ : ∃ z : Ms, m_X12_emits r4 (kd - r2.1) = z := ⟨_, rfl⟩
  have hr5 := c_X12_emits l hf r4 (kd - r2.1) g4
  rw [er5] at hr5
  refine CALL_same (r := none) (h1 := hMs r5) (by decide) (hr5) ?_
  exact And.intro rfl (DPs (F := (fun z => hMs z)) (s' := r5) ((bindv_eq er1).trans ((bindv_eq er2).trans ((bindv_eq er3).trans ((bindv_eq er4).trans (bindv_eq er5))))))
def m_X12_tellsHere_1000 (m : Ms) (x : Int32) : Ms := bindv (m_X12_spells_1000 m) (fun r1 => bindv (m_X12_figures r1) (fun r2 => if Ms.wr r2.2 = 0 then (Ms.th r2.2, (upd (Ms.s r2.2) (x + Ms.ac r2.2).toNatClampNeg r2.1), Ms.im r2.2, Ms.fr r2.2, Ms.hi r2.2, Ms.ac r2.2, Ms.sp r2.2, Ms.en r2.2, Ms.wr r2.2, Ms.op r2.2, Ms.bb r2.2, Ms.tr r2.2, Ms.su r2.2, Ms.lf r2.2, Ms.lk r2.2, Ms.nx r2.2, Ms.bo r2.2, Ms.ra r2.2, Ms.ki r2.2, Ms.nu r2.2, Ms.tv r2.2) else r2.2))
set_option maxRecDepth 100000 in
set_option maxHeartbeats 4000000 in
theorem c_X12_tellsHere_1000 (l : Launch) {fv : Value} (hf : FV fv) (m : Ms) (x : Int32) (hg : Pg 0 0 m) {w : Nat} (hx : x = nI w) (hw : w + 5 ≤ 222) : CT l fv 31 jX12_tellsHere [.ref 0, .int x, .ref 1000] (hMs m) (DP none (hMs (m_X12_tellsHere_1000 m x))) := by
  refine CT_of [] mt_X12_tellsHere (by decide +kernel) (tab_X12 hf) okX12_tellsHere (Nat.le_of_ble_eq_true rfl) ?_
  intro J hJ hD
  refine hJ 0 _ _ _ ?_
  obtain ⟨r1, er1⟩ : ∃ z : Ms, m_X12_spells_1000 m = z := ⟨_, rfl⟩
  have hr1 := c_X12_spells_1000 l hf m hg
  rw [er1] at hr1
  have h1 := ef_spells_1000_r er1
  have g1 := h1.1.2.2 0 0 hg
  refine CALL_same (r := none) (h1 := hMs r1) (by decide) (hr1) ?_
  obtain ⟨r2, er2⟩ : ∃ z : Int32 × Ms, m_X12_figures r1 = z := ⟨_, rfl⟩
  have hr2 := c_X12_figures l hf r1 g1
  rw [er2] at hr2
  have h2 := ef_figures_r er2
  have g2 := h2.2.2 0 0 g1
  refine CALL_same (r := some (.int r2.1)) (h1 := hMs r2.2) (by decide) (hr2) ?_
  refine And.intro (fun c3 => ?_) (fun c3 => ?_)
  · skip
    refine hJ 29 _ _ _ ?_
    exact And.intro rfl (DPs (F := (fun z => hMs z)) (s' := r2.2) ((bindv_eq er1).trans ((bindv_eq er2).trans (if_neg c3))))
  · skip
    refine And.intro (g2.wx hx hw) ?_
    exact And.intro rfl (DPs (F := (fun z => hMs z)) (s' := (Ms.th r2.2, (upd (Ms.s r2.2) (x + Ms.ac r2.2).toNatClampNeg r2.1), Ms.im r2.2, Ms.fr r2.2, Ms.hi r2.2, Ms.ac r2.2, Ms.sp r2.2, Ms.en r2.2, Ms.wr r2.2, Ms.op r2.2, Ms.bb r2.2, Ms.tr r2.2, Ms.su r2.2, Ms.lf r2.2, Ms.lk r2.2, Ms.nx r2.2, Ms.bo r2.2, Ms.ra r2.2, Ms.ki r2.2, Ms.nu r2.2, Ms.tv r2.2)) ((bindv_eq er1).trans ((bindv_eq er2).trans (if_pos c3))))
def m_X12_tellsHere_1001 (m : Ms) (x : Int32) : Ms := bindv (m_X12_spells_1001 m) (fun r1 => bindv (m_X12_figures r1) (fun r2 => if Ms.wr r2.2 = 0 then (Ms.th r2.2, (upd (Ms.s r2.2) (x + Ms.ac r2.2).toNatClampNeg r2.1), Ms.im r2.2, Ms.fr r2.2, Ms.hi r2.2, Ms.ac r2.2, Ms.sp r2.2, Ms.en r2.2, Ms.wr r2.2, Ms.op r2.2, Ms.bb r2.2, Ms.tr r2.2, Ms.su r2.2, Ms.lf r2.2, Ms.lk r2.2, Ms.nx r2.2, Ms.bo r2.2, Ms.ra r2.2, Ms.ki r2.2, Ms.nu r2.2, Ms.tv r2.2) else r2.2))
set_option maxRecDepth 100000 in
set_option maxHeartbeats 4000000 in
theorem c_X12_tellsHere_1001 (l : Launch) {fv : Value} (hf : FV fv) (m : Ms) (x : Int32) (hg : Pg 0 0 m) {w : Nat} (hx : x = nI w) (hw : w + 5 ≤ 222) : CT l fv 31 jX12_tellsHere [.ref 0, .int x, .ref 1001] (hMs m) (DP none (hMs (m_X12_tellsHere_1001 m x))) := by
  refine CT_of [] mt_X12_tellsHere (by decide +kernel) (tab_X12 hf) okX12_tellsHere (Nat.le_of_ble_eq_true rfl) ?_
  intro J hJ hD
  refine hJ 0 _ _ _ ?_
  obtain ⟨r1, er1⟩ : ∃ z : Ms, m_X12_spells_1001 m = z := ⟨_, rfl⟩
  have hr1 := c_X12_spells_1001 l hf m hg
  rw [er1] at hr1
  have h1 := ef_spells_1001_r er1
  have g1 := h1.1.2.2 0 0 hg
  refine CALL_same (r := none) (h1 := hMs r1) (by decide) (hr1) ?_
  obtain ⟨r2, er2⟩ : ∃ z : Int32 × Ms, m_X12_figures r1 = z := ⟨_, rfl⟩
  have hr2 := c_X12_figures l hf r1 g1
  rw [er2] at hr2
  have h2 := ef_figures_r er2
  have g2 := h2.2.2 0 0 g1
  refine CALL_same (r := some (.int r2.1)) (h1 := hMs r2.2) (by decide) (hr2) ?_
  refine And.intro (fun c3 => ?_) (fun c3 => ?_)
  · skip
    refine hJ 29 _ _ _ ?_
    exact And.intro rfl (DPs (F := (fun z => hMs z)) (s' := r2.2) ((bindv_eq er1).trans ((bindv_eq er2).trans (if_neg c3))))
  · skip
    refine And.intro (g2.wx hx hw) ?_
    exact And.intro rfl (DPs (F := (fun z => hMs z)) (s' := (Ms.th r2.2, (upd (Ms.s r2.2) (x + Ms.ac r2.2).toNatClampNeg r2.1), Ms.im r2.2, Ms.fr r2.2, Ms.hi r2.2, Ms.ac r2.2, Ms.sp r2.2, Ms.en r2.2, Ms.wr r2.2, Ms.op r2.2, Ms.bb r2.2, Ms.tr r2.2, Ms.su r2.2, Ms.lf r2.2, Ms.lk r2.2, Ms.nx r2.2, Ms.bo r2.2, Ms.ra r2.2, Ms.ki r2.2, Ms.nu r2.2, Ms.tv r2.2)) ((bindv_eq er1).trans ((bindv_eq er2).trans (if_pos c3))))

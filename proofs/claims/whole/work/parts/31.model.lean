/-! printed by wip/whole/gen/specs31.py: the check's own cells, and the contracts of its small methods -/
abbrev Ms : Type := Int32 × Fn × Fn × Fn × Int32 × Int32 × Int32 × Int32 × Int32 × Int32 × Fn × Fn × Fn × Fn × Int32 × Fn × Fn × Int32 × Int32 × Int32 × Int32
def Ms.th (s : Ms) : Int32 := s.1
def Ms.s (s : Ms) : Fn := s.2.1
def Ms.im (s : Ms) : Fn := s.2.2.1
def Ms.fr (s : Ms) : Fn := s.2.2.2.1
def Ms.hi (s : Ms) : Int32 := s.2.2.2.2.1
def Ms.ac (s : Ms) : Int32 := s.2.2.2.2.2.1
def Ms.sp (s : Ms) : Int32 := s.2.2.2.2.2.2.1
def Ms.en (s : Ms) : Int32 := s.2.2.2.2.2.2.2.1
def Ms.wr (s : Ms) : Int32 := s.2.2.2.2.2.2.2.2.1
def Ms.op (s : Ms) : Int32 := s.2.2.2.2.2.2.2.2.2.1
def Ms.bb (s : Ms) : Fn := s.2.2.2.2.2.2.2.2.2.2.1
def Ms.tr (s : Ms) : Fn := s.2.2.2.2.2.2.2.2.2.2.2.1
def Ms.su (s : Ms) : Fn := s.2.2.2.2.2.2.2.2.2.2.2.2.1
def Ms.lf (s : Ms) : Fn := s.2.2.2.2.2.2.2.2.2.2.2.2.2.1
def Ms.lk (s : Ms) : Int32 := s.2.2.2.2.2.2.2.2.2.2.2.2.2.2.1
def Ms.nx (s : Ms) : Fn := s.2.2.2.2.2.2.2.2.2.2.2.2.2.2.2.1
def Ms.bo (s : Ms) : Fn := s.2.2.2.2.2.2.2.2.2.2.2.2.2.2.2.2.1
def Ms.ra (s : Ms) : Int32 := s.2.2.2.2.2.2.2.2.2.2.2.2.2.2.2.2.2.1
def Ms.ki (s : Ms) : Int32 := s.2.2.2.2.2.2.2.2.2.2.2.2.2.2.2.2.2.2.1
def Ms.nu (s : Ms) : Int32 := s.2.2.2.2.2.2.2.2.2.2.2.2.2.2.2.2.2.2.2.1
def Ms.tv (s : Ms) : Int32 := s.2.2.2.2.2.2.2.2.2.2.2.2.2.2.2.2.2.2.2.2
def hMs (s : Ms) : List AE := [.inr (12, [.int (Ms.th s), .ref 1, .ref 2, .ref 3, .int (Ms.hi s), .int (Ms.ac s), .int (Ms.sp s), .int (Ms.en s), .int (Ms.wr s), .int (Ms.op s), .ref 4, .ref 5, .ref 6, .ref 7, .int (Ms.lk s), .ref 8, .ref 9, .int (Ms.ra s), .int (Ms.ki s), .int (Ms.nu s), .int (Ms.tv s)]), .inl (0, 927, .inl (Ms.s s)), .inl (0, 927, .inl (Ms.im s)), .inl (0, 17, .inl (Ms.fr s)), .inl (0, 6, .inl (Ms.bb s)), .inl (2, 64, .inl (Ms.tr s)), .inl (0, 4320, .inl (Ms.su s)), .inl (0, 4320, .inl (Ms.lf s)), .inl (0, 6, .inl (Ms.nx s)), .inl (0, 20, .inl (Ms.bo s))]
def rl (N : Nat) (x : Int32) : Prop := ∃ k : Nat, k ≤ N ∧ x = nI k
theorem vp_ad (a : Nat) {n N : Nat} {p : Int32} (hp : vp_in p n) (h : a + n ≤ N) (hN : N < 2 ^ 31) : vp_in (nI a + p) N := by
  obtain ⟨k, hk, rfl⟩ := vp_in_of hp (by omega)
  rw [nI_add]
  exact vp_in_nI (by omega) hN
theorem vp_nI {n N : Nat} {x : Int32} (hx : x = nI n) (h : n < N) (hN : N < 2 ^ 31) : vp_in x N := by rw [hx]; exact vp_in_nI h hN
def m_X12_in  (v : Int32) (lo : Int32) (hi : Int32) : Int32 := if v < lo then nI 0 else (if hi < v then nI 0 else nI 1)
theorem bl_X12_in  {v : Int32} {lo : Int32} {hi : Int32} : bl (m_X12_in v lo hi) := by
  unfold m_X12_in
  (repeat' split) <;> first | exact Or.inl rfl | exact Or.inr rfl
set_option maxRecDepth 20000 in
set_option maxHeartbeats 2000000 in
theorem c_X12_in (l : Launch) {fv : Value} (hf : FV fv)  (v : Int32) (lo : Int32) (hi : Int32) : CT l fv 1 jX12_in [.int v, .int lo, .int hi] ([]) (DP (some (.int (m_X12_in v lo hi))) ([])) := by
  refine CT_of [] mt_X12_in (by decide +kernel) (tab_X12 hf) okX12_in (Nat.le_of_ble_eq_true rfl) ?_
  intro J hJ hD
  refine hJ 0 _ _ _ ?_
  refine And.intro (fun c1 => ?_) (fun c1 => ?_)
  · skip
    refine hJ 14 _ _ _ ?_
    exact And.intro xb0 (DPi (if_pos c1))
  · skip
    refine And.intro (fun c2 => ?_) (fun c2 => ?_)
    · skip
      refine hJ 14 _ _ _ ?_
      exact And.intro xb0 (DPi ((if_neg c1).trans (if_pos c2)))
    · skip
      refine hJ 15 _ _ _ ?_
      exact And.intro xb1 (DPi ((if_neg c1).trans (if_neg c2)))
def m_X12_isUrchin (m : Ms) (p : Int32) : Int32 := (m_X12_in p (nI 0) ((Ms.s m (nI 17).toNatClampNeg) - nI 1))
theorem bl_X12_isUrchin {m : Ms} {p : Int32} : bl (m_X12_isUrchin m p) := by
  unfold m_X12_isUrchin
  (repeat' split) <;> first | exact Or.inl rfl | exact Or.inr rfl | exact bl_X12_in
set_option maxRecDepth 20000 in
set_option maxHeartbeats 2000000 in
theorem c_X12_isUrchin (l : Launch) {fv : Value} (hf : FV fv) (m : Ms) (p : Int32) : CT l fv 2 jX12_isUrchin [.ref 0, .int p] (hMs m) (DP (some (.int (m_X12_isUrchin m p))) (hMs m)) := by
  refine CT_of [] mt_X12_isUrchin (by decide +kernel) (tab_X12 hf) okX12_isUrchin (Nat.le_of_ble_eq_true rfl) ?_
  intro J hJ hD
  refine hJ 0 _ _ _ ?_
  refine And.intro (vp_in_nI (by decide) (by decide)) ?_
  refine CALL_sub (h' := hMs m) [] (by decide) (c_X12_in l hf p (nI 0) ((Ms.s m (nI 17).toNatClampNeg) - nI 1)) rfl rfl (by decide) (by decide) rfl ?_
  exact And.intro (xret_bl bl_X12_in) (DPi (rfl))
def m_X12_isFact  (f : Int32) : Int32 := (m_X12_in f (nI 0) (nI 7))
theorem bl_X12_isFact  {f : Int32} : bl (m_X12_isFact f) := by
  unfold m_X12_isFact
  (repeat' split) <;> first | exact Or.inl rfl | exact Or.inr rfl | exact bl_X12_in
set_option maxRecDepth 20000 in
set_option maxHeartbeats 2000000 in
theorem c_X12_isFact (l : Launch) {fv : Value} (hf : FV fv)  (f : Int32) : CT l fv 2 jX12_isFact [.int f] ([]) (DP (some (.int (m_X12_isFact f))) ([])) := by
  refine CT_of [] mt_X12_isFact (by decide +kernel) (tab_X12 hf) okX12_isFact (Nat.le_of_ble_eq_true rfl) ?_
  intro J hJ hD
  refine hJ 0 _ _ _ ?_
  refine CALL_sub (h' := []) [] (by decide) (c_X12_in l hf f (nI 0) (nI 7)) rfl rfl (by decide) (by decide) rfl ?_
  exact And.intro (xret_bl bl_X12_in) (DPi (rfl))
def l_X12_keeps_2 (m : Ms) : Nat → Int32 → Fn → Ms
  | 0, _, _ => m
  | n2 + 1, i, fr => if nI 17 ≤ i then (Ms.th m, Ms.s m, Ms.im m, fr, Ms.hi m, Ms.ac m, Ms.sp m, Ms.en m, Ms.wr m, Ms.op m, Ms.bb m, Ms.tr m, Ms.su m, Ms.lf m, Ms.lk m, Ms.nx m, Ms.bo m, Ms.ra m, Ms.ki m, Ms.nu m, Ms.tv m) else l_X12_keeps_2 m n2 (i + nI 1) (upd fr i.toNatClampNeg (Ms.s m i.toNatClampNeg))
def m_X12_keeps (m : Ms) : Ms := l_X12_keeps_2 m 18 (nI 0) (Ms.fr m)
set_option maxRecDepth 20000 in
set_option maxHeartbeats 2000000 in
theorem c_X12_keeps (l : Launch) {fv : Value} (hf : FV fv) (m : Ms) : CT l fv 1 jX12_keeps [.ref 0] (hMs m) (DP none (hMs (m_X12_keeps m))) := by
  refine CT_of [2] mt_X12_keeps (by decide +kernel) (tab_X12 hf) okX12_keeps (Nat.le_of_ble_eq_true rfl) ?_
  intro J hJ hD
  refine hJ 0 _ _ _ ?_
  have L2 : ∀ (n2 : Nat) (i : Int32) (fr : Fn), (∃ z9 : Nat, z9 ≤ 17 ∧ n2 + z9 = 18 ∧ i = nI z9) → m_X12_keeps m = l_X12_keeps_2 m n2 i fr → J 2 [(0, .ref 0), (1, .int i)] [] (hMs (Ms.th m, Ms.s m, Ms.im m, fr, Ms.hi m, Ms.ac m, Ms.sp m, Ms.en m, Ms.wr m, Ms.op m, Ms.bb m, Ms.tr m, Ms.su m, Ms.lf m, Ms.lk m, Ms.nx m, Ms.bo m, Ms.ra m, Ms.ki m, Ms.nu m, Ms.tv m)) := by
    intro n2
    induction n2 with
    | zero =>
      intro i fr hv
      obtain ⟨z9, h1, h2, h3⟩ := hv
      omega
    | succ n2 ih2 =>
      intro i fr hv e2
      obtain ⟨z9, h1, h2, h3⟩ := hv
      refine hJ 2 _ _ _ ?_
      refine And.intro (fun c1 => ?_) (fun c1 => ?_)
      · skip
        refine hJ 26 _ _ _ ?_
        exact And.intro rfl (DPs (F := (fun z => hMs z)) (s' := (Ms.th m, Ms.s m, Ms.im m, fr, Ms.hi m, Ms.ac m, Ms.sp m, Ms.en m, Ms.wr m, Ms.op m, Ms.bb m, Ms.tr m, Ms.su m, Ms.lf m, Ms.lk m, Ms.nx m, Ms.bo m, Ms.ra m, Ms.ki m, Ms.nu m, Ms.tv m)) (e2.trans (if_pos c1)))
      · skip
        have h4 := cnt_lt h3 h1 (by decide) c1
        refine And.intro (by rw [h3]; exact vp_in_nI (by omega) (by decide)) ?_
        refine And.intro (by rw [h3]; exact vp_in_nI (by omega) (by decide)) ?_
        exact hD _ _ [1, 0] _ _ (ih2 _ _ ⟨z9 + 1, h4, by omega, by rw [h3]; exact nI_add z9 1⟩ (e2.trans (if_neg c1)))
  exact hD _ _ [1, 0] _ _ (L2 18 _ _ ⟨0, by decide, by decide, rfl⟩ (rfl))
def l_X12_goesBack_2 (m : Ms) : Nat → Int32 → Fn → Ms
  | 0, _, _ => m
  | n2 + 1, i, s => if nI 17 ≤ i then (Ms.th m, s, Ms.im m, Ms.fr m, Ms.hi m, Ms.ac m, Ms.sp m, Ms.en m, Ms.wr m, Ms.op m, Ms.bb m, Ms.tr m, Ms.su m, Ms.lf m, Ms.lk m, Ms.nx m, Ms.bo m, Ms.ra m, Ms.ki m, Ms.nu m, Ms.tv m) else l_X12_goesBack_2 m n2 (i + nI 1) (upd s i.toNatClampNeg (Ms.fr m i.toNatClampNeg))
def m_X12_goesBack (m : Ms) : Ms := l_X12_goesBack_2 m 18 (nI 0) (Ms.s m)
set_option maxRecDepth 20000 in
set_option maxHeartbeats 2000000 in
theorem c_X12_goesBack (l : Launch) {fv : Value} (hf : FV fv) (m : Ms) : CT l fv 1 jX12_goesBack [.ref 0] (hMs m) (DP none (hMs (m_X12_goesBack m))) := by
  refine CT_of [2] mt_X12_goesBack (by decide +kernel) (tab_X12 hf) okX12_goesBack (Nat.le_of_ble_eq_true rfl) ?_
  intro J hJ hD
  refine hJ 0 _ _ _ ?_
  have L2 : ∀ (n2 : Nat) (i : Int32) (s : Fn), (∃ z9 : Nat, z9 ≤ 17 ∧ n2 + z9 = 18 ∧ i = nI z9) → m_X12_goesBack m = l_X12_goesBack_2 m n2 i s → J 2 [(0, .ref 0), (1, .int i)] [] (hMs (Ms.th m, s, Ms.im m, Ms.fr m, Ms.hi m, Ms.ac m, Ms.sp m, Ms.en m, Ms.wr m, Ms.op m, Ms.bb m, Ms.tr m, Ms.su m, Ms.lf m, Ms.lk m, Ms.nx m, Ms.bo m, Ms.ra m, Ms.ki m, Ms.nu m, Ms.tv m)) := by
    intro n2
    induction n2 with
    | zero =>
      intro i s hv
      obtain ⟨z9, h1, h2, h3⟩ := hv
      omega
    | succ n2 ih2 =>
      intro i s hv e2
      obtain ⟨z9, h1, h2, h3⟩ := hv
      refine hJ 2 _ _ _ ?_
      refine And.intro (fun c1 => ?_) (fun c1 => ?_)
      · skip
        refine hJ 26 _ _ _ ?_
        exact And.intro rfl (DPs (F := (fun z => hMs z)) (s' := (Ms.th m, s, Ms.im m, Ms.fr m, Ms.hi m, Ms.ac m, Ms.sp m, Ms.en m, Ms.wr m, Ms.op m, Ms.bb m, Ms.tr m, Ms.su m, Ms.lf m, Ms.lk m, Ms.nx m, Ms.bo m, Ms.ra m, Ms.ki m, Ms.nu m, Ms.tv m)) (e2.trans (if_pos c1)))
      · skip
        have h4 := cnt_lt h3 h1 (by decide) c1
        refine And.intro (by rw [h3]; exact vp_in_nI (by omega) (by decide)) ?_
        refine And.intro (by rw [h3]; exact vp_in_nI (by omega) (by decide)) ?_
        exact hD _ _ [1, 0] _ _ (ih2 _ _ ⟨z9 + 1, h4, by omega, by rw [h3]; exact nI_add z9 1⟩ (e2.trans (if_neg c1)))
  exact hD _ _ [1, 0] _ _ (L2 18 _ _ ⟨0, by decide, by decide, rfl⟩ (rfl))
def m_X12_looksAnew (m : Ms) : Ms := (Ms.th m, Ms.s m, Ms.im m, Ms.fr m, Ms.hi m, Ms.ac m, Ms.sp m, Ms.en m, Ms.wr m, Ms.op m, Ms.bb m, Ms.tr m, Ms.su m, Ms.lf m, (Ms.lk m + nI 1), Ms.nx m, Ms.bo m, Ms.ra m, Ms.ki m, Ms.nu m, Ms.tv m)
set_option maxRecDepth 20000 in
set_option maxHeartbeats 2000000 in
theorem c_X12_looksAnew (l : Launch) {fv : Value} (hf : FV fv) (m : Ms) : CT l fv 1 jX12_looksAnew [.ref 0] (hMs m) (DP none (hMs (m_X12_looksAnew m))) := by
  refine CT_of [] mt_X12_looksAnew (by decide +kernel) (tab_X12 hf) okX12_looksAnew (Nat.le_of_ble_eq_true rfl) ?_
  intro J hJ hD
  refine hJ 0 _ _ _ ?_
  refine And.intro True.intro ?_
  exact And.intro rfl (DPs (F := (fun z => hMs z)) (s' := (Ms.th m, Ms.s m, Ms.im m, Ms.fr m, Ms.hi m, Ms.ac m, Ms.sp m, Ms.en m, Ms.wr m, Ms.op m, Ms.bb m, Ms.tr m, Ms.su m, Ms.lf m, (Ms.lk m + nI 1), Ms.nx m, Ms.bo m, Ms.ra m, Ms.ki m, Ms.nu m, Ms.tv m)) (rfl))
def m_X12_becomes (m : Ms) (x : Int32) (n : Int32) : Int32 × Ms := ((Ms.s m x.toNatClampNeg), (Ms.th m, (upd (Ms.s m) x.toNatClampNeg n), Ms.im m, Ms.fr m, Ms.hi m, Ms.ac m, Ms.sp m, Ms.en m, Ms.wr m, Ms.op m, Ms.bb m, Ms.tr m, Ms.su m, Ms.lf m, Ms.lk m, Ms.nx m, Ms.bo m, Ms.ra m, Ms.ki m, Ms.nu m, Ms.tv m))
set_option maxRecDepth 20000 in
set_option maxHeartbeats 2000000 in
theorem c_X12_becomes (l : Launch) {fv : Value} (hf : FV fv) (m : Ms) (x : Int32) (n : Int32) (hx : vp_in x 927) : CT l fv 1 jX12_becomes [.ref 0, .int x, .int n] (hMs m) (DP (some (.int (m_X12_becomes m x n).1)) (hMs ((m_X12_becomes m x n).2))) := by
  refine CT_of [] mt_X12_becomes (by decide +kernel) (tab_X12 hf) okX12_becomes (Nat.le_of_ble_eq_true rfl) ?_
  intro J hJ hD
  refine hJ 0 _ _ _ ?_
  refine And.intro (hx) ?_
  refine And.intro (hx) ?_
  exact And.intro True.intro (DPis (F := (fun z => hMs z)) (s' := (Ms.th m, (upd (Ms.s m) x.toNatClampNeg n), Ms.im m, Ms.fr m, Ms.hi m, Ms.ac m, Ms.sp m, Ms.en m, Ms.wr m, Ms.op m, Ms.bb m, Ms.tr m, Ms.su m, Ms.lf m, Ms.lk m, Ms.nx m, Ms.bo m, Ms.ra m, Ms.ki m, Ms.nu m, Ms.tv m)) (rfl))
def m_X12_tellsOf (m : Ms) (x : Int32) (z : Int32) : Int32 := if (Ms.s m (nI 23).toNatClampNeg) = (-nI 1) then z else (Ms.s m (x + (Ms.s m (nI 23).toNatClampNeg)).toNatClampNeg)
set_option maxRecDepth 20000 in
set_option maxHeartbeats 2000000 in
theorem c_X12_tellsOf (l : Launch) {fv : Value} (hf : FV fv) (m : Ms) (x : Int32) (z : Int32) (hx : ¬ Ms.s m (nI 23).toNatClampNeg = (-nI 1) → vp_in (x + Ms.s m (nI 23).toNatClampNeg) 927) : CT l fv 1 jX12_tellsOf [.ref 0, .int x, .int z] (hMs m) (DP (some (.int (m_X12_tellsOf m x z))) (hMs m)) := by
  refine CT_of [] mt_X12_tellsOf (by decide +kernel) (tab_X12 hf) okX12_tellsOf (Nat.le_of_ble_eq_true rfl) ?_
  intro J hJ hD
  refine hJ 0 _ _ _ ?_
  refine And.intro (vp_in_nI (by decide) (by decide)) ?_
  refine And.intro (fun c1 => ?_) (fun c1 => ?_)
  · skip
    refine hJ 15 _ _ _ ?_
    refine And.intro (vp_in_nI (by decide) (by decide)) ?_
    refine And.intro (hx c1) ?_
    exact And.intro True.intro (DPi (if_neg c1))
  · skip
    refine hJ 29 _ _ _ ?_
    exact And.intro True.intro (DPi (if_pos c1))
def l_X12_countOf_4  (x : Int32) : Nat → Int32 → Int32 → Int32
  | 0, _, _ => 0
  | n4 + 1, n, k => if nI 8 ≤ k then n else l_X12_countOf_4 x n4 (n + ((x >>> (k &&& 31)) &&& nI 1)) (k + nI 1)
def m_X12_countOf  (x : Int32) : Int32 := l_X12_countOf_4 x 9 (nI 0) (nI 0)
set_option maxRecDepth 20000 in
set_option maxHeartbeats 2000000 in
theorem c_X12_countOf (l : Launch) {fv : Value} (hf : FV fv)  (x : Int32) : CT l fv 1 jX12_countOf [.int x] ([]) (DP (some (.int (m_X12_countOf x))) ([])) := by
  refine CT_of [4] mt_X12_countOf (by decide +kernel) (tab_X12 hf) okX12_countOf (Nat.le_of_ble_eq_true rfl) ?_
  intro J hJ hD
  refine hJ 0 _ _ _ ?_
  have L4 : ∀ (n4 : Nat) (n : Int32) (k : Int32), (∃ z9 : Nat, z9 ≤ 8 ∧ n4 + z9 = 9 ∧ k = nI z9) → m_X12_countOf x = l_X12_countOf_4 x n4 n k → J 4 [(0, .int x), (1, .int n), (2, .int k)] [] [] := by
    intro n4
    induction n4 with
    | zero =>
      intro n k hv
      obtain ⟨z9, h1, h2, h3⟩ := hv
      omega
    | succ n4 ih4 =>
      intro n k hv e4
      obtain ⟨z9, h1, h2, h3⟩ := hv
      refine hJ 4 _ _ _ ?_
      refine And.intro (fun c1 => ?_) (fun c1 => ?_)
      · skip
        refine hJ 24 _ _ _ ?_
        exact And.intro True.intro (DPi (e4.trans (if_pos c1)))
      · skip
        have h4 := cnt_lt h3 h1 (by decide) c1
        exact hD _ _ [2, 1, 0] _ _ (ih4 _ _ ⟨z9 + 1, h4, by omega, by rw [h3]; exact nI_add z9 1⟩ (e4.trans (if_neg c1)))
  exact hD _ _ [2, 1, 0] _ _ (L4 9 _ _ ⟨0, by decide, by decide, rfl⟩ (rfl))
theorem rl_clamp {N : Nat} {x : Int32} (h : rl N x) (hN : N < 2 ^ 31) : ∃ k, k ≤ N ∧ x = nI k ∧ x.toNatClampNeg = k := by
  obtain ⟨k, hk, rfl⟩ := h
  exact ⟨k, hk, rfl, nI_clamp (by omega)⟩
theorem rl_cnt : ∀ (n : Nat) (x a k : Int32) (j : Nat), n + j = 9 → rl j a → k = nI j → rl 8 (l_X12_countOf_4 x n a k)
  | 0, x, a, k, j, h, ha, hk => ⟨0, by omega, rfl⟩
  | n + 1, x, a, k, j, h, ha, hk => by
    unfold l_X12_countOf_4
    by_cases c : nI 8 ≤ k
    · rw [if_pos c]
      rw [hk, nI_leI (by omega) (by omega)] at c
      obtain ⟨q, hq, rfl⟩ := ha
      exact ⟨q, by omega, rfl⟩
    · rw [if_neg c]
      refine rl_cnt n x _ _ (j + 1) (by omega) ?_ (by rw [hk]; exact nI_add j 1)
      obtain ⟨q, hq, rfl⟩ := ha
      have h1 : ∀ y : Int32, y &&& nI 1 = nI 0 ∨ y &&& nI 1 = nI 1 := by
        intro y
        obtain ⟨z, hz, e⟩ := pk_andE y 1 (m := nI 1) (by decide)
        have : z = 0 ∨ z = 1 := by omega
        rcases this with rfl | rfl
        · exact Or.inl e
        · exact Or.inr e
      rcases h1 (x >>> (k &&& 31)) with e | e
      · rw [e, nI_add]; exact ⟨q + 0, by omega, rfl⟩
      · rw [e, nI_add]; exact ⟨q + 1, by omega, rfl⟩
theorem rl_count (x : Int32) : rl 8 (m_X12_countOf x) := rl_cnt 9 x _ _ 0 rfl ⟨0, Nat.le_refl 0, rfl⟩ rfl
theorem vp_md {x : Int32} {d t : Nat} (h : x = nI t) (ht : t < 2 ^ 31) (h0 : 0 < d) (hd : d < 2 ^ 31) : x - x / nI d * nI d = nI (t % d) := by rw [h]; exact pk_rem ht h0 hd
/-- the model's numbers: how many urchins, tides gone, which ledge holds -/
def hU (m : Ms) : Prop := rl 6 (Ms.s m (nI 17).toNatClampNeg)
def hT (m : Ms) : Prop := rl 1000000 (Ms.s m (nI 0).toNatClampNeg)
def hH (m : Ms) : Prop := ¬ Ms.s m (nI 23).toNatClampNeg = (-nI 1) → vp_in (Ms.s m (nI 23).toNatClampNeg) 5
/-- steps that can be gone through: how many truths stand there ahead of each -/
def RPs (f : Nat → Int32) (n : Nat) (dp : Nat → Nat) : Prop := dp 0 = 0 ∧ ∀ j, j < n → dp j < 64 ∧
  (¬ f j < 0 → vp_in (f j - f j / nI 8 * nI 8) 6 ∧ dp (j + 1) = dp j + 1) ∧ (f j = (-nI 1) → 1 ≤ dp j ∧ dp (j + 1) = dp j) ∧ (f j < 0 → ¬ f j = (-nI 1) → ¬ f j ≤ (-nI 10) → 2 ≤ dp j ∧ dp (j + 1) = dp j - 1) ∧ (f j ≤ (-nI 10) → dp (j + 1) = 0)
theorem RP_step {f : Nat → Int32} {F n j : Nat} {dp : Nat → Nat} {i top : Int32} (h : RPs (fun j => f (F + j)) n dp) (hj : j < n) (hF : F + n ≤ 927) (hi : i = nI (F + j)) (ht : top = nI (dp j)) :
    vp_in i 927 ∧ vp_in top 64 ∧ (¬ f i.toNatClampNeg < 0 → vp_in (f i.toNatClampNeg - f i.toNatClampNeg / nI 8 * nI 8) 6 ∧ top + nI 1 = nI (dp (j + 1))) ∧
    (f i.toNatClampNeg = (-nI 1) → vp_in (top - nI 1) 64 ∧ top = nI (dp (j + 1))) ∧
    (f i.toNatClampNeg < 0 → ¬ f i.toNatClampNeg = (-nI 1) → ¬ f i.toNatClampNeg ≤ (-nI 10) → vp_in (top + (-nI 1)) 64 ∧ vp_in ((top + (-nI 1)) - nI 1) 64 ∧ top + (-nI 1) = nI (dp (j + 1))) ∧
    (f i.toNatClampNeg ≤ (-nI 10) → nI 0 = nI (dp (j + 1))) := by
  obtain ⟨h0, h1, h2, h3, h4⟩ := h.2 j hj
  have e : i.toNatClampNeg = F + j := by rw [hi, nI_clamp (by omega)]
  rw [e]
  refine ⟨by rw [hi]; exact vp_in_nI (by omega) (by decide), by rw [ht]; exact vp_in_nI h0 (by decide), fun c => ⟨(h1 c).1, by rw [ht, (h1 c).2]; exact nI_add _ 1⟩, fun c => ⟨?_, by rw [ht, (h2 c).2]⟩, fun c1 c2 c3 => ?_, fun c => by rw [h4 c]⟩
  · rw [ht, pk_sub (h2 c).1]
    exact vp_in_nI (by omega) (by decide)
  · obtain ⟨q1, q2⟩ := h3 c1 c2 c3
    obtain ⟨z, hz⟩ : ∃ z, dp j = z + 2 := ⟨dp j - 2, by omega⟩
    have e1 : top + (-nI 1) = nI (z + 1) := by rw [ht, hz]; exact pk_m1 (z + 1)
    rw [e1]
    refine ⟨vp_in_nI (by omega) (by decide), ?_, by rw [q2, hz]; rfl⟩
    rw [pk_sub (by omega)]
    exact vp_in_nI (by omega) (by decide)
theorem lt_of_cond {F j n : Nat} {i : Int32} (hi : i = nI (F + j)) (h : F + n ≤ 927) (hj : j ≤ n) (c : ¬ nI F + nI n ≤ i) : j < n := by
  rw [hi, nI_add, nI_leI (by omega) (by omega)] at c
  omega
def hS (m : Ms) : Prop := ∃ (F n : Nat) (dp : Nat → Nat), (nI 227 + (nI 140 * (Ms.s m (nI 23).toNatClampNeg))) = nI F ∧ m_X12_tellsOf m (nI 222) (nI 0) = nI n ∧ F + n ≤ 927 ∧ RPs (fun j => Ms.s m (F + j)) n dp
theorem hH_ad {m : Ms} (h : hH m) (a : Nat) (ha : a + 5 ≤ 927) (c : ¬ Ms.s m (nI 23).toNatClampNeg = (-nI 1)) : vp_in (nI a + Ms.s m (nI 23).toNatClampNeg) 927 := vp_ad a (h c) ha (by decide)
def l_X12_clausesOf_96 (m : Ms) (p : Int32) (f : Int32) (many : Int32) (tide : Int32) : Nat → Int32 → Int32 → Int32 → Fn → Int32 × Ms
  | 0, _, _, _, _ => (0, m)
  | n96 + 1, sum, top, i, tr => if ((nI 227 + (nI 140 * (Ms.s m (nI 23).toNatClampNeg))) + (m_X12_tellsOf (Ms.th m, Ms.s m, Ms.im m, Ms.fr m, Ms.hi m, Ms.ac m, Ms.sp m, Ms.en m, Ms.wr m, Ms.op m, (upd (upd (upd (upd (upd (upd (Ms.bb m) (nI 0).toNatClampNeg p) (nI 1).toNatClampNeg (Ms.s m (nI 24 + p).toNatClampNeg)) (nI 2).toNatClampNeg (Ms.s m (nI 30 + p).toNatClampNeg)) (nI 3).toNatClampNeg f) (nI 4).toNatClampNeg many) (nI 5).toNatClampNeg tide), Ms.tr m, Ms.su m, Ms.lf m, Ms.lk m, Ms.nx m, Ms.bo m, Ms.ra m, Ms.ki m, Ms.nu m, Ms.tv m) (nI 222) (nI 0))) ≤ i then (sum, (Ms.th m, Ms.s m, Ms.im m, Ms.fr m, Ms.hi m, Ms.ac m, Ms.sp m, Ms.en m, Ms.wr m, Ms.op m, (upd (upd (upd (upd (upd (upd (Ms.bb m) (nI 0).toNatClampNeg p) (nI 1).toNatClampNeg (Ms.s m (nI 24 + p).toNatClampNeg)) (nI 2).toNatClampNeg (Ms.s m (nI 30 + p).toNatClampNeg)) (nI 3).toNatClampNeg f) (nI 4).toNatClampNeg many) (nI 5).toNatClampNeg tide), tr, Ms.su m, Ms.lf m, Ms.lk m, Ms.nx m, Ms.bo m, Ms.ra m, Ms.ki m, Ms.nu m, Ms.tv m)) else (if (Ms.s m i.toNatClampNeg) < 0 then (if (Ms.s m i.toNatClampNeg) = (-nI 1) then (bindv (if (tr (top - nI 1).toNatClampNeg) = 0 then (nI 1) else (nI 0)) (fun x17_0 => l_X12_clausesOf_96 m p f many tide n96 sum top (i + nI 1) (upd tr (top - nI 1).toNatClampNeg (vp_nar .boolean x17_0)))) else (if (Ms.s m i.toNatClampNeg) ≤ (-nI 10) then (bindv (if (tr (nI 0).toNatClampNeg) = 0 then (nI 0) else (if (Ms.s m i.toNatClampNeg) ≤ (-nI 200) then (nI 0) else ((-nI 10) - (Ms.s m i.toNatClampNeg)))) (fun x5_0 => bindv (if (tr (nI 0).toNatClampNeg) = 0 then (nI 0) else (if (-nI 200) < (Ms.s m i.toNatClampNeg) then (nI 0) else ((-nI 200) - (Ms.s m i.toNatClampNeg)))) (fun x6_0 => l_X12_clausesOf_96 m p f many tide n96 ((sum + x5_0) - x6_0) (nI 0) (i + nI 1) tr))) else (bindv (if (Ms.s m i.toNatClampNeg) = (-nI 2) then (if (tr ((top + (-nI 1)) - nI 1).toNatClampNeg) = 0 then (nI 0) else (if (tr (top + (-nI 1)).toNatClampNeg) = 0 then (nI 0) else (nI 1))) else (if (tr ((top + (-nI 1)) - nI 1).toNatClampNeg) = 0 then (if (tr (top + (-nI 1)).toNatClampNeg) = 0 then (nI 0) else (nI 1)) else (nI 1))) (fun x11_0 => l_X12_clausesOf_96 m p f many tide n96 sum (top + (-nI 1)) (i + nI 1) (upd tr ((top + (-nI 1)) - nI 1).toNatClampNeg (vp_nar .boolean x11_0)))))) else (bindv (if (((Ms.s m i.toNatClampNeg) / nI 8) - ((Ms.s m i.toNatClampNeg) / nI 8) / nI 4 * nI 4) = 0 then (if ((Ms.s m i.toNatClampNeg) / nI 32) ≤ ((upd (upd (upd (upd (upd (upd (Ms.bb m) (nI 0).toNatClampNeg p) (nI 1).toNatClampNeg (Ms.s m (nI 24 + p).toNatClampNeg)) (nI 2).toNatClampNeg (Ms.s m (nI 30 + p).toNatClampNeg)) (nI 3).toNatClampNeg f) (nI 4).toNatClampNeg many) (nI 5).toNatClampNeg tide) ((Ms.s m i.toNatClampNeg) - (Ms.s m i.toNatClampNeg) / nI 8 * nI 8).toNatClampNeg) then (nI 0) else (nI 1)) else (if (((Ms.s m i.toNatClampNeg) / nI 8) - ((Ms.s m i.toNatClampNeg) / nI 8) / nI 4 * nI 4) = nI 1 then (if ((upd (upd (upd (upd (upd (upd (Ms.bb m) (nI 0).toNatClampNeg p) (nI 1).toNatClampNeg (Ms.s m (nI 24 + p).toNatClampNeg)) (nI 2).toNatClampNeg (Ms.s m (nI 30 + p).toNatClampNeg)) (nI 3).toNatClampNeg f) (nI 4).toNatClampNeg many) (nI 5).toNatClampNeg tide) ((Ms.s m i.toNatClampNeg) - (Ms.s m i.toNatClampNeg) / nI 8 * nI 8).toNatClampNeg) = ((Ms.s m i.toNatClampNeg) / nI 32) then (nI 1) else (nI 0)) else (if ((upd (upd (upd (upd (upd (upd (Ms.bb m) (nI 0).toNatClampNeg p) (nI 1).toNatClampNeg (Ms.s m (nI 24 + p).toNatClampNeg)) (nI 2).toNatClampNeg (Ms.s m (nI 30 + p).toNatClampNeg)) (nI 3).toNatClampNeg f) (nI 4).toNatClampNeg many) (nI 5).toNatClampNeg tide) ((Ms.s m i.toNatClampNeg) - (Ms.s m i.toNatClampNeg) / nI 8 * nI 8).toNatClampNeg) ≤ ((Ms.s m i.toNatClampNeg) / nI 32) then (nI 0) else (nI 1)))) (fun x19_0 => l_X12_clausesOf_96 m p f many tide n96 sum (top + nI 1) (i + nI 1) (upd tr top.toNatClampNeg (vp_nar .boolean x19_0)))))
def m_X12_clausesOf (m : Ms) (p : Int32) (f : Int32) (many : Int32) (tide : Int32) : Int32 × Ms := l_X12_clausesOf_96 m p f many tide 1000 (nI 3) (nI 0) (nI 227 + (nI 140 * (Ms.s m (nI 23).toNatClampNeg))) (Ms.tr m)
set_option maxRecDepth 20000 in
set_option maxHeartbeats 2000000 in
theorem c_X12_clausesOf (l : Launch) {fv : Value} (hf : FV fv) (m : Ms) (p : Int32) (f : Int32) (many : Int32) (tide : Int32) (hp : vp_in p 6) (hh : hH m) (hs : hS m) : CT l fv 2 jX12_clausesOf [.ref 0, .int p, .int f, .int many, .int tide] (hMs m) (DP (some (.int (m_X12_clausesOf m p f many tide).1)) (hMs ((m_X12_clausesOf m p f many tide).2))) := by
  refine CT_of [96, 207, 245, 331, 370, 398] mt_X12_clausesOf (by decide +kernel) (tab_X12 hf) okX12_clausesOf (Nat.le_of_ble_eq_true rfl) ?_
  intro J hJ hD
  refine hJ 0 _ _ _ ?_
  refine And.intro (vp_in_nI (by decide) (by decide)) ?_
  refine And.intro (vp_ad 24 hp (by decide) (by decide)) ?_
  refine And.intro (vp_in_nI (by decide) (by decide)) ?_
  refine And.intro (vp_ad 30 hp (by decide) (by decide)) ?_
  refine And.intro (vp_in_nI (by decide) (by decide)) ?_
  refine And.intro (vp_in_nI (by decide) (by decide)) ?_
  refine And.intro (vp_in_nI (by decide) (by decide)) ?_
  refine And.intro (vp_in_nI (by decide) (by decide)) ?_
  refine CALL_same (by decide) (c_X12_tellsOf l hf (Ms.th m, Ms.s m, Ms.im m, Ms.fr m, Ms.hi m, Ms.ac m, Ms.sp m, Ms.en m, Ms.wr m, Ms.op m, (upd (upd (upd (upd (upd (upd (Ms.bb m) (nI 0).toNatClampNeg p) (nI 1).toNatClampNeg (Ms.s m (nI 24 + p).toNatClampNeg)) (nI 2).toNatClampNeg (Ms.s m (nI 30 + p).toNatClampNeg)) (nI 3).toNatClampNeg f) (nI 4).toNatClampNeg many) (nI 5).toNatClampNeg tide), Ms.tr m, Ms.su m, Ms.lf m, Ms.lk m, Ms.nx m, Ms.bo m, Ms.ra m, Ms.ki m, Ms.nu m, Ms.tv m) (nI 222) (nI 0) (fun c => hH_ad hh 222 (by decide) c)) ?_
  refine And.intro (vp_in_nI (by decide) (by decide)) ?_
  have L96 : ∀ (n96 : Nat) (sum : Int32) (top : Int32) (i : Int32) (tr : Fn), (∃ (F n j : Nat) (dp : Nat → Nat), (nI 227 + (nI 140 * (Ms.s m (nI 23).toNatClampNeg))) = nI F ∧ m_X12_tellsOf m (nI 222) (nI 0) = nI n ∧ F + n ≤ 927 ∧ RPs (fun j => Ms.s m (F + j)) n dp ∧ n96 + j = 1000 ∧ j ≤ n ∧ i = nI (F + j) ∧ top = nI (dp j)) → m_X12_clausesOf m p f many tide = l_X12_clausesOf_96 m p f many tide n96 sum top i tr → J 96 [(0, .ref 0), (5, .int sum), (6, .int (m_X12_tellsOf (Ms.th m, Ms.s m, Ms.im m, Ms.fr m, Ms.hi m, Ms.ac m, Ms.sp m, Ms.en m, Ms.wr m, Ms.op m, (upd (upd (upd (upd (upd (upd (Ms.bb m) (nI 0).toNatClampNeg p) (nI 1).toNatClampNeg (Ms.s m (nI 24 + p).toNatClampNeg)) (nI 2).toNatClampNeg (Ms.s m (nI 30 + p).toNatClampNeg)) (nI 3).toNatClampNeg f) (nI 4).toNatClampNeg many) (nI 5).toNatClampNeg tide), Ms.tr m, Ms.su m, Ms.lf m, Ms.lk m, Ms.nx m, Ms.bo m, Ms.ra m, Ms.ki m, Ms.nu m, Ms.tv m) (nI 222) (nI 0))), (7, .int (nI 227 + (nI 140 * (Ms.s m (nI 23).toNatClampNeg)))), (8, .int top), (9, .int i)] [] (hMs (Ms.th m, Ms.s m, Ms.im m, Ms.fr m, Ms.hi m, Ms.ac m, Ms.sp m, Ms.en m, Ms.wr m, Ms.op m, (upd (upd (upd (upd (upd (upd (Ms.bb m) (nI 0).toNatClampNeg p) (nI 1).toNatClampNeg (Ms.s m (nI 24 + p).toNatClampNeg)) (nI 2).toNatClampNeg (Ms.s m (nI 30 + p).toNatClampNeg)) (nI 3).toNatClampNeg f) (nI 4).toNatClampNeg many) (nI 5).toNatClampNeg tide), tr, Ms.su m, Ms.lf m, Ms.lk m, Ms.nx m, Ms.bo m, Ms.ra m, Ms.ki m, Ms.nu m, Ms.tv m)) := by
    intro n96
    induction n96 with
    | zero =>
      intro sum top i tr hv
      obtain ⟨F, n, j, dp, g1, g2, g3, g4, g5, g6, g7, g8⟩ := hv
      omega
    | succ n96 ih96 =>
      intro sum top i tr hv e96
      obtain ⟨F, n, j, dp, g1, g2, g3, g4, g5, g6, g7, g8⟩ := hv
      refine hJ 96 _ _ _ ?_
      refine And.intro (fun c1 => ?_) (fun c1 => ?_)
      · skip
        refine hJ 407 _ _ _ ?_
        exact And.intro True.intro (DPis (F := (fun z => hMs z)) (s' := (Ms.th m, Ms.s m, Ms.im m, Ms.fr m, Ms.hi m, Ms.ac m, Ms.sp m, Ms.en m, Ms.wr m, Ms.op m, (upd (upd (upd (upd (upd (upd (Ms.bb m) (nI 0).toNatClampNeg p) (nI 1).toNatClampNeg (Ms.s m (nI 24 + p).toNatClampNeg)) (nI 2).toNatClampNeg (Ms.s m (nI 30 + p).toNatClampNeg)) (nI 3).toNatClampNeg f) (nI 4).toNatClampNeg many) (nI 5).toNatClampNeg tide), tr, Ms.su m, Ms.lf m, Ms.lk m, Ms.nx m, Ms.bo m, Ms.ra m, Ms.ki m, Ms.nu m, Ms.tv m)) (e96.trans (if_pos c1)))
      · skip
        refine And.intro (ti) ?_
        refine And.intro (fun c2 => ?_) (fun c2 => ?_)
        · skip
          refine hJ 214 _ _ _ ?_
          refine And.intro (fun c3 => ?_) (fun c3 => ?_)
          · skip
            refine hJ 249 _ _ _ ?_
            refine And.intro (fun c4 => ?_) (fun c4 => ?_)
            · skip
              refine hJ 335 _ _ _ ?_
              refine And.intro (vp_in_nI (by decide) (by decide)) ?_
              have K5 : ∀ (x5_0 : Int32), (if (tr (nI 0).toNatClampNeg) = 0 then (nI 0) else (if (Ms.s m i.toNatClampNeg) ≤ (-nI 200) then (nI 0) else ((-nI 10) - (Ms.s m i.toNatClampNeg)))) = x5_0 → J 370 [(0, .ref 0), (6, .int (m_X12_tellsOf (Ms.th m, Ms.s m, Ms.im m, Ms.fr m, Ms.hi m, Ms.ac m, Ms.sp m, Ms.en m, Ms.wr m, Ms.op m, (upd (upd (upd (upd (upd (upd (Ms.bb m) (nI 0).toNatClampNeg p) (nI 1).toNatClampNeg (Ms.s m (nI 24 + p).toNatClampNeg)) (nI 2).toNatClampNeg (Ms.s m (nI 30 + p).toNatClampNeg)) (nI 3).toNatClampNeg f) (nI 4).toNatClampNeg many) (nI 5).toNatClampNeg tide), Ms.tr m, Ms.su m, Ms.lf m, Ms.lk m, Ms.nx m, Ms.bo m, Ms.ra m, Ms.ki m, Ms.nu m, Ms.tv m) (nI 222) (nI 0))), (7, .int (nI 227 + (nI 140 * (Ms.s m (nI 23).toNatClampNeg)))), (8, .int (nI 0)), (9, .int i), (10, .int (Ms.s m i.toNatClampNeg)), (11, .int (tr (nI 0).toNatClampNeg))] [.int x5_0, .int sum] (hMs (Ms.th m, Ms.s m, Ms.im m, Ms.fr m, Ms.hi m, Ms.ac m, Ms.sp m, Ms.en m, Ms.wr m, Ms.op m, (upd (upd (upd (upd (upd (upd (Ms.bb m) (nI 0).toNatClampNeg p) (nI 1).toNatClampNeg (Ms.s m (nI 24 + p).toNatClampNeg)) (nI 2).toNatClampNeg (Ms.s m (nI 30 + p).toNatClampNeg)) (nI 3).toNatClampNeg f) (nI 4).toNatClampNeg many) (nI 5).toNatClampNeg tide), tr, Ms.su m, Ms.lf m, Ms.lk m, Ms.nx m, Ms.bo m, Ms.ra m, Ms.ki m, Ms.nu m, Ms.tv m)) := by
                intro x5_0 ex5_0
                refine hJ 370 _ _ _ ?_
                have K6 : ∀ (x6_0 : Int32), (if (tr (nI 0).toNatClampNeg) = 0 then (nI 0) else (if (-nI 200) < (Ms.s m i.toNatClampNeg) then (nI 0) else ((-nI 200) - (Ms.s m i.toNatClampNeg)))) = x6_0 → J 398 [(0, .ref 0), (6, .int (m_X12_tellsOf (Ms.th m, Ms.s m, Ms.im m, Ms.fr m, Ms.hi m, Ms.ac m, Ms.sp m, Ms.en m, Ms.wr m, Ms.op m, (upd (upd (upd (upd (upd (upd (Ms.bb m) (nI 0).toNatClampNeg p) (nI 1).toNatClampNeg (Ms.s m (nI 24 + p).toNatClampNeg)) (nI 2).toNatClampNeg (Ms.s m (nI 30 + p).toNatClampNeg)) (nI 3).toNatClampNeg f) (nI 4).toNatClampNeg many) (nI 5).toNatClampNeg tide), Ms.tr m, Ms.su m, Ms.lf m, Ms.lk m, Ms.nx m, Ms.bo m, Ms.ra m, Ms.ki m, Ms.nu m, Ms.tv m) (nI 222) (nI 0))), (7, .int (nI 227 + (nI 140 * (Ms.s m (nI 23).toNatClampNeg)))), (8, .int (nI 0)), (9, .int i)] [.int x6_0, .int (sum + x5_0)] (hMs (Ms.th m, Ms.s m, Ms.im m, Ms.fr m, Ms.hi m, Ms.ac m, Ms.sp m, Ms.en m, Ms.wr m, Ms.op m, (upd (upd (upd (upd (upd (upd (Ms.bb m) (nI 0).toNatClampNeg p) (nI 1).toNatClampNeg (Ms.s m (nI 24 + p).toNatClampNeg)) (nI 2).toNatClampNeg (Ms.s m (nI 30 + p).toNatClampNeg)) (nI 3).toNatClampNeg f) (nI 4).toNatClampNeg many) (nI 5).toNatClampNeg tide), tr, Ms.su m, Ms.lf m, Ms.lk m, Ms.nx m, Ms.bo m, Ms.ra m, Ms.ki m, Ms.nu m, Ms.tv m)) := by
                  intro x6_0 ex6_0
                  refine hJ 398 _ _ _ ?_
                  exact hD _ _ [2, 1, 3, 4, 5, 0] _ _ (ih96 _ _ _ _ ⟨F, n, j + 1, dp, g1, g2, g3, g4, by omega, by omega, by rw [g7]; exact nI_add (F + j) 1, by first | exact (t0 (by assumption)).2 | exact (t1 (by assumption)).2 | exact (t2 (by assumption) (by assumption) (by assumption)).2.2 | exact t3 (by assumption)⟩ (e96.trans ((if_neg c1).trans ((if_pos c2).trans ((if_neg c3).trans ((if_pos c4).trans ((bindv_eq ex5_0).trans (bindv_eq ex6_0))))))))
                refine And.intro (fun c7 => ?_) (fun c7 => ?_)
                · skip
                  refine hJ 397 _ _ _ ?_
                  exact hD _ _ [1, 2, 3, 4, 5] _ _ (K6 _ (if_pos c7))
                · skip
                  refine And.intro (fun c8 => ?_) (fun c8 => ?_)
                  · skip
                    refine hJ 397 _ _ _ ?_
                    exact hD _ _ [1, 2, 3, 4, 5] _ _ (K6 _ ((if_neg c7).trans (if_pos c8)))
                  · skip
                    exact hD _ _ [1, 2, 3, 4, 5] _ _ (K6 _ ((if_neg c7).trans (if_neg c8)))
              refine And.intro (fun c9 => ?_) (fun c9 => ?_)
              · skip
                refine hJ 369 _ _ _ ?_
                exact hD _ _ [3, 5, 6, 1, 7, 2, 0] _ _ (K5 _ (if_pos c9))
              · skip
                refine And.intro (fun c10 => ?_) (fun c10 => ?_)
                · skip
                  refine hJ 369 _ _ _ ?_
                  exact hD _ _ [3, 5, 6, 1, 7, 2, 0] _ _ (K5 _ ((if_neg c9).trans (if_pos c10)))
                · skip
                  exact hD _ _ [3, 5, 6, 1, 7, 2, 0] _ _ (K5 _ ((if_neg c9).trans (if_neg c10)))
            · skip
              have K11 : ∀ (x11_0 : Int32), (if (Ms.s m i.toNatClampNeg) = (-nI 2) then (if (tr ((top + (-nI 1)) - nI 1).toNatClampNeg) = 0 then (nI 0) else (if (tr (top + (-nI 1)).toNatClampNeg) = 0 then (nI 0) else (nI 1))) else (if (tr ((top + (-nI 1)) - nI 1).toNatClampNeg) = 0 then (if (tr (top + (-nI 1)).toNatClampNeg) = 0 then (nI 0) else (nI 1)) else (nI 1))) = x11_0 → J 331 [(0, .ref 0), (5, .int sum), (6, .int (m_X12_tellsOf (Ms.th m, Ms.s m, Ms.im m, Ms.fr m, Ms.hi m, Ms.ac m, Ms.sp m, Ms.en m, Ms.wr m, Ms.op m, (upd (upd (upd (upd (upd (upd (Ms.bb m) (nI 0).toNatClampNeg p) (nI 1).toNatClampNeg (Ms.s m (nI 24 + p).toNatClampNeg)) (nI 2).toNatClampNeg (Ms.s m (nI 30 + p).toNatClampNeg)) (nI 3).toNatClampNeg f) (nI 4).toNatClampNeg many) (nI 5).toNatClampNeg tide), Ms.tr m, Ms.su m, Ms.lf m, Ms.lk m, Ms.nx m, Ms.bo m, Ms.ra m, Ms.ki m, Ms.nu m, Ms.tv m) (nI 222) (nI 0))), (7, .int (nI 227 + (nI 140 * (Ms.s m (nI 23).toNatClampNeg)))), (8, .int (top + (-nI 1))), (9, .int i)] [.int x11_0, .int ((top + (-nI 1)) - nI 1), .ref 5] (hMs (Ms.th m, Ms.s m, Ms.im m, Ms.fr m, Ms.hi m, Ms.ac m, Ms.sp m, Ms.en m, Ms.wr m, Ms.op m, (upd (upd (upd (upd (upd (upd (Ms.bb m) (nI 0).toNatClampNeg p) (nI 1).toNatClampNeg (Ms.s m (nI 24 + p).toNatClampNeg)) (nI 2).toNatClampNeg (Ms.s m (nI 30 + p).toNatClampNeg)) (nI 3).toNatClampNeg f) (nI 4).toNatClampNeg many) (nI 5).toNatClampNeg tide), tr, Ms.su m, Ms.lf m, Ms.lk m, Ms.nx m, Ms.bo m, Ms.ra m, Ms.ki m, Ms.nu m, Ms.tv m)) := by
                intro x11_0 ex11_0
                refine hJ 331 _ _ _ ?_
                refine And.intro ((t2 (by assumption) (by assumption) (by assumption)).2.1) ?_
                refine hJ 401 _ _ _ ?_
                exact hD _ _ [1, 2, 3, 4, 5, 0] _ _ (ih96 _ _ _ _ ⟨F, n, j + 1, dp, g1, g2, g3, g4, by omega, by omega, by rw [g7]; exact nI_add (F + j) 1, by first | exact (t0 (by assumption)).2 | exact (t1 (by assumption)).2 | exact (t2 (by assumption) (by assumption) (by assumption)).2.2 | exact t3 (by assumption)⟩ (e96.trans ((if_neg c1).trans ((if_pos c2).trans ((if_neg c3).trans ((if_neg c4).trans (bindv_eq ex11_0)))))))
              refine And.intro (fun c12 => ?_) (fun c12 => ?_)
              · skip
                refine hJ 304 _ _ _ ?_
                refine And.intro ((t2 (by assumption) (by assumption) (by assumption)).2.1) ?_
                refine And.intro (fun c13 => ?_) (fun c13 => ?_)
                · skip
                  refine hJ 326 _ _ _ ?_
                  exact hD _ _ [2, 3, 4, 5, 0, 6] _ _ (K11 _ ((if_neg c12).trans (if_neg c13)))
                · skip
                  refine And.intro ((t2 (by assumption) (by assumption) (by assumption)).1) ?_
                  refine And.intro (fun c14 => ?_) (fun c14 => ?_)
                  · skip
                    refine hJ 330 _ _ _ ?_
                    exact hD _ _ [2, 3, 4, 5, 0, 6] _ _ (K11 _ ((if_neg c12).trans ((if_pos c13).trans (if_pos c14))))
                  · skip
                    exact hD _ _ [2, 3, 4, 5, 0, 6] _ _ (K11 _ ((if_neg c12).trans ((if_pos c13).trans (if_neg c14))))
              · skip
                refine And.intro ((t2 (by assumption) (by assumption) (by assumption)).2.1) ?_
                refine And.intro (fun c15 => ?_) (fun c15 => ?_)
                · skip
                  refine hJ 300 _ _ _ ?_
                  exact hD _ _ [2, 3, 4, 5, 0, 6] _ _ (K11 _ ((if_pos c12).trans (if_pos c15)))
                · skip
                  refine And.intro ((t2 (by assumption) (by assumption) (by assumption)).1) ?_
                  refine And.intro (fun c16 => ?_) (fun c16 => ?_)
                  · skip
                    refine hJ 300 _ _ _ ?_
                    exact hD _ _ [2, 3, 4, 5, 0, 6] _ _ (K11 _ ((if_pos c12).trans ((if_neg c15).trans (if_pos c16))))
                  · skip
                    exact hD _ _ [2, 3, 4, 5, 0, 6] _ _ (K11 _ ((if_pos c12).trans ((if_neg c15).trans (if_neg c16))))
          · skip
            refine And.intro ((t1 (by assumption)).1) ?_
            have K17 : ∀ (x17_0 : Int32), (if (tr (top - nI 1).toNatClampNeg) = 0 then (nI 1) else (nI 0)) = x17_0 → J 245 [(0, .ref 0), (5, .int sum), (6, .int (m_X12_tellsOf (Ms.th m, Ms.s m, Ms.im m, Ms.fr m, Ms.hi m, Ms.ac m, Ms.sp m, Ms.en m, Ms.wr m, Ms.op m, (upd (upd (upd (upd (upd (upd (Ms.bb m) (nI 0).toNatClampNeg p) (nI 1).toNatClampNeg (Ms.s m (nI 24 + p).toNatClampNeg)) (nI 2).toNatClampNeg (Ms.s m (nI 30 + p).toNatClampNeg)) (nI 3).toNatClampNeg f) (nI 4).toNatClampNeg many) (nI 5).toNatClampNeg tide), Ms.tr m, Ms.su m, Ms.lf m, Ms.lk m, Ms.nx m, Ms.bo m, Ms.ra m, Ms.ki m, Ms.nu m, Ms.tv m) (nI 222) (nI 0))), (7, .int (nI 227 + (nI 140 * (Ms.s m (nI 23).toNatClampNeg)))), (8, .int top), (9, .int i)] [.int x17_0, .int (top - nI 1), .ref 5] (hMs (Ms.th m, Ms.s m, Ms.im m, Ms.fr m, Ms.hi m, Ms.ac m, Ms.sp m, Ms.en m, Ms.wr m, Ms.op m, (upd (upd (upd (upd (upd (upd (Ms.bb m) (nI 0).toNatClampNeg p) (nI 1).toNatClampNeg (Ms.s m (nI 24 + p).toNatClampNeg)) (nI 2).toNatClampNeg (Ms.s m (nI 30 + p).toNatClampNeg)) (nI 3).toNatClampNeg f) (nI 4).toNatClampNeg many) (nI 5).toNatClampNeg tide), tr, Ms.su m, Ms.lf m, Ms.lk m, Ms.nx m, Ms.bo m, Ms.ra m, Ms.ki m, Ms.nu m, Ms.tv m)) := by
              intro x17_0 ex17_0
              refine hJ 245 _ _ _ ?_
              refine And.intro ((t1 (by assumption)).1) ?_
              refine hJ 401 _ _ _ ?_
              exact hD _ _ [1, 2, 3, 4, 5, 0] _ _ (ih96 _ _ _ _ ⟨F, n, j + 1, dp, g1, g2, g3, g4, by omega, by omega, by rw [g7]; exact nI_add (F + j) 1, by first | exact (t0 (by assumption)).2 | exact (t1 (by assumption)).2 | exact (t2 (by assumption) (by assumption) (by assumption)).2.2 | exact t3 (by assumption)⟩ (e96.trans ((if_neg c1).trans ((if_pos c2).trans ((if_pos c3).trans (bindv_eq ex17_0))))))
            refine And.intro (fun c18 => ?_) (fun c18 => ?_)
            · skip
              refine hJ 244 _ _ _ ?_
              exact hD _ _ [1, 2, 3, 4, 5, 6] _ _ (K17 _ (if_neg c18))
            · skip
              exact hD _ _ [1, 2, 3, 4, 5, 6] _ _ (K17 _ (if_pos c18))
        · skip
          refine And.intro (by decide) ?_
          refine And.intro ((t0 (by assumption)).1) ?_
          refine And.intro (by decide) ?_
          refine And.intro (by decide) ?_
          refine And.intro (by decide) ?_
          have K19 : ∀ (x19_0 : Int32), (if (((Ms.s m i.toNatClampNeg) / nI 8) - ((Ms.s m i.toNatClampNeg) / nI 8) / nI 4 * nI 4) = 0 then (if ((Ms.s m i.toNatClampNeg) / nI 32) ≤ ((upd (upd (upd (upd (upd (upd (Ms.bb m) (nI 0).toNatClampNeg p) (nI 1).toNatClampNeg (Ms.s m (nI 24 + p).toNatClampNeg)) (nI 2).toNatClampNeg (Ms.s m (nI 30 + p).toNatClampNeg)) (nI 3).toNatClampNeg f) (nI 4).toNatClampNeg many) (nI 5).toNatClampNeg tide) ((Ms.s m i.toNatClampNeg) - (Ms.s m i.toNatClampNeg) / nI 8 * nI 8).toNatClampNeg) then (nI 0) else (nI 1)) else (if (((Ms.s m i.toNatClampNeg) / nI 8) - ((Ms.s m i.toNatClampNeg) / nI 8) / nI 4 * nI 4) = nI 1 then (if ((upd (upd (upd (upd (upd (upd (Ms.bb m) (nI 0).toNatClampNeg p) (nI 1).toNatClampNeg (Ms.s m (nI 24 + p).toNatClampNeg)) (nI 2).toNatClampNeg (Ms.s m (nI 30 + p).toNatClampNeg)) (nI 3).toNatClampNeg f) (nI 4).toNatClampNeg many) (nI 5).toNatClampNeg tide) ((Ms.s m i.toNatClampNeg) - (Ms.s m i.toNatClampNeg) / nI 8 * nI 8).toNatClampNeg) = ((Ms.s m i.toNatClampNeg) / nI 32) then (nI 1) else (nI 0)) else (if ((upd (upd (upd (upd (upd (upd (Ms.bb m) (nI 0).toNatClampNeg p) (nI 1).toNatClampNeg (Ms.s m (nI 24 + p).toNatClampNeg)) (nI 2).toNatClampNeg (Ms.s m (nI 30 + p).toNatClampNeg)) (nI 3).toNatClampNeg f) (nI 4).toNatClampNeg many) (nI 5).toNatClampNeg tide) ((Ms.s m i.toNatClampNeg) - (Ms.s m i.toNatClampNeg) / nI 8 * nI 8).toNatClampNeg) ≤ ((Ms.s m i.toNatClampNeg) / nI 32) then (nI 0) else (nI 1)))) = x19_0 → J 207 [(0, .ref 0), (5, .int sum), (6, .int (m_X12_tellsOf (Ms.th m, Ms.s m, Ms.im m, Ms.fr m, Ms.hi m, Ms.ac m, Ms.sp m, Ms.en m, Ms.wr m, Ms.op m, (upd (upd (upd (upd (upd (upd (Ms.bb m) (nI 0).toNatClampNeg p) (nI 1).toNatClampNeg (Ms.s m (nI 24 + p).toNatClampNeg)) (nI 2).toNatClampNeg (Ms.s m (nI 30 + p).toNatClampNeg)) (nI 3).toNatClampNeg f) (nI 4).toNatClampNeg many) (nI 5).toNatClampNeg tide), Ms.tr m, Ms.su m, Ms.lf m, Ms.lk m, Ms.nx m, Ms.bo m, Ms.ra m, Ms.ki m, Ms.nu m, Ms.tv m) (nI 222) (nI 0))), (7, .int (nI 227 + (nI 140 * (Ms.s m (nI 23).toNatClampNeg)))), (8, .int top), (9, .int i)] [.int x19_0, .int top, .ref 5] (hMs (Ms.th m, Ms.s m, Ms.im m, Ms.fr m, Ms.hi m, Ms.ac m, Ms.sp m, Ms.en m, Ms.wr m, Ms.op m, (upd (upd (upd (upd (upd (upd (Ms.bb m) (nI 0).toNatClampNeg p) (nI 1).toNatClampNeg (Ms.s m (nI 24 + p).toNatClampNeg)) (nI 2).toNatClampNeg (Ms.s m (nI 30 + p).toNatClampNeg)) (nI 3).toNatClampNeg f) (nI 4).toNatClampNeg many) (nI 5).toNatClampNeg tide), tr, Ms.su m, Ms.lf m, Ms.lk m, Ms.nx m, Ms.bo m, Ms.ra m, Ms.ki m, Ms.nu m, Ms.tv m)) := by
            intro x19_0 ex19_0
            refine hJ 207 _ _ _ ?_
            refine And.intro (tt) ?_
            refine hJ 401 _ _ _ ?_
            exact hD _ _ [2, 3, 4, 5, 1, 0] _ _ (ih96 _ _ _ _ ⟨F, n, j + 1, dp, g1, g2, g3, g4, by omega, by omega, by rw [g7]; exact nI_add (F + j) 1, by first | exact (t0 (by assumption)).2 | exact (t1 (by assumption)).2 | exact (t2 (by assumption) (by assumption) (by assumption)).2.2 | exact t3 (by assumption)⟩ (e96.trans ((if_neg c1).trans ((if_neg c2).trans (bindv_eq ex19_0)))))
          refine And.intro (fun c20 => ?_) (fun c20 => ?_)
          · skip
            refine hJ 174 _ _ _ ?_
            refine And.intro (fun c21 => ?_) (fun c21 => ?_)
            · skip
              refine hJ 195 _ _ _ ?_
              refine And.intro (fun c22 => ?_) (fun c22 => ?_)
              · skip
                refine hJ 206 _ _ _ ?_
                exact hD _ _ [4, 5, 6, 7, 8, 9] _ _ (K19 _ ((if_neg c20).trans ((if_neg c21).trans (if_pos c22))))
              · skip
                exact hD _ _ [4, 5, 6, 7, 8, 9] _ _ (K19 _ ((if_neg c20).trans ((if_neg c21).trans (if_neg c22))))
            · skip
              refine And.intro (fun c23 => ?_) (fun c23 => ?_)
              · skip
                refine hJ 191 _ _ _ ?_
                exact hD _ _ [4, 5, 6, 7, 8, 9] _ _ (K19 _ ((if_neg c20).trans ((if_pos c21).trans (if_neg c23))))
              · skip
                exact hD _ _ [4, 5, 6, 7, 8, 9] _ _ (K19 _ ((if_neg c20).trans ((if_pos c21).trans (if_pos c23))))
          · skip
            refine And.intro (fun c24 => ?_) (fun c24 => ?_)
            · skip
              refine hJ 170 _ _ _ ?_
              exact hD _ _ [4, 5, 6, 7, 8, 9] _ _ (K19 _ ((if_pos c20).trans (if_pos c24)))
            · skip
              exact hD _ _ [4, 5, 6, 7, 8, 9] _ _ (K19 _ ((if_pos c20).trans (if_neg c24)))
  exact hD _ _ [5, 4, 3, 2, 1, 0] _ _ (L96 1000 _ _ _ _ (by obtain ⟨F, n, dp, g1, g2, g3, g4⟩ := hs; exact ⟨F, n, 0, dp, g1, g2, g3, g4, rfl, Nat.zero_le _, g1, by rw [g4.1]⟩) (rfl))

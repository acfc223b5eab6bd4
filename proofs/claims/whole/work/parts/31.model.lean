/-! printed by wip/whole/gen/specs31.py: the check's own cells, and the contracts of its small methods -/
abbrev Ms : Type := Int32 × Fn × Fn × Fn × Int32 × Int32 × Int32 × Int32 × Int32 × Int32 × Fn × Fn × Fn × Fn × Int32 × Fn × Fn × Int32 × Int32 × Int32 × Int32
def Ms.th (s : Ms) : Int32 := s.1
def Ms.s (s : Ms) : Fn := s.2.1
def Ms.im (s : Ms) : Fn := s.2.2.1
def Ms.fr (s : Ms) : Fn := s.2.2.2.1
def Ms.hi (s : Ms) : Int32 := s.2.2.2.2.1
def Ms.ac (s : Ms) : Int32 := s.2.2.2.2.2.1
def Ms.sp (s : Ms) : Int32 := s.2.2.2.2.2.2.1
def Ms.en (s : Ms) : Int32 := s.2.2.2.2.2.2.2.1
def Ms.wr (s : Ms) : Int32 := s.2.2.2.2.2.2.2.2.1
def Ms.op (s : Ms) : Int32 := s.2.2.2.2.2.2.2.2.2.1
def Ms.bb (s : Ms) : Fn := s.2.2.2.2.2.2.2.2.2.2.1
def Ms.tr (s : Ms) : Fn := s.2.2.2.2.2.2.2.2.2.2.2.1
def Ms.su (s : Ms) : Fn := s.2.2.2.2.2.2.2.2.2.2.2.2.1
def Ms.lf (s : Ms) : Fn := s.2.2.2.2.2.2.2.2.2.2.2.2.2.1
def Ms.lk (s : Ms) : Int32 := s.2.2.2.2.2.2.2.2.2.2.2.2.2.2.1
def Ms.nx (s : Ms) : Fn := s.2.2.2.2.2.2.2.2.2.2.2.2.2.2.2.1
def Ms.bo (s : Ms) : Fn := s.2.2.2.2.2.2.2.2.2.2.2.2.2.2.2.2.1
def Ms.ra (s : Ms) : Int32 := s.2.2.2.2.2.2.2.2.2.2.2.2.2.2.2.2.2.1
def Ms.ki (s : Ms) : Int32 := s.2.2.2.2.2.2.2.2.2.2.2.2.2.2.2.2.2.2.1
def Ms.nu (s : Ms) : Int32 := s.2.2.2.2.2.2.2.2.2.2.2.2.2.2.2.2.2.2.2.1
def Ms.tv (s : Ms) : Int32 := s.2.2.2.2.2.2.2.2.2.2.2.2.2.2.2.2.2.2.2.2
def hMs (s : Ms) : List AE := [.inr (12, [.int (Ms.th s), .ref 1, .ref 2, .ref 3, .int (Ms.hi s), .int (Ms.ac s), .int (Ms.sp s), .int (Ms.en s), .int (Ms.wr s), .int (Ms.op s), .ref 4, .ref 5, .ref 6, .ref 7, .int (Ms.lk s), .ref 8, .ref 9, .int (Ms.ra s), .int (Ms.ki s), .int (Ms.nu s), .int (Ms.tv s)]), .inl (0, 927, .inl (Ms.s s)), .inl (0, 927, .inl (Ms.im s)), .inl (0, 17, .inl (Ms.fr s)), .inl (0, 6, .inl (Ms.bb s)), .inl (2, 64, .inl (Ms.tr s)), .inl (0, 4320, .inl (Ms.su s)), .inl (0, 4320, .inl (Ms.lf s)), .inl (0, 6, .inl (Ms.nx s)), .inl (0, 20, .inl (Ms.bo s))]
def rl (N : Nat) (x : Int32) : Prop := ∃ k : Nat, k ≤ N ∧ x = nI k
theorem vp_ad (a : Nat) {n N : Nat} {p : Int32} (hp : vp_in p n) (h : a + n ≤ N) (hN : N < 2 ^ 31) : vp_in (nI a + p) N := by
  obtain ⟨k, hk, rfl⟩ := vp_in_of hp (by omega)
  rw [nI_add]
  exact vp_in_nI (by omega) hN
theorem vp_nI {n N : Nat} {x : Int32} (hx : x = nI n) (h : n < N) (hN : N < 2 ^ 31) : vp_in x N := by rw [hx]; exact vp_in_nI h hN
def m_X12_in  (v : Int32) (lo : Int32) (hi : Int32) : Int32 := if v < lo then nI 0 else (if hi < v then nI 0 else nI 1)
theorem bl_X12_in  {v : Int32} {lo : Int32} {hi : Int32} : bl (m_X12_in v lo hi) := by
  unfold m_X12_in
  (repeat' split) <;> first | exact Or.inl rfl | exact Or.inr rfl
set_option maxRecDepth 20000 in
set_option maxHeartbeats 2000000 in
theorem c_X12_in (l : Launch) {fv : Value} (hf : FV fv)  (v : Int32) (lo : Int32) (hi : Int32) : CT l fv 1 jX12_in [.int v, .int lo, .int hi] ([]) (DP (some (.int (m_X12_in v lo hi))) ([])) := by
  refine CT_of [] mt_X12_in (by decide +kernel) (tab_X12 hf) okX12_in (Nat.le_of_ble_eq_true rfl) ?_
  intro J hJ hD
  refine hJ 0 _ _ _ ?_
  refine And.intro (fun c1 => ?_) (fun c1 => ?_)
  · skip
    refine hJ 14 _ _ _ ?_
    exact And.intro xb0 (DPi (if_pos c1))
  · skip
    refine And.intro (fun c2 => ?_) (fun c2 => ?_)
    · skip
      refine hJ 14 _ _ _ ?_
      exact And.intro xb0 (DPi ((if_neg c1).trans (if_pos c2)))
    · skip
      refine hJ 15 _ _ _ ?_
      exact And.intro xb1 (DPi ((if_neg c1).trans (if_neg c2)))
def m_X12_isUrchin (m : Ms) (p : Int32) : Int32 := (m_X12_in p (nI 0) ((Ms.s m (nI 17).toNatClampNeg) - nI 1))
theorem bl_X12_isUrchin {m : Ms} {p : Int32} : bl (m_X12_isUrchin m p) := by
  unfold m_X12_isUrchin
  (repeat' split) <;> first | exact Or.inl rfl | exact Or.inr rfl | exact bl_X12_in
set_option maxRecDepth 20000 in
set_option maxHeartbeats 2000000 in
theorem c_X12_isUrchin (l : Launch) {fv : Value} (hf : FV fv) (m : Ms) (p : Int32) : CT l fv 2 jX12_isUrchin [.ref 0, .int p] (hMs m) (DP (some (.int (m_X12_isUrchin m p))) (hMs m)) := by
  refine CT_of [] mt_X12_isUrchin (by decide +kernel) (tab_X12 hf) okX12_isUrchin (Nat.le_of_ble_eq_true rfl) ?_
  intro J hJ hD
  refine hJ 0 _ _ _ ?_
  refine And.intro (vp_in_nI (by decide) (by decide)) ?_
  refine CALL_sub (h' := hMs m) [] (by decide) (c_X12_in l hf p (nI 0) ((Ms.s m (nI 17).toNatClampNeg) - nI 1)) rfl rfl (by decide) (by decide) rfl ?_
  exact And.intro (xret_bl bl_X12_in) (DPi (rfl))
def m_X12_isFact  (f : Int32) : Int32 := (m_X12_in f (nI 0) (nI 7))
theorem bl_X12_isFact  {f : Int32} : bl (m_X12_isFact f) := by
  unfold m_X12_isFact
  (repeat' split) <;> first | exact Or.inl rfl | exact Or.inr rfl | exact bl_X12_in
set_option maxRecDepth 20000 in
set_option maxHeartbeats 2000000 in
theorem c_X12_isFact (l : Launch) {fv : Value} (hf : FV fv)  (f : Int32) : CT l fv 2 jX12_isFact [.int f] ([]) (DP (some (.int (m_X12_isFact f))) ([])) := by
  refine CT_of [] mt_X12_isFact (by decide +kernel) (tab_X12 hf) okX12_isFact (Nat.le_of_ble_eq_true rfl) ?_
  intro J hJ hD
  refine hJ 0 _ _ _ ?_
  refine CALL_sub (h' := []) [] (by decide) (c_X12_in l hf f (nI 0) (nI 7)) rfl rfl (by decide) (by decide) rfl ?_
  exact And.intro (xret_bl bl_X12_in) (DPi (rfl))
def l_X12_keeps_2 (m : Ms) : Nat → Int32 → Fn → Ms
  | 0, _, _ => m
  | n2 + 1, i, fr => if nI 17 ≤ i then (Ms.th m, Ms.s m, Ms.im m, fr, Ms.hi m, Ms.ac m, Ms.sp m, Ms.en m, Ms.wr m, Ms.op m, Ms.bb m, Ms.tr m, Ms.su m, Ms.lf m, Ms.lk m, Ms.nx m, Ms.bo m, Ms.ra m, Ms.ki m, Ms.nu m, Ms.tv m) else l_X12_keeps_2 m n2 (i + nI 1) (upd fr i.toNatClampNeg (Ms.s m i.toNatClampNeg))
def m_X12_keeps (m : Ms) : Ms := l_X12_keeps_2 m 18 (nI 0) (Ms.fr m)
set_option maxRecDepth 20000 in
set_option maxHeartbeats 2000000 in
theorem c_X12_keeps (l : Launch) {fv : Value} (hf : FV fv) (m : Ms) : CT l fv 1 jX12_keeps [.ref 0] (hMs m) (DP none (hMs (m_X12_keeps m))) := by
  refine CT_of [2] mt_X12_keeps (by decide +kernel) (tab_X12 hf) okX12_keeps (Nat.le_of_ble_eq_true rfl) ?_
  intro J hJ hD
  refine hJ 0 _ _ _ ?_
  have L2 : ∀ (n2 : Nat) (i : Int32) (fr : Fn), (∃ z9 : Nat, z9 ≤ 17 ∧ n2 + z9 = 18 ∧ i = nI z9) → m_X12_keeps m = l_X12_keeps_2 m n2 i fr → J 2 [(0, .ref 0), (1, .int i)] [] (hMs (Ms.th m, Ms.s m, Ms.im m, fr, Ms.hi m, Ms.ac m, Ms.sp m, Ms.en m, Ms.wr m, Ms.op m, Ms.bb m, Ms.tr m, Ms.su m, Ms.lf m, Ms.lk m, Ms.nx m, Ms.bo m, Ms.ra m, Ms.ki m, Ms.nu m, Ms.tv m)) := by
    intro n2
    induction n2 with
    | zero =>
      intro i fr hv
      obtain ⟨z9, h1, h2, h3⟩ := hv
      omega
    | succ n2 ih2 =>
      intro i fr hv e2
      obtain ⟨z9, h1, h2, h3⟩ := hv
      refine hJ 2 _ _ _ ?_
      refine And.intro (fun c1 => ?_) (fun c1 => ?_)
      · skip
        refine hJ 26 _ _ _ ?_
        exact And.intro rfl (DPs (F := (fun z => hMs z)) (s' := (Ms.th m, Ms.s m, Ms.im m, fr, Ms.hi m, Ms.ac m, Ms.sp m, Ms.en m, Ms.wr m, Ms.op m, Ms.bb m, Ms.tr m, Ms.su m, Ms.lf m, Ms.lk m, Ms.nx m, Ms.bo m, Ms.ra m, Ms.ki m, Ms.nu m, Ms.tv m)) (e2.trans (if_pos c1)))
      · skip
        have h4 := cnt_lt h3 h1 (by decide) c1
        refine And.intro (by rw [h3]; exact vp_in_nI (by omega) (by decide)) ?_
        refine And.intro (by rw [h3]; exact vp_in_nI (by omega) (by decide)) ?_
        exact hD _ _ [1, 0] _ _ (ih2 _ _ ⟨z9 + 1, h4, by omega, by rw [h3]; exact nI_add z9 1⟩ (e2.trans (if_neg c1)))
  exact hD _ _ [1, 0] _ _ (L2 18 _ _ ⟨0, by decide, by decide, rfl⟩ (rfl))
def l_X12_goesBack_2 (m : Ms) : Nat → Int32 → Fn → Ms
  | 0, _, _ => m
  | n2 + 1, i, s => if nI 17 ≤ i then (Ms.th m, s, Ms.im m, Ms.fr m, Ms.hi m, Ms.ac m, Ms.sp m, Ms.en m, Ms.wr m, Ms.op m, Ms.bb m, Ms.tr m, Ms.su m, Ms.lf m, Ms.lk m, Ms.nx m, Ms.bo m, Ms.ra m, Ms.ki m, Ms.nu m, Ms.tv m) else l_X12_goesBack_2 m n2 (i + nI 1) (upd s i.toNatClampNeg (Ms.fr m i.toNatClampNeg))
def m_X12_goesBack (m : Ms) : Ms := l_X12_goesBack_2 m 18 (nI 0) (Ms.s m)
set_option maxRecDepth 20000 in
set_option maxHeartbeats 2000000 in
theorem c_X12_goesBack (l : Launch) {fv : Value} (hf : FV fv) (m : Ms) : CT l fv 1 jX12_goesBack [.ref 0] (hMs m) (DP none (hMs (m_X12_goesBack m))) := by
  refine CT_of [2] mt_X12_goesBack (by decide +kernel) (tab_X12 hf) okX12_goesBack (Nat.le_of_ble_eq_true rfl) ?_
  intro J hJ hD
  refine hJ 0 _ _ _ ?_
  have L2 : ∀ (n2 : Nat) (i : Int32) (s : Fn), (∃ z9 : Nat, z9 ≤ 17 ∧ n2 + z9 = 18 ∧ i = nI z9) → m_X12_goesBack m = l_X12_goesBack_2 m n2 i s → J 2 [(0, .ref 0), (1, .int i)] [] (hMs (Ms.th m, s, Ms.im m, Ms.fr m, Ms.hi m, Ms.ac m, Ms.sp m, Ms.en m, Ms.wr m, Ms.op m, Ms.bb m, Ms.tr m, Ms.su m, Ms.lf m, Ms.lk m, Ms.nx m, Ms.bo m, Ms.ra m, Ms.ki m, Ms.nu m, Ms.tv m)) := by
    intro n2
    induction n2 with
    | zero =>
      intro i s hv
      obtain ⟨z9, h1, h2, h3⟩ := hv
      omega
    | succ n2 ih2 =>
      intro i s hv e2
      obtain ⟨z9, h1, h2, h3⟩ := hv
      refine hJ 2 _ _ _ ?_
      refine And.intro (fun c1 => ?_) (fun c1 => ?_)
      · skip
        refine hJ 26 _ _ _ ?_
        exact And.intro rfl (DPs (F := (fun z => hMs z)) (s' := (Ms.th m, s, Ms.im m, Ms.fr m, Ms.hi m, Ms.ac m, Ms.sp m, Ms.en m, Ms.wr m, Ms.op m, Ms.bb m, Ms.tr m, Ms.su m, Ms.lf m, Ms.lk m, Ms.nx m, Ms.bo m, Ms.ra m, Ms.ki m, Ms.nu m, Ms.tv m)) (e2.trans (if_pos c1)))
      · skip
        have h4 := cnt_lt h3 h1 (by decide) c1
        refine And.intro (by rw [h3]; exact vp_in_nI (by omega) (by decide)) ?_
        refine And.intro (by rw [h3]; exact vp_in_nI (by omega) (by decide)) ?_
        exact hD _ _ [1, 0] _ _ (ih2 _ _ ⟨z9 + 1, h4, by omega, by rw [h3]; exact nI_add z9 1⟩ (e2.trans (if_neg c1)))
  exact hD _ _ [1, 0] _ _ (L2 18 _ _ ⟨0, by decide, by decide, rfl⟩ (rfl))
def m_X12_looksAnew (m : Ms) : Ms := (Ms.th m, Ms.s m, Ms.im m, Ms.fr m, Ms.hi m, Ms.ac m, Ms.sp m, Ms.en m, Ms.wr m, Ms.op m, Ms.bb m, Ms.tr m, Ms.su m, Ms.lf m, (Ms.lk m + nI 1), Ms.nx m, Ms.bo m, Ms.ra m, Ms.ki m, Ms.nu m, Ms.tv m)
set_option maxRecDepth 20000 in
set_option maxHeartbeats 2000000 in
theorem c_X12_looksAnew (l : Launch) {fv : Value} (hf : FV fv) (m : Ms) : CT l fv 1 jX12_looksAnew [.ref 0] (hMs m) (DP none (hMs (m_X12_looksAnew m))) := by
  refine CT_of [] mt_X12_looksAnew (by decide +kernel) (tab_X12 hf) okX12_looksAnew (Nat.le_of_ble_eq_true rfl) ?_
  intro J hJ hD
  refine hJ 0 _ _ _ ?_
  refine And.intro True.intro ?_
  exact And.intro rfl (DPs (F := (fun z => hMs z)) (s' := (Ms.th m, Ms.s m, Ms.im m, Ms.fr m, Ms.hi m, Ms.ac m, Ms.sp m, Ms.en m, Ms.wr m, Ms.op m, Ms.bb m, Ms.tr m, Ms.su m, Ms.lf m, (Ms.lk m + nI 1), Ms.nx m, Ms.bo m, Ms.ra m, Ms.ki m, Ms.nu m, Ms.tv m)) (rfl))
def m_X12_becomes (m : Ms) (x : Int32) (n : Int32) : Int32 × Ms := ((Ms.s m x.toNatClampNeg), (Ms.th m, (upd (Ms.s m) x.toNatClampNeg n), Ms.im m, Ms.fr m, Ms.hi m, Ms.ac m, Ms.sp m, Ms.en m, Ms.wr m, Ms.op m, Ms.bb m, Ms.tr m, Ms.su m, Ms.lf m, Ms.lk m, Ms.nx m, Ms.bo m, Ms.ra m, Ms.ki m, Ms.nu m, Ms.tv m))
set_option maxRecDepth 20000 in
set_option maxHeartbeats 2000000 in
theorem c_X12_becomes (l : Launch) {fv : Value} (hf : FV fv) (m : Ms) (x : Int32) (n : Int32) (hx : vp_in x 927) : CT l fv 1 jX12_becomes [.ref 0, .int x, .int n] (hMs m) (DP (some (.int (m_X12_becomes m x n).1)) (hMs ((m_X12_becomes m x n).2))) := by
  refine CT_of [] mt_X12_becomes (by decide +kernel) (tab_X12 hf) okX12_becomes (Nat.le_of_ble_eq_true rfl) ?_
  intro J hJ hD
  refine hJ 0 _ _ _ ?_
  refine And.intro (hx) ?_
  refine And.intro (hx) ?_
  exact And.intro True.intro (DPis (F := (fun z => hMs z)) (s' := (Ms.th m, (upd (Ms.s m) x.toNatClampNeg n), Ms.im m, Ms.fr m, Ms.hi m, Ms.ac m, Ms.sp m, Ms.en m, Ms.wr m, Ms.op m, Ms.bb m, Ms.tr m, Ms.su m, Ms.lf m, Ms.lk m, Ms.nx m, Ms.bo m, Ms.ra m, Ms.ki m, Ms.nu m, Ms.tv m)) (rfl))
def m_X12_tellsOf (m : Ms) (x : Int32) (z : Int32) : Int32 := if (Ms.s m (nI 23).toNatClampNeg) = (-nI 1) then z else (Ms.s m (x + (Ms.s m (nI 23).toNatClampNeg)).toNatClampNeg)
set_option maxRecDepth 20000 in
set_option maxHeartbeats 2000000 in
theorem c_X12_tellsOf (l : Launch) {fv : Value} (hf : FV fv) (m : Ms) (x : Int32) (z : Int32) (hx : ¬ Ms.s m (nI 23).toNatClampNeg = (-nI 1) → vp_in (x + Ms.s m (nI 23).toNatClampNeg) 927) : CT l fv 1 jX12_tellsOf [.ref 0, .int x, .int z] (hMs m) (DP (some (.int (m_X12_tellsOf m x z))) (hMs m)) := by
  refine CT_of [] mt_X12_tellsOf (by decide +kernel) (tab_X12 hf) okX12_tellsOf (Nat.le_of_ble_eq_true rfl) ?_
  intro J hJ hD
  refine hJ 0 _ _ _ ?_
  refine And.intro (vp_in_nI (by decide) (by decide)) ?_
  refine And.intro (fun c1 => ?_) (fun c1 => ?_)
  · skip
    refine hJ 15 _ _ _ ?_
    refine And.intro (vp_in_nI (by decide) (by decide)) ?_
    refine And.intro (hx c1) ?_
    exact And.intro True.intro (DPi (if_neg c1))
  · skip
    refine hJ 29 _ _ _ ?_
    exact And.intro True.intro (DPi (if_pos c1))
def l_X12_countOf_4  (x : Int32) : Nat → Int32 → Int32 → Int32
  | 0, _, _ => 0
  | n4 + 1, n, k => if nI 8 ≤ k then n else l_X12_countOf_4 x n4 (n + ((x >>> (k &&& 31)) &&& nI 1)) (k + nI 1)
def m_X12_countOf  (x : Int32) : Int32 := l_X12_countOf_4 x 9 (nI 0) (nI 0)
set_option maxRecDepth 20000 in
set_option maxHeartbeats 2000000 in
theorem c_X12_countOf (l : Launch) {fv : Value} (hf : FV fv)  (x : Int32) : CT l fv 1 jX12_countOf [.int x] ([]) (DP (some (.int (m_X12_countOf x))) ([])) := by
  refine CT_of [4] mt_X12_countOf (by decide +kernel) (tab_X12 hf) okX12_countOf (Nat.le_of_ble_eq_true rfl) ?_
  intro J hJ hD
  refine hJ 0 _ _ _ ?_
  have L4 : ∀ (n4 : Nat) (n : Int32) (k : Int32), (∃ z9 : Nat, z9 ≤ 8 ∧ n4 + z9 = 9 ∧ k = nI z9) → m_X12_countOf x = l_X12_countOf_4 x n4 n k → J 4 [(0, .int x), (1, .int n), (2, .int k)] [] [] := by
    intro n4
    induction n4 with
    | zero =>
      intro n k hv
      obtain ⟨z9, h1, h2, h3⟩ := hv
      omega
    | succ n4 ih4 =>
      intro n k hv e4
      obtain ⟨z9, h1, h2, h3⟩ := hv
      refine hJ 4 _ _ _ ?_
      refine And.intro (fun c1 => ?_) (fun c1 => ?_)
      · skip
        refine hJ 24 _ _ _ ?_
        exact And.intro True.intro (DPi (e4.trans (if_pos c1)))
      · skip
        have h4 := cnt_lt h3 h1 (by decide) c1
        exact hD _ _ [2, 1, 0] _ _ (ih4 _ _ ⟨z9 + 1, h4, by omega, by rw [h3]; exact nI_add z9 1⟩ (e4.trans (if_neg c1)))
  exact hD _ _ [2, 1, 0] _ _ (L4 9 _ _ ⟨0, by decide, by decide, rfl⟩ (rfl))

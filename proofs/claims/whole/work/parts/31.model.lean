/-! printed by wip/whole/gen/specs31.py: the check's own cells, and the contracts of its small methods -/
abbrev Ms : Type := Int32 × Fn × Fn × Fn × Int32 × Int32 × Int32 × Int32 × Int32 × Int32 × Fn × Fn × Fn × Fn × Int32 × Fn × Fn × Int32 × Int32 × Int32 × Int32
def Ms.th (s : Ms) : Int32 := s.1
def Ms.s (s : Ms) : Fn := s.2.1
def Ms.im (s : Ms) : Fn := s.2.2.1
def Ms.fr (s : Ms) : Fn := s.2.2.2.1
def Ms.hi (s : Ms) : Int32 := s.2.2.2.2.1
def Ms.ac (s : Ms) : Int32 := s.2.2.2.2.2.1
def Ms.sp (s : Ms) : Int32 := s.2.2.2.2.2.2.1
def Ms.en (s : Ms) : Int32 := s.2.2.2.2.2.2.2.1
def Ms.wr (s : Ms) : Int32 := s.2.2.2.2.2.2.2.2.1
def Ms.op (s : Ms) : Int32 := s.2.2.2.2.2.2.2.2.2.1
def Ms.bb (s : Ms) : Fn := s.2.2.2.2.2.2.2.2.2.2.1
def Ms.tr (s : Ms) : Fn := s.2.2.2.2.2.2.2.2.2.2.2.1
def Ms.su (s : Ms) : Fn := s.2.2.2.2.2.2.2.2.2.2.2.2.1
def Ms.lf (s : Ms) : Fn := s.2.2.2.2.2.2.2.2.2.2.2.2.2.1
def Ms.lk (s : Ms) : Int32 := s.2.2.2.2.2.2.2.2.2.2.2.2.2.2.1
def Ms.nx (s : Ms) : Fn := s.2.2.2.2.2.2.2.2.2.2.2.2.2.2.2.1
def Ms.bo (s : Ms) : Fn := s.2.2.2.2.2.2.2.2.2.2.2.2.2.2.2.2.1
def Ms.ra (s : Ms) : Int32 := s.2.2.2.2.2.2.2.2.2.2.2.2.2.2.2.2.2.1
def Ms.ki (s : Ms) : Int32 := s.2.2.2.2.2.2.2.2.2.2.2.2.2.2.2.2.2.2.1
def Ms.nu (s : Ms) : Int32 := s.2.2.2.2.2.2.2.2.2.2.2.2.2.2.2.2.2.2.2.1
def Ms.tv (s : Ms) : Int32 := s.2.2.2.2.2.2.2.2.2.2.2.2.2.2.2.2.2.2.2.2
def wMs (zth : Int32) (zs : Fn) (zim : Fn) (zfr : Fn) (zhi : Int32) (zac : Int32) (zsp : Int32) (zen : Int32) (zwr : Int32) (zop : Int32) (zbb : Fn) (ztr : Fn) (zsu : Fn) (zlf : Fn) (zlk : Int32) (znx : Fn) (zbo : Fn) (zra : Int32) (zki : Int32) (znu : Int32) (ztv : Int32) : List AE := [.inr (12, [.int (zth), .ref 1, .ref 2, .ref 3, .int (zhi), .int (zac), .int (zsp), .int (zen), .int (zwr), .int (zop), .ref 4, .ref 5, .ref 6, .ref 7, .int (zlk), .ref 8, .ref 9, .int (zra), .int (zki), .int (znu), .int (ztv)]), .inl (0, 927, .inl (zs)), .inl (0, 927, .inl (zim)), .inl (0, 17, .inl (zfr)), .inl (0, 6, .inl (zbb)), .inl (2, 64, .inl (ztr)), .inl (0, 4320, .inl (zsu)), .inl (0, 4320, .inl (zlf)), .inl (0, 6, .inl (znx)), .inl (0, 20, .inl (zbo))]
def hMs (s : Ms) : List AE := wMs (Ms.th s) (Ms.s s) (Ms.im s) (Ms.fr s) (Ms.hi s) (Ms.ac s) (Ms.sp s) (Ms.en s) (Ms.wr s) (Ms.op s) (Ms.bb s) (Ms.tr s) (Ms.su s) (Ms.lf s) (Ms.lk s) (Ms.nx s) (Ms.bo s) (Ms.ra s) (Ms.ki s) (Ms.nu s) (Ms.tv s)
def rl (N : Nat) (x : Int32) : Prop := ∃ k : Nat, k ≤ N ∧ x = nI k
theorem vp_ad (a : Nat) {n N : Nat} {p : Int32} (hp : vp_in p n) (h : a + n ≤ N) (hN : N < 2 ^ 31) : vp_in (nI a + p) N := by
  obtain ⟨k, hk, rfl⟩ := vp_in_of hp (by omega)
  rw [nI_add]
  exact vp_in_nI (by omega) hN
theorem vp_nI {n N : Nat} {x : Int32} (hx : x = nI n) (h : n < N) (hN : N < 2 ^ 31) : vp_in x N := by rw [hx]; exact vp_in_nI h hN
def m_X12_in  (v : Int32) (lo : Int32) (hi : Int32) : Int32 := if v < lo then nI 0 else (if hi < v then nI 0 else nI 1)
theorem bl_X12_in  {v : Int32} {lo : Int32} {hi : Int32} : bl (m_X12_in v lo hi) := by
  unfold m_X12_in
  (repeat' split) <;> first | exact Or.inl rfl | exact Or.inr rfl
set_option maxRecDepth 100000 in
set_option maxHeartbeats 4000000 in
theorem c_X12_in (l : Launch) {fv : Value} (hf : FV fv)  (v : Int32) (lo : Int32) (hi : Int32) : CT l fv 1 jX12_in [.int v, .int lo, .int hi] ([]) (DP (some (.int (m_X12_in v lo hi))) ([])) := by
  refine CT_of [] mt_X12_in (by decide +kernel) (tab_X12 hf) okX12_in (Nat.le_of_ble_eq_true rfl) ?_
  intro J hJ hD
  refine hJ 0 _ _ _ ?_
  refine And.intro (fun c1 => ?_) (fun c1 => ?_)
  · skip
    refine hJ 14 _ _ _ ?_
    exact And.intro xb0 (DPi (if_pos c1))
  · skip
    refine And.intro (fun c2 => ?_) (fun c2 => ?_)
    · skip
      refine hJ 14 _ _ _ ?_
      exact And.intro xb0 (DPi ((if_neg c1).trans (if_pos c2)))
    · skip
      refine hJ 15 _ _ _ ?_
      exact And.intro xb1 (DPi ((if_neg c1).trans (if_neg c2)))
def m_X12_isUrchin (zs : Fn) (p : Int32) : Int32 := (m_X12_in p (nI 0) ((zs (nI 17).toNatClampNeg) - nI 1))
theorem bl_X12_isUrchin {zs : Fn} {p : Int32} : bl (m_X12_isUrchin zs p) := by
  unfold m_X12_isUrchin
  (repeat' split) <;> first | exact Or.inl rfl | exact Or.inr rfl | exact bl_X12_in
set_option maxRecDepth 100000 in
set_option maxHeartbeats 4000000 in
theorem c_X12_isUrchin (l : Launch) {fv : Value} (hf : FV fv) (m : Ms) (p : Int32) : CT l fv 2 jX12_isUrchin [.ref 0, .int p] (hMs m) (DP (some (.int (m_X12_isUrchin (Ms.s m) p))) (hMs m)) := by
  refine CT_of [] mt_X12_isUrchin (by decide +kernel) (tab_X12 hf) okX12_isUrchin (Nat.le_of_ble_eq_true rfl) ?_
  intro J hJ hD
  refine hJ 0 _ _ _ ?_
  refine And.intro (vp_in_nI (by decide) (by decide)) ?_
  refine CALL_sub (h' := hMs m) [] (by decide) (c_X12_in l hf p (nI 0) ((Ms.s m (nI 17).toNatClampNeg) - nI 1)) rfl rfl (by decide) (by decide) rfl ?_
  exact And.intro (xret_bl bl_X12_in) (DPi (rfl))
def m_X12_isFact  (f : Int32) : Int32 := (m_X12_in f (nI 0) (nI 7))
theorem bl_X12_isFact  {f : Int32} : bl (m_X12_isFact f) := by
  unfold m_X12_isFact
  (repeat' split) <;> first | exact Or.inl rfl | exact Or.inr rfl | exact bl_X12_in
set_option maxRecDepth 100000 in
set_option maxHeartbeats 4000000 in
theorem c_X12_isFact (l : Launch) {fv : Value} (hf : FV fv)  (f : Int32) : CT l fv 2 jX12_isFact [.int f] ([]) (DP (some (.int (m_X12_isFact f))) ([])) := by
  refine CT_of [] mt_X12_isFact (by decide +kernel) (tab_X12 hf) okX12_isFact (Nat.le_of_ble_eq_true rfl) ?_
  intro J hJ hD
  refine hJ 0 _ _ _ ?_
  refine CALL_sub (h' := []) [] (by decide) (c_X12_in l hf f (nI 0) (nI 7)) rfl rfl (by decide) (by decide) rfl ?_
  exact And.intro (xret_bl bl_X12_in) (DPi (rfl))
def l_X12_keeps_2 (m : Ms) : Nat → Int32 → Fn → Ms
  | 0, _, _ => m
  | n2 + 1, i, fr => if nI 17 ≤ i then (Ms.th m, Ms.s m, Ms.im m, fr, Ms.hi m, Ms.ac m, Ms.sp m, Ms.en m, Ms.wr m, Ms.op m, Ms.bb m, Ms.tr m, Ms.su m, Ms.lf m, Ms.lk m, Ms.nx m, Ms.bo m, Ms.ra m, Ms.ki m, Ms.nu m, Ms.tv m) else l_X12_keeps_2 m n2 (i + nI 1) (upd fr i.toNatClampNeg (Ms.s m i.toNatClampNeg))
theorem q_X12_keeps_2 (m : Ms) (n2 : Nat) (i : Int32) (fr : Fn) : l_X12_keeps_2 m (n2 + 1) i fr = (if nI 17 ≤ i then (Ms.th m, Ms.s m, Ms.im m, fr, Ms.hi m, Ms.ac m, Ms.sp m, Ms.en m, Ms.wr m, Ms.op m, Ms.bb m, Ms.tr m, Ms.su m, Ms.lf m, Ms.lk m, Ms.nx m, Ms.bo m, Ms.ra m, Ms.ki m, Ms.nu m, Ms.tv m) else l_X12_keeps_2 m n2 (i + nI 1) (upd fr i.toNatClampNeg (Ms.s m i.toNatClampNeg))) := rfl
def m_X12_keeps (m : Ms) : Ms := l_X12_keeps_2 m 18 (nI 0) (Ms.fr m)
set_option maxRecDepth 100000 in
set_option maxHeartbeats 4000000 in
theorem c_X12_keeps (l : Launch) {fv : Value} (hf : FV fv) (m : Ms) : CT l fv 1 jX12_keeps [.ref 0] (hMs m) (DP none (hMs (m_X12_keeps m))) := by
  refine CT_of [2] mt_X12_keeps (by decide +kernel) (tab_X12 hf) okX12_keeps (Nat.le_of_ble_eq_true rfl) ?_
  intro J hJ hD
  refine hJ 0 _ _ _ ?_
  have L2 : ∀ (n2 : Nat) (i : Int32) (fr : Fn), (∃ z9 : Nat, z9 ≤ 17 ∧ n2 + z9 = 18 ∧ i = nI z9) → m_X12_keeps m = l_X12_keeps_2 m n2 i fr → J 2 [(0, .ref 0), (1, .int i)] [] (wMs (Ms.th m) (Ms.s m) (Ms.im m) fr (Ms.hi m) (Ms.ac m) (Ms.sp m) (Ms.en m) (Ms.wr m) (Ms.op m) (Ms.bb m) (Ms.tr m) (Ms.su m) (Ms.lf m) (Ms.lk m) (Ms.nx m) (Ms.bo m) (Ms.ra m) (Ms.ki m) (Ms.nu m) (Ms.tv m)) := by
    intro n2
    induction n2 with
    | zero =>
      intro i fr hv
      obtain ⟨z9, h1, h2, h3⟩ := hv
      omega
    | succ n2 ih2 =>
      intro i fr hv e2
      obtain ⟨z9, h1, h2, h3⟩ := hv
      refine hJ 2 _ _ _ ?_
      refine And.intro (fun c1 => ?_) (fun c1 => ?_)
      · skip
        refine hJ 26 _ _ _ ?_
        exact And.intro rfl (DPs (F := (fun z => hMs z)) (s' := (Ms.th m, Ms.s m, Ms.im m, fr, Ms.hi m, Ms.ac m, Ms.sp m, Ms.en m, Ms.wr m, Ms.op m, Ms.bb m, Ms.tr m, Ms.su m, Ms.lf m, Ms.lk m, Ms.nx m, Ms.bo m, Ms.ra m, Ms.ki m, Ms.nu m, Ms.tv m)) (e2.trans ((q_X12_keeps_2 m n2 i fr).trans (if_pos c1))))
      · skip
        have h4 := cnt_lt h3 h1 (by decide) c1
        refine And.intro (by rw [h3]; exact vp_in_nI (by omega) (by decide)) ?_
        refine And.intro (by rw [h3]; exact vp_in_nI (by omega) (by decide)) ?_
        exact hD _ _ [1, 0] _ _ (ih2 _ _ ⟨z9 + 1, h4, by omega, by rw [h3]; exact nI_add z9 1⟩ (e2.trans ((q_X12_keeps_2 m n2 i fr).trans (if_neg c1))))
  exact hD _ _ [1, 0] _ _ (L2 18 _ _ ⟨0, by decide, by decide, rfl⟩ (rfl))
def l_X12_goesBack_2 (m : Ms) : Nat → Int32 → Fn → Ms
  | 0, _, _ => m
  | n2 + 1, i, s => if nI 17 ≤ i then (Ms.th m, s, Ms.im m, Ms.fr m, Ms.hi m, Ms.ac m, Ms.sp m, Ms.en m, Ms.wr m, Ms.op m, Ms.bb m, Ms.tr m, Ms.su m, Ms.lf m, Ms.lk m, Ms.nx m, Ms.bo m, Ms.ra m, Ms.ki m, Ms.nu m, Ms.tv m) else l_X12_goesBack_2 m n2 (i + nI 1) (upd s i.toNatClampNeg (Ms.fr m i.toNatClampNeg))
theorem q_X12_goesBack_2 (m : Ms) (n2 : Nat) (i : Int32) (s : Fn) : l_X12_goesBack_2 m (n2 + 1) i s = (if nI 17 ≤ i then (Ms.th m, s, Ms.im m, Ms.fr m, Ms.hi m, Ms.ac m, Ms.sp m, Ms.en m, Ms.wr m, Ms.op m, Ms.bb m, Ms.tr m, Ms.su m, Ms.lf m, Ms.lk m, Ms.nx m, Ms.bo m, Ms.ra m, Ms.ki m, Ms.nu m, Ms.tv m) else l_X12_goesBack_2 m n2 (i + nI 1) (upd s i.toNatClampNeg (Ms.fr m i.toNatClampNeg))) := rfl
def m_X12_goesBack (m : Ms) : Ms := l_X12_goesBack_2 m 18 (nI 0) (Ms.s m)
set_option maxRecDepth 100000 in
set_option maxHeartbeats 4000000 in
theorem c_X12_goesBack (l : Launch) {fv : Value} (hf : FV fv) (m : Ms) : CT l fv 1 jX12_goesBack [.ref 0] (hMs m) (DP none (hMs (m_X12_goesBack m))) := by
  refine CT_of [2] mt_X12_goesBack (by decide +kernel) (tab_X12 hf) okX12_goesBack (Nat.le_of_ble_eq_true rfl) ?_
  intro J hJ hD
  refine hJ 0 _ _ _ ?_
  have L2 : ∀ (n2 : Nat) (i : Int32) (s : Fn), (∃ z9 : Nat, z9 ≤ 17 ∧ n2 + z9 = 18 ∧ i = nI z9) → m_X12_goesBack m = l_X12_goesBack_2 m n2 i s → J 2 [(0, .ref 0), (1, .int i)] [] (wMs (Ms.th m) s (Ms.im m) (Ms.fr m) (Ms.hi m) (Ms.ac m) (Ms.sp m) (Ms.en m) (Ms.wr m) (Ms.op m) (Ms.bb m) (Ms.tr m) (Ms.su m) (Ms.lf m) (Ms.lk m) (Ms.nx m) (Ms.bo m) (Ms.ra m) (Ms.ki m) (Ms.nu m) (Ms.tv m)) := by
    intro n2
    induction n2 with
    | zero =>
      intro i s hv
      obtain ⟨z9, h1, h2, h3⟩ := hv
      omega
    | succ n2 ih2 =>
      intro i s hv e2
      obtain ⟨z9, h1, h2, h3⟩ := hv
      refine hJ 2 _ _ _ ?_
      refine And.intro (fun c1 => ?_) (fun c1 => ?_)
      · skip
        refine hJ 26 _ _ _ ?_
        exact And.intro rfl (DPs (F := (fun z => hMs z)) (s' := (Ms.th m, s, Ms.im m, Ms.fr m, Ms.hi m, Ms.ac m, Ms.sp m, Ms.en m, Ms.wr m, Ms.op m, Ms.bb m, Ms.tr m, Ms.su m, Ms.lf m, Ms.lk m, Ms.nx m, Ms.bo m, Ms.ra m, Ms.ki m, Ms.nu m, Ms.tv m)) (e2.trans ((q_X12_goesBack_2 m n2 i s).trans (if_pos c1))))
      · skip
        have h4 := cnt_lt h3 h1 (by decide) c1
        refine And.intro (by rw [h3]; exact vp_in_nI (by omega) (by decide)) ?_
        refine And.intro (by rw [h3]; exact vp_in_nI (by omega) (by decide)) ?_
        exact hD _ _ [1, 0] _ _ (ih2 _ _ ⟨z9 + 1, h4, by omega, by rw [h3]; exact nI_add z9 1⟩ (e2.trans ((q_X12_goesBack_2 m n2 i s).trans (if_neg c1))))
  exact hD _ _ [1, 0] _ _ (L2 18 _ _ ⟨0, by decide, by decide, rfl⟩ (rfl))
def m_X12_looksAnew (m : Ms) : Ms := (Ms.th m, Ms.s m, Ms.im m, Ms.fr m, Ms.hi m, Ms.ac m, Ms.sp m, Ms.en m, Ms.wr m, Ms.op m, Ms.bb m, Ms.tr m, Ms.su m, Ms.lf m, (Ms.lk m + nI 1), Ms.nx m, Ms.bo m, Ms.ra m, Ms.ki m, Ms.nu m, Ms.tv m)
set_option maxRecDepth 100000 in
set_option maxHeartbeats 4000000 in
theorem c_X12_looksAnew (l : Launch) {fv : Value} (hf : FV fv) (m : Ms) : CT l fv 1 jX12_looksAnew [.ref 0] (hMs m) (DP none (hMs (m_X12_looksAnew m))) := by
  refine CT_of [] mt_X12_looksAnew (by decide +kernel) (tab_X12 hf) okX12_looksAnew (Nat.le_of_ble_eq_true rfl) ?_
  intro J hJ hD
  refine hJ 0 _ _ _ ?_
  refine And.intro True.intro ?_
  exact And.intro rfl (DPs (F := (fun z => hMs z)) (s' := (Ms.th m, Ms.s m, Ms.im m, Ms.fr m, Ms.hi m, Ms.ac m, Ms.sp m, Ms.en m, Ms.wr m, Ms.op m, Ms.bb m, Ms.tr m, Ms.su m, Ms.lf m, (Ms.lk m + nI 1), Ms.nx m, Ms.bo m, Ms.ra m, Ms.ki m, Ms.nu m, Ms.tv m)) (rfl))
def m_X12_becomes (m : Ms) (x : Int32) (n : Int32) : Int32 × Ms := ((Ms.s m x.toNatClampNeg), (Ms.th m, (upd (Ms.s m) x.toNatClampNeg n), Ms.im m, Ms.fr m, Ms.hi m, Ms.ac m, Ms.sp m, Ms.en m, Ms.wr m, Ms.op m, Ms.bb m, Ms.tr m, Ms.su m, Ms.lf m, Ms.lk m, Ms.nx m, Ms.bo m, Ms.ra m, Ms.ki m, Ms.nu m, Ms.tv m))
set_option maxRecDepth 100000 in
set_option maxHeartbeats 4000000 in
theorem c_X12_becomes (l : Launch) {fv : Value} (hf : FV fv) (m : Ms) (x : Int32) (n : Int32) (hx : vp_in x 927) : CT l fv 1 jX12_becomes [.ref 0, .int x, .int n] (hMs m) (DP (some (.int (m_X12_becomes m x n).1)) (hMs ((m_X12_becomes m x n).2))) := by
  refine CT_of [] mt_X12_becomes (by decide +kernel) (tab_X12 hf) okX12_becomes (Nat.le_of_ble_eq_true rfl) ?_
  intro J hJ hD
  refine hJ 0 _ _ _ ?_
  refine And.intro (hx) ?_
  refine And.intro (hx) ?_
  exact And.intro True.intro (DPis (F := (fun z => hMs z)) (s' := (Ms.th m, (upd (Ms.s m) x.toNatClampNeg n), Ms.im m, Ms.fr m, Ms.hi m, Ms.ac m, Ms.sp m, Ms.en m, Ms.wr m, Ms.op m, Ms.bb m, Ms.tr m, Ms.su m, Ms.lf m, Ms.lk m, Ms.nx m, Ms.bo m, Ms.ra m, Ms.ki m, Ms.nu m, Ms.tv m)) (rfl))
def m_X12_tellsOf (zs : Fn) (x : Int32) (z : Int32) : Int32 := if (zs (nI 23).toNatClampNeg) = (-nI 1) then z else (zs (x + (zs (nI 23).toNatClampNeg)).toNatClampNeg)
set_option maxRecDepth 100000 in
set_option maxHeartbeats 4000000 in
theorem c_X12_tellsOf (l : Launch) {fv : Value} (hf : FV fv) (m : Ms) (x : Int32) (z : Int32) (hx : ¬ Ms.s m (nI 23).toNatClampNeg = (-nI 1) → vp_in (x + Ms.s m (nI 23).toNatClampNeg) 927) : CT l fv 1 jX12_tellsOf [.ref 0, .int x, .int z] (hMs m) (DP (some (.int (m_X12_tellsOf (Ms.s m) x z))) (hMs m)) := by
  refine CT_of [] mt_X12_tellsOf (by decide +kernel) (tab_X12 hf) okX12_tellsOf (Nat.le_of_ble_eq_true rfl) ?_
  intro J hJ hD
  refine hJ 0 _ _ _ ?_
  refine And.intro (vp_in_nI (by decide) (by decide)) ?_
  refine And.intro (fun c1 => ?_) (fun c1 => ?_)
  · skip
    refine hJ 15 _ _ _ ?_
    refine And.intro (vp_in_nI (by decide) (by decide)) ?_
    refine And.intro (hx c1) ?_
    exact And.intro True.intro (DPi (if_neg c1))
  · skip
    refine hJ 29 _ _ _ ?_
    exact And.intro True.intro (DPi (if_pos c1))
def l_X12_countOf_4  (x : Int32) : Nat → Int32 → Int32 → Int32
  | 0, _, _ => 0
  | n4 + 1, n, k => if nI 8 ≤ k then n else l_X12_countOf_4 x n4 (n + ((x >>> (k &&& 31)) &&& nI 1)) (k + nI 1)
theorem q_X12_countOf_4  (x : Int32) (n4 : Nat) (n : Int32) (k : Int32) : l_X12_countOf_4 x (n4 + 1) n k = (if nI 8 ≤ k then n else l_X12_countOf_4 x n4 (n + ((x >>> (k &&& 31)) &&& nI 1)) (k + nI 1)) := rfl
def m_X12_countOf  (x : Int32) : Int32 := l_X12_countOf_4 x 9 (nI 0) (nI 0)
set_option maxRecDepth 100000 in
set_option maxHeartbeats 4000000 in
theorem c_X12_countOf (l : Launch) {fv : Value} (hf : FV fv)  (x : Int32) : CT l fv 1 jX12_countOf [.int x] ([]) (DP (some (.int (m_X12_countOf x))) ([])) := by
  refine CT_of [4] mt_X12_countOf (by decide +kernel) (tab_X12 hf) okX12_countOf (Nat.le_of_ble_eq_true rfl) ?_
  intro J hJ hD
  refine hJ 0 _ _ _ ?_
  have L4 : ∀ (n4 : Nat) (n : Int32) (k : Int32), (∃ z9 : Nat, z9 ≤ 8 ∧ n4 + z9 = 9 ∧ k = nI z9) → m_X12_countOf x = l_X12_countOf_4 x n4 n k → J 4 [(0, .int x), (1, .int n), (2, .int k)] [] [] := by
    intro n4
    induction n4 with
    | zero =>
      intro n k hv
      obtain ⟨z9, h1, h2, h3⟩ := hv
      omega
    | succ n4 ih4 =>
      intro n k hv e4
      obtain ⟨z9, h1, h2, h3⟩ := hv
      refine hJ 4 _ _ _ ?_
      refine And.intro (fun c1 => ?_) (fun c1 => ?_)
      · skip
        refine hJ 24 _ _ _ ?_
        exact And.intro True.intro (DPi (e4.trans ((q_X12_countOf_4 x n4 n k).trans (if_pos c1))))
      · skip
        have h4 := cnt_lt h3 h1 (by decide) c1
        exact hD _ _ [2, 1, 0] _ _ (ih4 _ _ ⟨z9 + 1, h4, by omega, by rw [h3]; exact nI_add z9 1⟩ (e4.trans ((q_X12_countOf_4 x n4 n k).trans (if_neg c1))))
  exact hD _ _ [2, 1, 0] _ _ (L4 9 _ _ ⟨0, by decide, by decide, rfl⟩ (rfl))
theorem rl_clamp {N : Nat} {x : Int32} (h : rl N x) (hN : N < 2 ^ 31) : ∃ k, k ≤ N ∧ x = nI k ∧ x.toNatClampNeg = k := by
  obtain ⟨k, hk, rfl⟩ := h
  exact ⟨k, hk, rfl, nI_clamp (by omega)⟩
theorem rl_cnt : ∀ (n : Nat) (x a k : Int32) (j : Nat), n + j = 9 → rl j a → k = nI j → rl 8 (l_X12_countOf_4 x n a k)
  | 0, x, a, k, j, h, ha, hk => ⟨0, by omega, rfl⟩
  | n + 1, x, a, k, j, h, ha, hk => by
    unfold l_X12_countOf_4
    by_cases c : nI 8 ≤ k
    · rw [if_pos c]
      rw [hk, nI_leI (by omega) (by omega)] at c
      obtain ⟨q, hq, rfl⟩ := ha
      exact ⟨q, by omega, rfl⟩
    · rw [if_neg c]
      refine rl_cnt n x _ _ (j + 1) (by omega) ?_ (by rw [hk]; exact nI_add j 1)
      obtain ⟨q, hq, rfl⟩ := ha
      have h1 : ∀ y : Int32, y &&& nI 1 = nI 0 ∨ y &&& nI 1 = nI 1 := by
        intro y
        obtain ⟨z, hz, e⟩ := pk_andE y 1 (m := nI 1) (by decide)
        have : z = 0 ∨ z = 1 := by omega
        rcases this with rfl | rfl
        · exact Or.inl e
        · exact Or.inr e
      rcases h1 (x >>> (k &&& 31)) with e | e
      · rw [e, nI_add]; exact ⟨q + 0, by omega, rfl⟩
      · rw [e, nI_add]; exact ⟨q + 1, by omega, rfl⟩
theorem rl_count (x : Int32) : rl 8 (m_X12_countOf x) := rl_cnt 9 x _ _ 0 rfl ⟨0, Nat.le_refl 0, rfl⟩ rfl
theorem vp_md {x : Int32} {d t : Nat} (h : x = nI t) (ht : t < 2 ^ 31) (h0 : 0 < d) (hd : d < 2 ^ 31) : x - x / nI d * nI d = nI (t % d) := by rw [h]; exact pk_rem ht h0 hd
/-- the model's numbers: how many urchins, tides gone, which ledge holds -/
def hU (m : Ms) : Prop := rl 6 (Ms.s m (nI 17).toNatClampNeg)
def hT (m : Ms) : Prop := rl 1000000 (Ms.s m (nI 0).toNatClampNeg)
def hH (m : Ms) : Prop := ¬ Ms.s m (nI 23).toNatClampNeg = (-nI 1) → vp_in (Ms.s m (nI 23).toNatClampNeg) 5
/-- steps that can be gone through: how many truths stand there ahead of each -/
def RPs (f : Nat → Int32) (n : Nat) (dp : Nat → Nat) : Prop := dp 0 = 0 ∧ ∀ j, j < n → dp j < 64 ∧
  (¬ f j < 0 → vp_in (f j - f j / nI 8 * nI 8) 6 ∧ dp (j + 1) = dp j + 1) ∧ (f j = (-nI 1) → 1 ≤ dp j ∧ dp (j + 1) = dp j) ∧ (f j < 0 → ¬ f j = (-nI 1) → ¬ f j ≤ (-nI 10) → 2 ≤ dp j ∧ dp (j + 1) = dp j - 1) ∧ (f j ≤ (-nI 10) → dp (j + 1) = 0)
theorem RP_step {f : Nat → Int32} {F n j : Nat} {dp : Nat → Nat} {i top : Int32} (h : RPs (fun j => f (F + j)) n dp) (hj : j < n) (hF : F + n ≤ 927) (hi : i = nI (F + j)) (ht : top = nI (dp j)) :
    vp_in i 927 ∧ vp_in top 64 ∧ (¬ f i.toNatClampNeg < 0 → vp_in (f i.toNatClampNeg - f i.toNatClampNeg / nI 8 * nI 8) 6 ∧ top + nI 1 = nI (dp (j + 1))) ∧
    (f i.toNatClampNeg = (-nI 1) → vp_in (top - nI 1) 64 ∧ top = nI (dp (j + 1))) ∧
    (f i.toNatClampNeg < 0 → ¬ f i.toNatClampNeg = (-nI 1) → ¬ f i.toNatClampNeg ≤ (-nI 10) → vp_in (top + (-nI 1)) 64 ∧ vp_in ((top + (-nI 1)) - nI 1) 64 ∧ top + (-nI 1) = nI (dp (j + 1))) ∧
    (f i.toNatClampNeg ≤ (-nI 10) → nI 0 = nI (dp (j + 1))) := by
  obtain ⟨h0, h1, h2, h3, h4⟩ := h.2 j hj
  have e : i.toNatClampNeg = F + j := by rw [hi, nI_clamp (by omega)]
  rw [e]
  refine ⟨by rw [hi]; exact vp_in_nI (by omega) (by decide), by rw [ht]; exact vp_in_nI h0 (by decide), fun c => ⟨(h1 c).1, by rw [ht, (h1 c).2]; exact nI_add _ 1⟩, fun c => ⟨?_, by rw [ht, (h2 c).2]⟩, fun c1 c2 c3 => ?_, fun c => by rw [h4 c]⟩
  · rw [ht, pk_sub (h2 c).1]
    exact vp_in_nI (by omega) (by decide)
  · obtain ⟨q1, q2⟩ := h3 c1 c2 c3
    obtain ⟨z, hz⟩ : ∃ z, dp j = z + 2 := ⟨dp j - 2, by omega⟩
    have e1 : top + (-nI 1) = nI (z + 1) := by rw [ht, hz]; exact pk_m1 (z + 1)
    rw [e1]
    refine ⟨vp_in_nI (by omega) (by decide), ?_, by rw [q2, hz]; rfl⟩
    rw [pk_sub (by omega)]
    exact vp_in_nI (by omega) (by decide)
theorem lt_of_cond {F j n : Nat} {i : Int32} (hi : i = nI (F + j)) (h : F + n ≤ 927) (hj : j ≤ n) (c : ¬ nI F + nI n ≤ i) : j < n := by
  rw [hi, nI_add, nI_leI (by omega) (by omega)] at c
  omega
def hS (m : Ms) : Prop := ∃ (F n : Nat) (dp : Nat → Nat), (nI 227 + (nI 140 * (Ms.s m (nI 23).toNatClampNeg))) = nI F ∧ m_X12_tellsOf (Ms.s m) (nI 222) (nI 0) = nI n ∧ F + n ≤ 927 ∧ RPs (fun j => Ms.s m (F + j)) n dp ∧ 17 ≤ F
theorem hH_ad {m : Ms} (h : hH m) (a : Nat) (ha : a + 5 ≤ 927) (c : ¬ Ms.s m (nI 23).toNatClampNeg = (-nI 1)) : vp_in (nI a + Ms.s m (nI 23).toNatClampNeg) 927 := vp_ad a (h c) ha (by decide)

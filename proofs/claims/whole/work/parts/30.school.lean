/-! printed by wip/whole/gen/specs30.py: a School, a Table: their cells, the contracts of their methods; each method's answer and state by a function that mirrors its code -/
abbrev Fn : Type := Nat → Int32
abbrev Sc : Type := Fn × Fn × Fn × Fn × Fn × Int32 × Int32 × Int32 × Int32 × Int32
def Sc.kd (s : Sc) : Fn := s.1
def Sc.vv (s : Sc) : Fn := s.2.1
def Sc.kn (s : Sc) : Fn := s.2.2.1
def Sc.rw (s : Sc) : Fn := s.2.2.2.1
def Sc.le (s : Sc) : Fn := s.2.2.2.2.1
def Sc.sz (s : Sc) : Int32 := s.2.2.2.2.2.1
def Sc.ou (s : Sc) : Int32 := s.2.2.2.2.2.2.1
def Sc.ti (s : Sc) : Int32 := s.2.2.2.2.2.2.2.1
def Sc.sg (s : Sc) : Int32 := s.2.2.2.2.2.2.2.2.1
def Sc.lg (s : Sc) : Int32 := s.2.2.2.2.2.2.2.2.2
def wSc (zkd : Fn) (zvv : Fn) (zkn : Fn) (zrw : Fn) (zle : Fn) (zsz : Int32) (zou : Int32) (zti : Int32) (zsg : Int32) (zlg : Int32) (t u v w : Nat) : List AE := [.inr (7, [.ref 1, .ref 2, .ref 3, .ref 4, .ref 5, .int (zsz), .int (zou), .int (zti), .ref t, .int (zsg), .int (zlg), .ref u, .ref v, .ref w]), .inl (0, 6, .inl (zkd)), .inl (0, 6, .inl (zvv)), .inl (0, 6, .inl (zkn)), .inl (0, 24, .inl (zrw)), .inl (0, 4, .inl (zle))]
def hSc (s : Sc) (t u v w : Nat) : List AE := wSc (Sc.kd s) (Sc.vv s) (Sc.kn s) (Sc.rw s) (Sc.le s) (Sc.sz s) (Sc.ou s) (Sc.ti s) (Sc.sg s) (Sc.lg s) t u v w
abbrev Tb : Type := Fn × Int32 × Int32
def Tb.ce (s : Tb) : Fn := s.1
def Tb.li (s : Tb) : Int32 := s.2.1
def Tb.n (s : Tb) : Int32 := s.2.2
def wTb (zce : Fn) (zli : Int32) (zn : Int32) : List AE := [.inr (8, [.ref 1, .int (zli), .int (zn)]), .inl (0, 32, .inl (zce))]
def hTb (s : Tb) : List AE := wTb (Tb.ce s) (Tb.li s) (Tb.n s)
def m_X8_empty (s : Tb) : Int32 × Tb := (nI 0, (Tb.ce s, Tb.li s, nI 0))
set_option maxRecDepth 100000 in
set_option maxHeartbeats 4000000 in
theorem c_X8_empty (l : Launch) {fv : Value} (hf : FV fv) (s : Tb) : CT l fv 1 jX8_empty [.ref 0] (hTb s) (DP (some (.int (m_X8_empty s).1)) (hTb ((m_X8_empty s).2))) := by
  refine CT_of [] mt_X8_empty (by decide +kernel) (tab_X8 hf) okX8_empty (Nat.le_of_ble_eq_true rfl) ?_
  intro J hJ hD
  refine hJ 0 _ _ _ ?_
  refine And.intro True.intro ?_
  exact And.intro True.intro (DPis (F := (fun z => hTb z)) (s' := (Tb.ce s, Tb.li s, nI 0)) (rfl))
def m_X7_has (zsz : Int32) (i : Int32) : Int32 := if i < 0 then nI 0 else (if zsz ≤ i then nI 0 else (if nI 6 ≤ i then nI 0 else nI 1))
theorem bl_X7_has {zsz : Int32} {i : Int32} : bl (m_X7_has zsz i) := by
  unfold m_X7_has
  (repeat' split) <;> first | exact Or.inl rfl | exact Or.inr rfl
set_option maxRecDepth 100000 in
set_option maxHeartbeats 4000000 in
theorem c_X7_has (l : Launch) {fv : Value} (hf : FV fv) (s : Sc) (t u v w : Nat) (i : Int32) : CT l fv 1 jX7_has [.ref 0, .int i] (hSc s t u v w) (DP (some (.int (m_X7_has (Sc.sz s) i))) (hSc s t u v w)) := by
  refine CT_of [] mt_X7_has (by decide +kernel) (tab_X7 hf) okX7_has (Nat.le_of_ble_eq_true rfl) ?_
  intro J hJ hD
  refine hJ 0 _ _ _ ?_
  refine And.intro (fun c1 => ?_) (fun c1 => ?_)
  · skip
    refine hJ 22 _ _ _ ?_
    exact And.intro xb0 (DPi (if_pos c1))
  · skip
    refine And.intro (fun c2 => ?_) (fun c2 => ?_)
    · skip
      refine hJ 22 _ _ _ ?_
      exact And.intro xb0 (DPi ((if_neg c1).trans (if_pos c2)))
    · skip
      refine And.intro (fun c3 => ?_) (fun c3 => ?_)
      · skip
        refine hJ 22 _ _ _ ?_
        exact And.intro xb0 (DPi ((if_neg c1).trans ((if_neg c2).trans (if_pos c3))))
      · skip
        refine hJ 23 _ _ _ ?_
        exact And.intro xb1 (DPi ((if_neg c1).trans ((if_neg c2).trans (if_neg c3))))
def m_X7_isOut (zou : Int32) (i : Int32) : Int32 := if ((zou >>> (i &&& 31)) &&& nI 1) = nI 1 then nI 1 else nI 0
theorem bl_X7_isOut {zou : Int32} {i : Int32} : bl (m_X7_isOut zou i) := by
  unfold m_X7_isOut
  (repeat' split) <;> first | exact Or.inl rfl | exact Or.inr rfl
set_option maxRecDepth 100000 in
set_option maxHeartbeats 4000000 in
theorem c_X7_isOut (l : Launch) {fv : Value} (hf : FV fv) (s : Sc) (t u v w : Nat) (i : Int32) : CT l fv 1 jX7_isOut [.ref 0, .int i] (hSc s t u v w) (DP (some (.int (m_X7_isOut (Sc.ou s) i))) (hSc s t u v w)) := by
  refine CT_of [] mt_X7_isOut (by decide +kernel) (tab_X7 hf) okX7_isOut (Nat.le_of_ble_eq_true rfl) ?_
  intro J hJ hD
  refine hJ 0 _ _ _ ?_
  refine And.intro (fun c1 => ?_) (fun c1 => ?_)
  · skip
    refine hJ 16 _ _ _ ?_
    exact And.intro xb0 (DPi (if_neg c1))
  · skip
    refine hJ 17 _ _ _ ?_
    exact And.intro xb1 (DPi (if_pos c1))
def m_X7_putOut (s : Sc) (i : Int32) (b : Int32) : Sc := bindv (if b = 0 then (Sc.ou s &&& ((nI 1 <<< (i &&& 31)) ^^^ (-nI 1))) else (Sc.ou s ||| (nI 1 <<< (i &&& 31)))) (fun x1_0 => (Sc.kd s, Sc.vv s, Sc.kn s, Sc.rw s, Sc.le s, Sc.sz s, x1_0, Sc.ti s, Sc.sg s, Sc.lg s))
set_option maxRecDepth 100000 in
set_option maxHeartbeats 4000000 in
theorem c_X7_putOut (l : Launch) {fv : Value} (hf : FV fv) (s : Sc) (t u v w : Nat) (i : Int32) (b : Int32) : CT l fv 1 jX7_putOut [.ref 0, .int i, .int b] (hSc s t u v w) (DP none (hSc (m_X7_putOut s i b) t u v w)) := by
  refine CT_of [26] mt_X7_putOut (by decide +kernel) (tab_X7 hf) okX7_putOut (Nat.le_of_ble_eq_true rfl) ?_
  intro J hJ hD
  refine hJ 0 _ _ _ ?_
  have K1 : ∀ (x1_0 : Int32), (if b = 0 then (Sc.ou s &&& ((nI 1 <<< (i &&& 31)) ^^^ (-nI 1))) else (Sc.ou s ||| (nI 1 <<< (i &&& 31)))) = x1_0 → J 26 [] [.int x1_0, .ref 0] (hSc s t u v w) := by
    intro x1_0 ex1_0
    refine hJ 26 _ _ _ ?_
    refine And.intro True.intro ?_
    exact And.intro rfl (DPs (F := (fun z => hSc z t u v w)) (s' := (Sc.kd s, Sc.vv s, Sc.kn s, Sc.rw s, Sc.le s, Sc.sz s, x1_0, Sc.ti s, Sc.sg s, Sc.lg s)) (bindv_eq ex1_0))
  refine And.intro (fun c2 => ?_) (fun c2 => ?_)
  · skip
    refine hJ 16 _ _ _ ?_
    exact hD _ _ [] _ _ (K1 _ (if_pos c2))
  · skip
    exact hD _ _ [] _ _ (K1 _ (if_neg c2))
def l_X7_all_4 (zkn : Fn) (zsz : Int32) (zou : Int32) : Nat → Int32 → Int32 → Int32
  | 0, _, _ => 0
  | n4 + 1, a, i => if zsz ≤ i then a else (if nI 6 ≤ i then a else (bindv (if (m_X7_isOut (zou) i) = 0 then (zkn i.toNatClampNeg) else (nI 0)) (fun x3_0 => l_X7_all_4 zkn zsz zou n4 (a ||| x3_0) (i + nI 1))))
theorem q_X7_all_4 (zkn : Fn) (zsz : Int32) (zou : Int32) (n4 : Nat) (a : Int32) (i : Int32) : l_X7_all_4 zkn zsz zou (n4 + 1) a i = (if zsz ≤ i then a else (if nI 6 ≤ i then a else (bindv (if (m_X7_isOut (zou) i) = 0 then (zkn i.toNatClampNeg) else (nI 0)) (fun x3_0 => l_X7_all_4 zkn zsz zou n4 (a ||| x3_0) (i + nI 1))))) := rfl
def m_X7_all (zkn : Fn) (zsz : Int32) (zou : Int32) : Int32 := l_X7_all_4 zkn zsz zou 7 (nI 0) (nI 0)
set_option maxRecDepth 100000 in
set_option maxHeartbeats 4000000 in
theorem c_X7_all (l : Launch) {fv : Value} (hf : FV fv) (s : Sc) (t u v w : Nat) : CT l fv 2 jX7_all [.ref 0] (hSc s t u v w) (DP (some (.int (m_X7_all (Sc.kn s) (Sc.sz s) (Sc.ou s)))) (hSc s t u v w)) := by
  refine CT_of [4, 37] mt_X7_all (by decide +kernel) (tab_X7 hf) okX7_all (Nat.le_of_ble_eq_true rfl) ?_
  intro J hJ hD
  refine hJ 0 _ _ _ ?_
  have L4 : ∀ (n4 : Nat) (a : Int32) (i : Int32), (∃ z9 : Nat, z9 ≤ 6 ∧ n4 + z9 = 7 ∧ i = nI z9) → m_X7_all (Sc.kn s) (Sc.sz s) (Sc.ou s) = l_X7_all_4 (Sc.kn s) (Sc.sz s) (Sc.ou s) n4 a i → J 4 [(0, .ref 0), (1, .int a), (2, .int i)] [] (hSc s t u v w) := by
    intro n4
    induction n4 with
    | zero =>
      intro a i hv
      obtain ⟨z9, h1, h2, h3⟩ := hv
      omega
    | succ n4 ih4 =>
      intro a i hv e4
      obtain ⟨z9, h1, h2, h3⟩ := hv
      refine hJ 4 _ _ _ ?_
      refine And.intro (fun c1 => ?_) (fun c1 => ?_)
      · skip
        refine hJ 45 _ _ _ ?_
        exact And.intro True.intro (DPi (e4.trans ((q_X7_all_4 (Sc.kn s) (Sc.sz s) (Sc.ou s) n4 a i).trans (if_pos c1))))
      · skip
        refine And.intro (fun c2 => ?_) (fun c2 => ?_)
        · skip
          refine hJ 45 _ _ _ ?_
          exact And.intro True.intro (DPi (e4.trans ((q_X7_all_4 (Sc.kn s) (Sc.sz s) (Sc.ou s) n4 a i).trans ((if_neg c1).trans (if_pos c2)))))
        · skip
          have h4 := cnt_lt h3 h1 (by decide) c2
          refine CALL_same (r := some (.int (m_X7_isOut (Sc.ou s) i))) (h1 := hSc s t u v w) (by decide) (c_X7_isOut l hf s t u v w i) ?_
          have K3 : ∀ (x3_0 : Int32), (if (m_X7_isOut (Sc.ou s) i) = 0 then (Sc.kn s i.toNatClampNeg) else (nI 0)) = x3_0 → J 37 [(0, .ref 0), (2, .int i)] [.int x3_0, .int a] (hSc s t u v w) := by
            intro x3_0 ex3_0
            refine hJ 37 _ _ _ ?_
            exact hD _ _ [2, 1, 0] _ _ (ih4 _ _ ⟨z9 + 1, h4, by omega, by rw [h3]; exact nI_add z9 1⟩ (e4.trans ((q_X7_all_4 (Sc.kn s) (Sc.sz s) (Sc.ou s) n4 a i).trans ((if_neg c1).trans ((if_neg c2).trans (bindv_eq ex3_0))))))
          refine And.intro (fun c4 => ?_) (fun c4 => ?_)
          · skip
            refine hJ 31 _ _ _ ?_
            refine And.intro (by rw [h3]; exact vp_in_nI h4 (by decide)) ?_
            exact hD _ _ [0, 2] _ _ (K3 _ (if_pos c4))
          · skip
            exact hD _ _ [0, 2] _ _ (K3 _ (if_neg c4))
  exact hD _ _ [2, 1, 0] _ _ (L4 7 _ _ ⟨0, by decide, by decide, rfl⟩ (rfl))
def l_X7_notOut_4 (zsz : Int32) (zou : Int32) : Nat → Int32 → Int32 → Int32
  | 0, _, _ => 0
  | n4 + 1, a, i => if zsz ≤ i then a else (if nI 6 ≤ i then a else (bindv (if (m_X7_isOut (zou) i) = 0 then (nI 1) else (nI 0)) (fun x3_0 => l_X7_notOut_4 zsz zou n4 (a + x3_0) (i + nI 1))))
theorem q_X7_notOut_4 (zsz : Int32) (zou : Int32) (n4 : Nat) (a : Int32) (i : Int32) : l_X7_notOut_4 zsz zou (n4 + 1) a i = (if zsz ≤ i then a else (if nI 6 ≤ i then a else (bindv (if (m_X7_isOut (zou) i) = 0 then (nI 1) else (nI 0)) (fun x3_0 => l_X7_notOut_4 zsz zou n4 (a + x3_0) (i + nI 1))))) := rfl
def m_X7_notOut (zsz : Int32) (zou : Int32) : Int32 := l_X7_notOut_4 zsz zou 7 (nI 0) (nI 0)
set_option maxRecDepth 100000 in
set_option maxHeartbeats 4000000 in
theorem c_X7_notOut (l : Launch) {fv : Value} (hf : FV fv) (s : Sc) (t u v w : Nat) : CT l fv 2 jX7_notOut [.ref 0] (hSc s t u v w) (DP (some (.int (m_X7_notOut (Sc.sz s) (Sc.ou s)))) (hSc s t u v w)) := by
  refine CT_of [4, 32] mt_X7_notOut (by decide +kernel) (tab_X7 hf) okX7_notOut (Nat.le_of_ble_eq_true rfl) ?_
  intro J hJ hD
  refine hJ 0 _ _ _ ?_
  have L4 : ∀ (n4 : Nat) (a : Int32) (i : Int32), (∃ z9 : Nat, z9 ≤ 6 ∧ n4 + z9 = 7 ∧ i = nI z9) → m_X7_notOut (Sc.sz s) (Sc.ou s) = l_X7_notOut_4 (Sc.sz s) (Sc.ou s) n4 a i → J 4 [(0, .ref 0), (1, .int a), (2, .int i)] [] (hSc s t u v w) := by
    intro n4
    induction n4 with
    | zero =>
      intro a i hv
      obtain ⟨z9, h1, h2, h3⟩ := hv
      omega
    | succ n4 ih4 =>
      intro a i hv e4
      obtain ⟨z9, h1, h2, h3⟩ := hv
      refine hJ 4 _ _ _ ?_
      refine And.intro (fun c1 => ?_) (fun c1 => ?_)
      · skip
        refine hJ 40 _ _ _ ?_
        exact And.intro True.intro (DPi (e4.trans ((q_X7_notOut_4 (Sc.sz s) (Sc.ou s) n4 a i).trans (if_pos c1))))
      · skip
        refine And.intro (fun c2 => ?_) (fun c2 => ?_)
        · skip
          refine hJ 40 _ _ _ ?_
          exact And.intro True.intro (DPi (e4.trans ((q_X7_notOut_4 (Sc.sz s) (Sc.ou s) n4 a i).trans ((if_neg c1).trans (if_pos c2)))))
        · skip
          have h4 := cnt_lt h3 h1 (by decide) c2
          refine CALL_same (r := some (.int (m_X7_isOut (Sc.ou s) i))) (h1 := hSc s t u v w) (by decide) (c_X7_isOut l hf s t u v w i) ?_
          have K3 : ∀ (x3_0 : Int32), (if (m_X7_isOut (Sc.ou s) i) = 0 then (nI 1) else (nI 0)) = x3_0 → J 32 [(0, .ref 0), (2, .int i)] [.int x3_0, .int a] (hSc s t u v w) := by
            intro x3_0 ex3_0
            refine hJ 32 _ _ _ ?_
            exact hD _ _ [2, 1, 0] _ _ (ih4 _ _ ⟨z9 + 1, h4, by omega, by rw [h3]; exact nI_add z9 1⟩ (e4.trans ((q_X7_notOut_4 (Sc.sz s) (Sc.ou s) n4 a i).trans ((if_neg c1).trans ((if_neg c2).trans (bindv_eq ex3_0))))))
          refine And.intro (fun c4 => ?_) (fun c4 => ?_)
          · skip
            refine hJ 31 _ _ _ ?_
            exact hD _ _ [0, 2] _ _ (K3 _ (if_pos c4))
          · skip
            exact hD _ _ [0, 2] _ _ (K3 _ (if_neg c4))
  exact hD _ _ [2, 1, 0] _ _ (L4 7 _ _ ⟨0, by decide, by decide, rfl⟩ (rfl))
def l_X7_knownBy_4 (zkn : Fn) (zsz : Int32) (b : Int32) : Nat → Int32 → Int32 → Int32
  | 0, _, _ => 0
  | n4 + 1, a, i => if zsz ≤ i then a else (if nI 6 ≤ i then a else (bindv (if ((b >>> (i &&& 31)) &&& nI 1) = nI 1 then (zkn i.toNatClampNeg) else (nI 0)) (fun x3_0 => l_X7_knownBy_4 zkn zsz b n4 (a ||| x3_0) (i + nI 1))))
theorem q_X7_knownBy_4 (zkn : Fn) (zsz : Int32) (b : Int32) (n4 : Nat) (a : Int32) (i : Int32) : l_X7_knownBy_4 zkn zsz b (n4 + 1) a i = (if zsz ≤ i then a else (if nI 6 ≤ i then a else (bindv (if ((b >>> (i &&& 31)) &&& nI 1) = nI 1 then (zkn i.toNatClampNeg) else (nI 0)) (fun x3_0 => l_X7_knownBy_4 zkn zsz b n4 (a ||| x3_0) (i + nI 1))))) := rfl
def m_X7_knownBy (zkn : Fn) (zsz : Int32) (b : Int32) : Int32 := l_X7_knownBy_4 zkn zsz b 7 (nI 0) (nI 0)
set_option maxRecDepth 100000 in
set_option maxHeartbeats 4000000 in
theorem c_X7_knownBy (l : Launch) {fv : Value} (hf : FV fv) (s : Sc) (t u v w : Nat) (b : Int32) : CT l fv 2 jX7_knownBy [.ref 0, .int b] (hSc s t u v w) (DP (some (.int (m_X7_knownBy (Sc.kn s) (Sc.sz s) b))) (hSc s t u v w)) := by
  refine CT_of [4, 38] mt_X7_knownBy (by decide +kernel) (tab_X7 hf) okX7_knownBy (Nat.le_of_ble_eq_true rfl) ?_
  intro J hJ hD
  refine hJ 0 _ _ _ ?_
  have L4 : ∀ (n4 : Nat) (a : Int32) (i : Int32), (∃ z9 : Nat, z9 ≤ 6 ∧ n4 + z9 = 7 ∧ i = nI z9) → m_X7_knownBy (Sc.kn s) (Sc.sz s) b = l_X7_knownBy_4 (Sc.kn s) (Sc.sz s) b n4 a i → J 4 [(0, .ref 0), (1, .int b), (2, .int a), (3, .int i)] [] (hSc s t u v w) := by
    intro n4
    induction n4 with
    | zero =>
      intro a i hv
      obtain ⟨z9, h1, h2, h3⟩ := hv
      omega
    | succ n4 ih4 =>
      intro a i hv e4
      obtain ⟨z9, h1, h2, h3⟩ := hv
      refine hJ 4 _ _ _ ?_
      refine And.intro (fun c1 => ?_) (fun c1 => ?_)
      · skip
        refine hJ 46 _ _ _ ?_
        exact And.intro True.intro (DPi (e4.trans ((q_X7_knownBy_4 (Sc.kn s) (Sc.sz s) b n4 a i).trans (if_pos c1))))
      · skip
        refine And.intro (fun c2 => ?_) (fun c2 => ?_)
        · skip
          refine hJ 46 _ _ _ ?_
          exact And.intro True.intro (DPi (e4.trans ((q_X7_knownBy_4 (Sc.kn s) (Sc.sz s) b n4 a i).trans ((if_neg c1).trans (if_pos c2)))))
        · skip
          have h4 := cnt_lt h3 h1 (by decide) c2
          have K3 : ∀ (x3_0 : Int32), (if ((b >>> (i &&& 31)) &&& nI 1) = nI 1 then (Sc.kn s i.toNatClampNeg) else (nI 0)) = x3_0 → J 38 [(0, .ref 0), (1, .int b), (3, .int i)] [.int x3_0, .int a] (hSc s t u v w) := by
            intro x3_0 ex3_0
            refine hJ 38 _ _ _ ?_
            exact hD _ _ [2, 3, 1, 0] _ _ (ih4 _ _ ⟨z9 + 1, h4, by omega, by rw [h3]; exact nI_add z9 1⟩ (e4.trans ((q_X7_knownBy_4 (Sc.kn s) (Sc.sz s) b n4 a i).trans ((if_neg c1).trans ((if_neg c2).trans (bindv_eq ex3_0))))))
          refine And.intro (fun c4 => ?_) (fun c4 => ?_)
          · skip
            refine hJ 37 _ _ _ ?_
            exact hD _ _ [0, 1, 3] _ _ (K3 _ (if_neg c4))
          · skip
            refine And.intro (by rw [h3]; exact vp_in_nI h4 (by decide)) ?_
            exact hD _ _ [0, 1, 3] _ _ (K3 _ (if_pos c4))
  exact hD _ _ [2, 3, 1, 0] _ _ (L4 7 _ _ ⟨0, by decide, by decide, rfl⟩ (rfl))

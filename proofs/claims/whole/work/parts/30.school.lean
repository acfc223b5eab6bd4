/-! a School: its cells, its small methods -/
def DP (r : Option Value) (h : List AE) : RP := fun r' h' => r' = r ∧ h' = h
abbrev aI (n : Nat) (f : Nat → Int32) : AE := .inl (0, n, .inl f)
abbrev aB (n : Nat) (f : Nat → Int32) : AE := .inl (1, n, .inl f)
abbrev Fn : Type := Nat → Int32
/-- kinds, v, known, rows, lessons; size, out, tide; signs, ledges -/
abbrev Sc : Type := Fn × Fn × Fn × Fn × Fn × Int32 × Int32 × Int32 × Int32 × Int32
def Sc.kd (s : Sc) : Fn := s.1
def Sc.vv (s : Sc) : Fn := s.2.1
def Sc.kn (s : Sc) : Fn := s.2.2.1
def Sc.rw (s : Sc) : Fn := s.2.2.2.1
def Sc.le (s : Sc) : Fn := s.2.2.2.2.1
def Sc.sz (s : Sc) : Int32 := s.2.2.2.2.2.1
def Sc.ou (s : Sc) : Int32 := s.2.2.2.2.2.2.1
def Sc.ti (s : Sc) : Int32 := s.2.2.2.2.2.2.2.1
def Sc.sg (s : Sc) : Int32 := s.2.2.2.2.2.2.2.2.1
def Sc.lg (s : Sc) : Int32 := s.2.2.2.2.2.2.2.2.2
/-- the object and its five rows; the others lie elsewhere: t the tape, u v w the tables -/
def hSc (s : Sc) (t u v w : Nat) : List AE := [.inr (7, [.ref 1, .ref 2, .ref 3, .ref 4, .ref 5, .int (Sc.sz s), .int (Sc.ou s), .int (Sc.ti s), .ref t, .int (Sc.sg s), .int (Sc.lg s), .ref u, .ref v, .ref w]), aI 6 (Sc.kd s), aI 6 (Sc.vv s), aI 6 (Sc.kn s), aI 24 (Sc.rw s), aI 4 (Sc.le s)]
theorem DPi {m r : Int32} {h : List AE} (e : m = r) : DP (some (.int m)) h (some (.int r)) h := ⟨by rw [e], rfl⟩
theorem xb0 : x_ret (some .boolean) (nI 0) := rfl
theorem xb1 : x_ret (some .boolean) (nI 1) := rfl
def m_X7_has (s : Sc) (i : Int32) : Int32 := if i < 0 then nI 0 else if Sc.sz s ≤ i then nI 0 else if nI 6 ≤ i then nI 0 else nI 1
theorem c_X7_has (l : Launch) {fv : Value} (hf : FV fv) (s : Sc) (t u v w : Nat) (i : Int32) : CT l fv 1 jX7_has [.ref 0, .int i] (hSc s t u v w) (DP (some (.int (m_X7_has s i))) (hSc s t u v w)) := by
  refine CT_of [] mt_X7_has (by decide +kernel) (tab_X7 hf) okX7_has (Nat.le_of_ble_eq_true rfl) ?_
  intro J hJ
  refine hJ 0 _ _ _ ?_
  refine And.intro (fun c1 => ?_) (fun c1 => ?_)
  · refine hJ 22 _ _ _ ?_
    exact And.intro xb0 (DPi (if_pos c1))
  · refine And.intro (fun c2 => ?_) (fun c2 => ?_)
    · refine hJ 22 _ _ _ ?_
      exact And.intro xb0 (DPi ((if_neg c1).trans (if_pos c2)))
    · refine And.intro (fun c3 => ?_) (fun c3 => ?_)
      · refine hJ 22 _ _ _ ?_
        exact And.intro xb0 (DPi ((if_neg c1).trans ((if_neg c2).trans (if_pos c3))))
      · refine hJ 23 _ _ _ ?_
        exact And.intro xb1 (DPi ((if_neg c1).trans ((if_neg c2).trans (if_neg c3))))
def m_X7_isOut (s : Sc) (i : Int32) : Int32 := if (Sc.ou s >>> (i &&& 31)) &&& nI 1 = nI 1 then nI 1 else nI 0
theorem c_X7_isOut (l : Launch) {fv : Value} (hf : FV fv) (s : Sc) (t u v w : Nat) (i : Int32) : CT l fv 1 jX7_isOut [.ref 0, .int i] (hSc s t u v w) (DP (some (.int (m_X7_isOut s i))) (hSc s t u v w)) := by
  refine CT_of [] mt_X7_isOut (by decide +kernel) (tab_X7 hf) okX7_isOut (Nat.le_of_ble_eq_true rfl) ?_
  intro J hJ
  refine hJ 0 _ _ _ ?_
  refine And.intro (fun c1 => ?_) (fun c1 => ?_)
  · refine hJ 16 _ _ _ ?_
    exact And.intro xb0 (DPi (if_neg c1))
  · refine hJ 17 _ _ _ ?_
    exact And.intro xb1 (DPi (if_pos c1))
theorem CALL_same {CT : CTP} {d d1 j : Nat} {as : List Value} {h h1 : List AE} {r : Option Value} {k : Option Value → List AE → Prop} (hd : d1 < d) (hc : CT d1 j as h (DP r h1)) (hk : k r h1) : CALL CT d j as h k :=
  Or.inl ⟨d1, _, hd, hc, fun r' h' q _ => by rw [q.1, q.2]; exact hk⟩
theorem cnt_lt {k N : Nat} {i : Int32} (hi : i = nI k) (hk : k ≤ N) (hN : N < 2 ^ 31) (c : ¬ nI N ≤ i) : k < N := by
  rw [hi] at c
  rcases Nat.lt_or_ge k N with h | h
  · exact h
  · exact absurd (nI_le h (by omega)) c
def l_X7_all (s : Sc) : Nat → Int32 → Int32 → Int32
  | 0, a, _ => a
  | n + 1, a, i => if Sc.sz s ≤ i then a else if nI 6 ≤ i then a else if m_X7_isOut s i = 0 then l_X7_all s n (a ||| Sc.kn s i.toNatClampNeg) (i + nI 1) else l_X7_all s n (a ||| nI 0) (i + nI 1)
def m_X7_all (s : Sc) : Int32 := l_X7_all s 7 (nI 0) (nI 0)
theorem c_X7_all (l : Launch) {fv : Value} (hf : FV fv) (s : Sc) (t u v w : Nat) : CT l fv 2 jX7_all [.ref 0] (hSc s t u v w) (DP (some (.int (m_X7_all s))) (hSc s t u v w)) := by
  refine CT_of [4] mt_X7_all (by decide +kernel) (tab_X7 hf) okX7_all (Nat.le_of_ble_eq_true rfl) ?_
  intro J hJ
  refine hJ 0 _ _ _ ?_
  have L : ∀ (n : Nat) (a i : Int32), (∃ k, k ≤ 6 ∧ n + k = 7 ∧ i = nI k) → m_X7_all s = l_X7_all s n a i → J 4 [(2, .int i), (1, .int a), (0, .ref 0)] [] (hSc s t u v w) := by
    intro n
    induction n with
    | zero => rintro a i ⟨k, h1, h2, h3⟩; omega
    | succ n ih =>
      rintro a i ⟨k, h1, h2, h3⟩ e
      refine hJ 4 _ _ _ ?_
      refine And.intro (fun c1 => ?_) (fun c1 => ?_)
      · refine hJ 45 _ _ _ ?_
        exact And.intro True.intro (DPi (e.trans (if_pos c1)))
      · refine And.intro (fun c2 => ?_) (fun c2 => ?_)
        · refine hJ 45 _ _ _ ?_
          exact And.intro True.intro (DPi (e.trans ((if_neg c1).trans (if_pos c2))))
        · have h4 := cnt_lt h3 h1 (by decide) c2
          refine CALL_same (by decide) (c_X7_isOut l hf s t u v w i) ?_
          refine And.intro (fun c3 => ?_) (fun c3 => ?_)
          · refine hJ 31 _ _ _ ?_
            refine And.intro (by rw [h3]; exact vp_in_nI h4 (by decide)) ?_
            exact ih _ _ ⟨k + 1, h4, by omega, by rw [h3]; exact nI_add k 1⟩ (e.trans ((if_neg c1).trans ((if_neg c2).trans (if_pos c3))))
          · refine hJ 37 _ _ _ ?_
            exact ih _ _ ⟨k + 1, h4, by omega, by rw [h3]; exact nI_add k 1⟩ (e.trans ((if_neg c1).trans ((if_neg c2).trans (if_neg c3))))
  exact L 7 _ _ ⟨0, by decide, rfl, rfl⟩ rfl

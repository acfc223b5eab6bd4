/-! printed by wip/whole/gen/specs50.py: the rest of a School, of a Table -/
theorem vp_of2 {x : Int32} {n : Nat} (h0 : ¬ x < 0) (h1 : x < nI n) (hn : n < 2 ^ 31) : vp_in x n := by
  rcases pk_ix x hn with q | q | ⟨j, hj, rfl⟩
  · exact absurd q h0
  · exact (Int32.lt_irrefl (Int32.lt_of_lt_of_le h1 q)).elim
  · exact vp_in_nI hj hn
theorem vp_of3 {x : Int32} {n : Nat} (h0 : ¬ x < 0) (h1 : ¬ nI n ≤ x) (hn : n < 2 ^ 31) : vp_in x n := vp_of2 h0 (Int32.not_le.mp h1) hn
theorem has_of {z i : Int32} (h : ¬ m_X7_has z i = 0) : vp_in i 6 := by
  unfold m_X7_has at h
  by_cases c1 : i < 0
  · rw [if_pos c1] at h; exact absurd rfl h
  · rw [if_neg c1] at h
    by_cases c2 : z ≤ i
    · rw [if_pos c2] at h; exact absurd rfl h
    · rw [if_neg c2] at h
      by_cases c3 : nI 6 ≤ i
      · rw [if_pos c3] at h; exact absurd rfl h
      · exact vp_of3 c1 c3 (by decide)
theorem vp_x4 {x : Int32} {n k N : Nat} (hx : vp_in x n) (h : n * 4 + k ≤ N + 4) (hk : k ≤ 3) (hN : N < 1000) (hn : n < 1000) (h2 : n * 4 ≤ N) : vp_in ((x * nI 4) + nI k) N := by
  obtain ⟨j, hj, rfl⟩ := vp_in_of hx (by omega)
  rw [pk_mul, nI_add]
  exact vp_in_nI (by omega) (by omega)
theorem vp_x40 {x : Int32} {n N : Nat} (hx : vp_in x n) (hN : N < 1000) (hn : n < 1000) (h2 : n * 4 ≤ N) : vp_in (x * nI 4) N := by
  obtain ⟨j, hj, rfl⟩ := vp_in_of hx (by omega)
  rw [pk_mul]
  exact vp_in_nI (by omega) (by omega)
theorem vp_x4c {x y : Int32} {n N : Nat} (hx : vp_in x n) (hy : vp_in y 4) (hN : N < 1000) (hn : n < 1000) (h2 : n * 4 ≤ N) : vp_in ((x * nI 4) + y) N := by
  obtain ⟨j, hj, rfl⟩ := vp_in_of hx (by omega)
  obtain ⟨k, hk, rfl⟩ := vp_in_of hy (by decide)
  rw [pk_mul, nI_add]
  exact vp_in_nI (by omega) (by omega)
theorem vp_lim {x y : Int32} (h0 : ¬ x < 0) (h1 : x < y) (hy : rl 8 y) : vp_in x 8 := by
  obtain ⟨k, hk, rfl⟩ := hy
  obtain ⟨j, hj, rfl⟩ := vp_in_of (vp_of2 h0 h1 (by omega)) (by omega)
  exact vp_in_nI (by omega) (by decide)
theorem vp_r4 {t : Int32} (ht : rl 1000000 t) : vp_in (t - t / nI 4 * nI 4) 4 := by
  obtain ⟨k, hk, rfl⟩ := ht
  rw [pk_rem (by omega) (by decide) (by decide)]
  exact vp_in_nI (Nat.mod_lt k (by decide)) (by decide)
theorem l_range : ∀ (n i : Nat), l_get (List.range n) i = if i < n then some i else none := by
  intro n i
  rw [l_get_eq]
  by_cases h : i < n
  · rw [if_pos h, List.getElem?_range h]
  · rw [if_neg h]
    exact List.getElem?_eq_none (by rw [List.length_range]; omega)
theorem r_id (n i : Nat) : r_n (List.range n) i = i := by
  unfold r_n
  rw [l_range]
  by_cases h : i < n
  · rw [if_pos h]
  · rw [if_neg h]
theorem rv_id (n : Nat) (v : Value) : r_v (List.range n) v = v := by
  cases v <;> first | rfl | (show Value.ref _ = _; rw [r_id])
theorem re_id (n : Nat) (c : AE) : r_e (List.range n) c = c := by
  have e : (r_n (List.range n)) = id := funext (r_id n)
  have e2 : (r_v (List.range n)) = id := funext (rv_id n)
  unfold r_e
  split
  · rw [e]; simp
  · rfl
  · rw [e2]; simp
theorem wb_pre : ∀ (h1 h0 pre rest : List AE), h1.length = h0.length → w_back (pre ++ (h0 ++ rest)) (List.range' pre.length h0.length) h1 = pre ++ (h1 ++ rest)
  | [], [], pre, rest, _ => rfl
  | c :: t1, d :: t0, pre, rest, h => by
    have e : List.range' pre.length (d :: t0).length = pre.length :: List.range' (pre ++ [c]).length t0.length := by
      rw [List.length_cons, List.range'_succ, List.length_append]; rfl
    rw [e]
    show w_back ((pre ++ (d :: t0 ++ rest)).set pre.length c) _ t1 = _
    rw [List.set_append_right _ _ (Nat.le_refl _), Nat.sub_self]
    show w_back (pre ++ (c :: (t0 ++ rest))) _ t1 = _
    have := wb_pre t1 t0 (pre ++ [c]) rest (by simpa using h)
    rw [List.append_assoc] at this
    simpa using this
  | [], _ :: _, _, _, h => by simp at h
  | _ :: _, [], _, _, h => by simp at h
theorem CALL_pre {CT : CTP} {d d1 j : Nat} {as : List Value} {h h0 rest h1 : List AE} {r : Option Value} {k : Option Value → List AE → Prop} (hd : d1 < d) (hc : CT d1 j as h0 (DP r h1)) (hh : h = h0 ++ rest) (hl : h1.length = h0.length) (hn : h0.length ≤ 1000) (hk : k r (h1 ++ rest)) : CALL CT d j as h k := by
  refine Or.inr ⟨d1, List.range h0.length, as, h0, _, hd, hc, ?_, ?_, List.nodup_range, by rw [List.length_range]; exact hn, fun r' h'' q _ => ?_⟩
  · have e2 : (r_v (List.range h0.length)) = id := funext (rv_id _)
    rw [e2, List.map_id]
  · unfold w_sub
    have e : (fun c => some (r_e (List.range h0.length) c)) = some := funext fun c => by rw [re_id]
    rw [e, hh]
    apply List.ext_getElem?
    intro i
    rw [List.getElem?_map, List.getElem?_map]
    by_cases c : i < h0.length
    · rw [List.getElem?_range c, Option.map_some, l_get_eq, List.getElem?_append_left c, List.getElem?_eq_getElem c]; rfl
    · rw [List.getElem?_eq_none (by rw [List.length_range]; omega), List.getElem?_eq_none (by omega)]; rfl
  · rw [q.1, q.2]
    have e3 : (r_e (List.range h0.length)) = id := funext (re_id _)
    have e4 : r_o (List.range h0.length) r = r := by
      cases r with
      | none => rfl
      | some v => show some _ = _; rw [rv_id]
    rw [e3, List.map_id, e4, hh]
    have := wb_pre h1 h0 [] rest hl
    rw [List.range_eq_range']
    have e5 : w_back (h0 ++ rest) (List.range' 0 h0.length) h1 = h1 ++ rest := this
    rw [e5]; exact hk
abbrev T2 : Type := Tb × Tb
def T2.a (s : T2) : Tb := s.1
def T2.b (s : T2) : Tb := s.2
abbrev SU : Type := Sc × Tb
def SU.c (s : SU) : Sc := s.1
def SU.e (s : SU) : Tb := s.2
abbrev S2 : Type := Sc × Sc
def S2.a (s : S2) : Sc := s.1
def S2.b (s : S2) : Sc := s.2
abbrev Sf : Type := Sc × Fn × Tb × Tb × Tb
def Sf.c (s : Sf) : Sc := s.1
def Sf.tp (s : Sf) : Fn := s.2.1
def Sf.se (s : Sf) : Tb := s.2.2.1
def Sf.pl (s : Sf) : Tb := s.2.2.2.1
def Sf.bk (s : Sf) : Tb := s.2.2.2.2
abbrev SS : Type := Sf × Sf
def SS.a (s : SS) : Sf := s.1
def SS.b (s : SS) : Sf := s.2
def wT2 (za : Tb) (zb : Tb) : List AE := [.inr (8, [.ref 1, .int (Tb.li za), .int (Tb.n za)]), .inl (0, 32, .inl (Tb.ce za)), .inr (8, [.ref 3, .int (Tb.li zb), .int (Tb.n zb)]), .inl (0, 32, .inl (Tb.ce zb))]
def hT2 (s : T2) : List AE := wT2 (T2.a s) (T2.b s)
def wSU (zc : Sc) (ze : Tb) (t v w : Nat) : List AE := [.inr (7, [.ref 1, .ref 2, .ref 3, .ref 4, .ref 5, .int (Sc.sz zc), .int (Sc.ou zc), .int (Sc.ti zc), .ref t, .int (Sc.sg zc), .int (Sc.lg zc), .ref 6, .ref v, .ref w]), .inl (0, 6, .inl (Sc.kd zc)), .inl (0, 6, .inl (Sc.vv zc)), .inl (0, 6, .inl (Sc.kn zc)), .inl (0, 24, .inl (Sc.rw zc)), .inl (0, 4, .inl (Sc.le zc)), .inr (8, [.ref 7, .int (Tb.li ze), .int (Tb.n ze)]), .inl (0, 32, .inl (Tb.ce ze))]
def hSU (s : SU) (t v w : Nat) : List AE := wSU (SU.c s) (SU.e s) t v w
def wSX (zc : Sc) (ze : Tb) (t u v w : Nat) : List AE := [.inr (7, [.ref 1, .ref 2, .ref 3, .ref 4, .ref 5, .int (Sc.sz zc), .int (Sc.ou zc), .int (Sc.ti zc), .ref t, .int (Sc.sg zc), .int (Sc.lg zc), .ref u, .ref v, .ref w]), .inl (0, 6, .inl (Sc.kd zc)), .inl (0, 6, .inl (Sc.vv zc)), .inl (0, 6, .inl (Sc.kn zc)), .inl (0, 24, .inl (Sc.rw zc)), .inl (0, 4, .inl (Sc.le zc)), .inr (8, [.ref 7, .int (Tb.li ze), .int (Tb.n ze)]), .inl (0, 32, .inl (Tb.ce ze))]
def hSX (s : SU) (t u v w : Nat) : List AE := wSX (SU.c s) (SU.e s) t u v w
def wS2 (za : Sc) (zb : Sc) (t u v w t2 u2 v2 w2 : Nat) : List AE := [.inr (7, [.ref 1, .ref 2, .ref 3, .ref 4, .ref 5, .int (Sc.sz za), .int (Sc.ou za), .int (Sc.ti za), .ref t, .int (Sc.sg za), .int (Sc.lg za), .ref u, .ref v, .ref w]), .inl (0, 6, .inl (Sc.kd za)), .inl (0, 6, .inl (Sc.vv za)), .inl (0, 6, .inl (Sc.kn za)), .inl (0, 24, .inl (Sc.rw za)), .inl (0, 4, .inl (Sc.le za)), .inr (7, [.ref 7, .ref 8, .ref 9, .ref 10, .ref 11, .int (Sc.sz zb), .int (Sc.ou zb), .int (Sc.ti zb), .ref t2, .int (Sc.sg zb), .int (Sc.lg zb), .ref u2, .ref v2, .ref w2]), .inl (0, 6, .inl (Sc.kd zb)), .inl (0, 6, .inl (Sc.vv zb)), .inl (0, 6, .inl (Sc.kn zb)), .inl (0, 24, .inl (Sc.rw zb)), .inl (0, 4, .inl (Sc.le zb))]
def hS2 (s : S2) (t u v w t2 u2 v2 w2 : Nat) : List AE := wS2 (S2.a s) (S2.b s) t u v w t2 u2 v2 w2
def wSS (za : Sf) (zb : Sf) : List AE := [.inr (7, [.ref 1, .ref 2, .ref 3, .ref 4, .ref 5, .int (Sc.sz (Sf.c za)), .int (Sc.ou (Sf.c za)), .int (Sc.ti (Sf.c za)), .ref 12, .int (Sc.sg (Sf.c za)), .int (Sc.lg (Sf.c za)), .ref 14, .ref 16, .ref 18]), .inl (0, 6, .inl (Sc.kd (Sf.c za))), .inl (0, 6, .inl (Sc.vv (Sf.c za))), .inl (0, 6, .inl (Sc.kn (Sf.c za))), .inl (0, 24, .inl (Sc.rw (Sf.c za))), .inl (0, 4, .inl (Sc.le (Sf.c za))), .inr (7, [.ref 7, .ref 8, .ref 9, .ref 10, .ref 11, .int (Sc.sz (Sf.c zb)), .int (Sc.ou (Sf.c zb)), .int (Sc.ti (Sf.c zb)), .ref 13, .int (Sc.sg (Sf.c zb)), .int (Sc.lg (Sf.c zb)), .ref 20, .ref 22, .ref 24]), .inl (0, 6, .inl (Sc.kd (Sf.c zb))), .inl (0, 6, .inl (Sc.vv (Sf.c zb))), .inl (0, 6, .inl (Sc.kn (Sf.c zb))), .inl (0, 24, .inl (Sc.rw (Sf.c zb))), .inl (0, 4, .inl (Sc.le (Sf.c zb))), .inl (1, 100, .inl (Sf.tp za)), .inl (1, 100, .inl (Sf.tp zb)), .inr (8, [.ref 15, .int (Tb.li (Sf.se za)), .int (Tb.n (Sf.se za))]), .inl (0, 32, .inl (Tb.ce (Sf.se za))), .inr (8, [.ref 17, .int (Tb.li (Sf.pl za)), .int (Tb.n (Sf.pl za))]), .inl (0, 32, .inl (Tb.ce (Sf.pl za))), .inr (8, [.ref 19, .int (Tb.li (Sf.bk za)), .int (Tb.n (Sf.bk za))]), .inl (0, 32, .inl (Tb.ce (Sf.bk za))), .inr (8, [.ref 21, .int (Tb.li (Sf.se zb)), .int (Tb.n (Sf.se zb))]), .inl (0, 32, .inl (Tb.ce (Sf.se zb))), .inr (8, [.ref 23, .int (Tb.li (Sf.pl zb)), .int (Tb.n (Sf.pl zb))]), .inl (0, 32, .inl (Tb.ce (Sf.pl zb))), .inr (8, [.ref 25, .int (Tb.li (Sf.bk zb)), .int (Tb.n (Sf.bk zb))]), .inl (0, 32, .inl (Tb.ce (Sf.bk zb)))]
def hSS (s : SS) : List AE := wSS (SS.a s) (SS.b s)
def l_X7_held_4 (zkn : Fn) (zsz : Int32) (zou : Int32) : Nat → Int32 → Int32 → Int32
  | 0, _, _ => 0
  | n4 + 1, a, i => if zsz ≤ i then a else (if nI 6 ≤ i then a else (bindv (if (m_X7_isOut (zou) i) = 0 then (m_J6_bitCount_0f7a4 (zkn i.toNatClampNeg)) else (nI 0)) (fun x3_0 => l_X7_held_4 zkn zsz zou n4 (a + x3_0) (i + nI 1))))
theorem q_X7_held_4 (zkn : Fn) (zsz : Int32) (zou : Int32) (n4 : Nat) (a : Int32) (i : Int32) : l_X7_held_4 zkn zsz zou (n4 + 1) a i = (if zsz ≤ i then a else (if nI 6 ≤ i then a else (bindv (if (m_X7_isOut (zou) i) = 0 then (m_J6_bitCount_0f7a4 (zkn i.toNatClampNeg)) else (nI 0)) (fun x3_0 => l_X7_held_4 zkn zsz zou n4 (a + x3_0) (i + nI 1))))) := rfl
def m_X7_held (zkn : Fn) (zsz : Int32) (zou : Int32) : Int32 := l_X7_held_4 zkn zsz zou 7 (nI 0) (nI 0)
set_option maxRecDepth 100000 in
set_option maxHeartbeats 4000000 in
theorem c_X7_held (l : Launch) {fv : Value} (hf : FV fv) (s : Sc) (t u v w : Nat) : CT l fv 2 jX7_held [.ref 0] (hSc s t u v w) (DP (some (.int (m_X7_held (Sc.kn s) (Sc.sz s) (Sc.ou s)))) (hSc s t u v w)) := by
  refine CT_of [4, 40] mt_X7_held (by decide +kernel) (tab_X7 hf) okX7_held (Nat.le_of_ble_eq_true rfl) ?_
  intro J hJ hD
  refine hJ 0 _ _ _ ?_
  have L4 : ∀ (n4 : Nat) (a : Int32) (i : Int32), (∃ z9 : Nat, z9 ≤ 6 ∧ n4 + z9 = 7 ∧ i = nI z9) → m_X7_held (Sc.kn s) (Sc.sz s) (Sc.ou s) = l_X7_held_4 (Sc.kn s) (Sc.sz s) (Sc.ou s) n4 a i → J 4 [(0, .ref 0), (1, .int a), (2, .int i)] [] (hSc s t u v w) := by
    intro n4
    induction n4 with
    | zero =>
      intro a i hv
      obtain ⟨z9, h1, h2, h3⟩ := hv
      omega
    | succ n4 ih4 =>
      intro a i hv e4
      obtain ⟨z9, h1, h2, h3⟩ := hv
      refine hJ 4 _ _ _ ?_
      refine And.intro (fun c1 => ?_) (fun c1 => ?_)
      · skip
        refine hJ 48 _ _ _ ?_
        exact And.intro True.intro (DPi (e4.trans ((q_X7_held_4 (Sc.kn s) (Sc.sz s) (Sc.ou s) n4 a i).trans (if_pos c1))))
      · skip
        refine And.intro (fun c2 => ?_) (fun c2 => ?_)
        · skip
          refine hJ 48 _ _ _ ?_
          exact And.intro True.intro (DPi (e4.trans ((q_X7_held_4 (Sc.kn s) (Sc.sz s) (Sc.ou s) n4 a i).trans ((if_neg c1).trans (if_pos c2)))))
        · skip
          have h4 := cnt_lt h3 h1 (by decide) c2
          refine CALL_same (r := some (.int (m_X7_isOut (Sc.ou s) i))) (h1 := hSc s t u v w) (by decide) (c_X7_isOut l hf s t u v w i) ?_
          have K3 : ∀ (x3_0 : Int32), (if (m_X7_isOut (Sc.ou s) i) = 0 then (m_J6_bitCount_0f7a4 (Sc.kn s i.toNatClampNeg)) else (nI 0)) = x3_0 → J 40 [(0, .ref 0), (2, .int i)] [.int x3_0, .int a] (hSc s t u v w) := by
            intro x3_0 ex3_0
            refine hJ 40 _ _ _ ?_
            exact hD _ _ [2, 1, 0] _ _ (ih4 _ _ ⟨z9 + 1, h4, by omega, by rw [h3]; exact nI_add z9 1⟩ (e4.trans ((q_X7_held_4 (Sc.kn s) (Sc.sz s) (Sc.ou s) n4 a i).trans ((if_neg c1).trans ((if_neg c2).trans (bindv_eq ex3_0))))))
          refine And.intro (fun c4 => ?_) (fun c4 => ?_)
          · skip
            refine hJ 31 _ _ _ ?_
            refine And.intro (by rw [h3]; exact vp_in_nI h4 (by decide)) ?_
            refine CALL_sub (h' := hSc s t u v w) [] (by decide) (c_J6_bitCount_0f7a4 l hf (Sc.kn s i.toNatClampNeg)) rfl rfl (by decide) (by decide) rfl ?_
            exact hD _ _ [0, 2] _ _ (K3 _ (if_pos c4))
          · skip
            exact hD _ _ [0, 2] _ _ (K3 _ (if_neg c4))
  exact hD _ _ [2, 1, 0] _ _ (L4 7 _ _ ⟨0, by decide, by decide, rfl⟩ (rfl))
def l_X7_few_13 (zkn : Fn) (zsz : Int32) (zou : Int32) : Nat → Int32 → Int32 → Int32 → Int32
  | 0, _, _, _ => 0
  | n13 + 1, a, b, i => if (nI 1 <<< (zsz &&& 31)) ≤ i then b else (bindv (if a ≤ (m_J6_bitCount_0f7a4 i) then a else (if (i &&& zou) = 0 then (if (m_X7_knownBy (zkn) (zsz) i) = (m_X7_all (zkn) (zsz) (zou)) then (m_J6_bitCount_0f7a4 i) else a) else a)) (fun x2_0 => bindv (if a ≤ (m_J6_bitCount_0f7a4 i) then b else (if (i &&& zou) = 0 then (if (m_X7_knownBy (zkn) (zsz) i) = (m_X7_all (zkn) (zsz) (zou)) then i else b) else b)) (fun x2_1 => l_X7_few_13 zkn zsz zou n13 x2_0 x2_1 (i + nI 1))))
theorem q_X7_few_13 (zkn : Fn) (zsz : Int32) (zou : Int32) (n13 : Nat) (a : Int32) (b : Int32) (i : Int32) : l_X7_few_13 zkn zsz zou (n13 + 1) a b i = (if (nI 1 <<< (zsz &&& 31)) ≤ i then b else (bindv (if a ≤ (m_J6_bitCount_0f7a4 i) then a else (if (i &&& zou) = 0 then (if (m_X7_knownBy (zkn) (zsz) i) = (m_X7_all (zkn) (zsz) (zou)) then (m_J6_bitCount_0f7a4 i) else a) else a)) (fun x2_0 => bindv (if a ≤ (m_J6_bitCount_0f7a4 i) then b else (if (i &&& zou) = 0 then (if (m_X7_knownBy (zkn) (zsz) i) = (m_X7_all (zkn) (zsz) (zou)) then i else b) else b)) (fun x2_1 => l_X7_few_13 zkn zsz zou n13 x2_0 x2_1 (i + nI 1))))) := rfl
def m_X7_few (zkn : Fn) (zsz : Int32) (zou : Int32) : Int32 := l_X7_few_13 zkn zsz zou 65 (nI 7) (nI 0) (nI 0)
set_option maxRecDepth 100000 in
set_option maxHeartbeats 4000000 in
theorem c_X7_few (l : Launch) {fv : Value} (hf : FV fv) (s : Sc) (t u v w : Nat) (hu : rl 6 (Sc.sz s)) : CT l fv 3 jX7_few [.ref 0] (hSc s t u v w) (DP (some (.int (m_X7_few (Sc.kn s) (Sc.sz s) (Sc.ou s)))) (hSc s t u v w)) := by
  refine CT_of [13, 62] mt_X7_few (by decide +kernel) (tab_X7 hf) okX7_few (Nat.le_of_ble_eq_true rfl) ?_
  intro J hJ hD
  obtain ⟨N, hN, hx⟩ := sh_of hu
  refine hJ 0 _ _ _ ?_
  refine CALL_same (r := some (.int (m_X7_all (Sc.kn s) (Sc.sz s) (Sc.ou s)))) (h1 := hSc s t u v w) (by decide) (c_X7_all l hf s t u v w) ?_
  have L13 : ∀ (n13 : Nat) (a : Int32) (b : Int32) (i : Int32), (∃ z9 : Nat, z9 ≤ N ∧ n13 + z9 = 65 ∧ i = nI z9) → m_X7_few (Sc.kn s) (Sc.sz s) (Sc.ou s) = l_X7_few_13 (Sc.kn s) (Sc.sz s) (Sc.ou s) n13 a b i → J 13 [(0, .ref 0), (1, .int (m_X7_all (Sc.kn s) (Sc.sz s) (Sc.ou s))), (2, .int a), (3, .int b), (4, .int i)] [] (hSc s t u v w) := by
    intro n13
    induction n13 with
    | zero =>
      intro a b i hv
      obtain ⟨z9, h1, h2, h3⟩ := hv
      omega
    | succ n13 ih13 =>
      intro a b i hv e13
      obtain ⟨z9, h1, h2, h3⟩ := hv
      refine hJ 13 _ _ _ ?_
      refine And.intro (fun c1 => ?_) (fun c1 => ?_)
      · skip
        refine hJ 68 _ _ _ ?_
        exact And.intro True.intro (DPi (e13.trans ((q_X7_few_13 (Sc.kn s) (Sc.sz s) (Sc.ou s) n13 a b i).trans (if_pos c1))))
      · skip
        have h4 : z9 < N := cnt_lt h3 h1 (by omega) (by rw [← hx]; exact c1)
        refine CALL_sub (h' := hSc s t u v w) [] (by decide) (c_J6_bitCount_0f7a4 l hf i) rfl rfl (by decide) (by decide) rfl ?_
        have K2 : ∀ (x2_0 : Int32), ∀ (x2_1 : Int32), (if a ≤ (m_J6_bitCount_0f7a4 i) then a else (if (i &&& Sc.ou s) = 0 then (if (m_X7_knownBy (Sc.kn s) (Sc.sz s) i) = (m_X7_all (Sc.kn s) (Sc.sz s) (Sc.ou s)) then (m_J6_bitCount_0f7a4 i) else a) else a)) = x2_0 → (if a ≤ (m_J6_bitCount_0f7a4 i) then b else (if (i &&& Sc.ou s) = 0 then (if (m_X7_knownBy (Sc.kn s) (Sc.sz s) i) = (m_X7_all (Sc.kn s) (Sc.sz s) (Sc.ou s)) then i else b) else b)) = x2_1 → J 62 [(0, .ref 0), (1, .int (m_X7_all (Sc.kn s) (Sc.sz s) (Sc.ou s))), (2, .int x2_0), (3, .int x2_1), (4, .int i)] [] (hSc s t u v w) := by
          intro x2_0 x2_1 ex2_0 ex2_1
          refine hJ 62 _ _ _ ?_
          exact hD _ _ [1, 2, 3, 4, 0] _ _ (ih13 _ _ _ ⟨z9 + 1, by omega, by omega, by rw [h3]; exact nI_add z9 1⟩ (e13.trans ((q_X7_few_13 (Sc.kn s) (Sc.sz s) (Sc.ou s) n13 a b i).trans ((if_neg c1).trans ((bindv_eq ex2_0).trans (bindv_eq ex2_1))))))
        refine And.intro (fun c3 => ?_) (fun c3 => ?_)
        · skip
          exact hD _ _ [0, 1, 2, 3, 4] _ _ (K2 _ _ (if_pos c3) (if_pos c3))
        · skip
          refine And.intro (fun c4 => ?_) (fun c4 => ?_)
          · skip
            exact hD _ _ [0, 1, 2, 3, 4] _ _ (K2 _ _ ((if_neg c3).trans (if_neg c4)) ((if_neg c3).trans (if_neg c4)))
          · skip
            refine CALL_same (r := some (.int (m_X7_knownBy (Sc.kn s) (Sc.sz s) i))) (h1 := hSc s t u v w) (by decide) (c_X7_knownBy l hf s t u v w i) ?_
            refine And.intro (fun c5 => ?_) (fun c5 => ?_)
            · skip
              exact hD _ _ [0, 1, 2, 3, 4] _ _ (K2 _ _ ((if_neg c3).trans ((if_pos c4).trans (if_neg c5))) ((if_neg c3).trans ((if_pos c4).trans (if_neg c5))))
            · skip
              refine CALL_sub (h' := hSc s t u v w) [] (by decide) (c_J6_bitCount_0f7a4 l hf i) rfl rfl (by decide) (by decide) rfl ?_
              exact hD _ _ [2, 3, 1, 0, 4] _ _ (K2 _ _ ((if_neg c3).trans ((if_pos c4).trans (if_pos c5))) ((if_neg c3).trans ((if_pos c4).trans (if_pos c5))))
  exact hD _ _ [4, 3, 2, 1, 0] _ _ (L13 65 _ _ _ ⟨0, by omega, by omega, rfl⟩ (rfl))
def m_X7_lessonNow (zle : Fn) (zti : Int32) : Int32 := if (zti - zti / nI 4 * nI 4) < 0 then nI 8 else (zle (zti - zti / nI 4 * nI 4).toNatClampNeg)
set_option maxRecDepth 100000 in
set_option maxHeartbeats 4000000 in
theorem c_X7_lessonNow (l : Launch) {fv : Value} (hf : FV fv) (s : Sc) (t u v w : Nat) (ht : rl 1000000 (Sc.ti s)) : CT l fv 1 jX7_lessonNow [.ref 0] (hSc s t u v w) (DP (some (.int (m_X7_lessonNow (Sc.le s) (Sc.ti s)))) (hSc s t u v w)) := by
  refine CT_of [] mt_X7_lessonNow (by decide +kernel) (tab_X7 hf) okX7_lessonNow (Nat.le_of_ble_eq_true rfl) ?_
  intro J hJ hD
  refine hJ 0 _ _ _ ?_
  refine And.intro (by decide) ?_
  refine And.intro (fun c1 => ?_) (fun c1 => ?_)
  · skip
    refine hJ 20 _ _ _ ?_
    exact And.intro True.intro (DPi (if_pos c1))
  · skip
    refine And.intro (vp_r4 ht) ?_
    refine hJ 22 _ _ _ ?_
    exact And.intro True.intro (DPi (if_neg c1))
def m_X7_tellFact (s : Sc) (i : Int32) (f : Int32) : Sc := if (m_X7_has (Sc.sz s) i) = 0 then s else (Sc.kd s, Sc.vv s, (upd (Sc.kn s) i.toNatClampNeg ((Sc.kn s i.toNatClampNeg) ||| (nI 1 <<< (f &&& 31)))), Sc.rw s, Sc.le s, Sc.sz s, Sc.ou s, Sc.ti s, Sc.sg s, Sc.lg s)
set_option maxRecDepth 100000 in
set_option maxHeartbeats 4000000 in
theorem c_X7_tellFact (l : Launch) {fv : Value} (hf : FV fv) (s : Sc) (t u v w : Nat) (i : Int32) (f : Int32) : CT l fv 2 jX7_tellFact [.ref 0, .int i, .int f] (hSc s t u v w) (DP none (hSc (m_X7_tellFact s i f) t u v w)) := by
  refine CT_of [] mt_X7_tellFact (by decide +kernel) (tab_X7 hf) okX7_tellFact (Nat.le_of_ble_eq_true rfl) ?_
  intro J hJ hD
  refine hJ 0 _ _ _ ?_
  refine CALL_same (r := some (.int (m_X7_has (Sc.sz s) i))) (h1 := hSc s t u v w) (by decide) (c_X7_has l hf s t u v w i) ?_
  refine And.intro (fun c1 => ?_) (fun c1 => ?_)
  · skip
    refine hJ 20 _ _ _ ?_
    exact And.intro rfl (DPs (F := (fun z => hSc z t u v w)) (s' := s) (if_pos c1))
  · skip
    have hi := has_of c1
    refine And.intro (hi) ?_
    refine And.intro (hi) ?_
    exact And.intro rfl (DPs (F := (fun z => hSc z t u v w)) (s' := (Sc.kd s, Sc.vv s, (upd (Sc.kn s) i.toNatClampNeg ((Sc.kn s i.toNatClampNeg) ||| (nI 1 <<< (f &&& 31)))), Sc.rw s, Sc.le s, Sc.sz s, Sc.ou s, Sc.ti s, Sc.sg s, Sc.lg s)) (if_neg c1))
def l_X7_least_11  (x : Int32) (k : Int32) : Nat → Int32 → Int32 → Int32 → Int32
  | 0, _, _, _ => 0
  | n11 + 1, a, n, f => if f < 0 then a else (if n ≤ k then a else (bindv (if ((a >>> (f &&& 31)) &&& nI 1) = nI 1 then (a &&& ((nI 1 <<< (f &&& 31)) ^^^ (-nI 1))) else a) (fun x3_0 => bindv (if ((a >>> (f &&& 31)) &&& nI 1) = nI 1 then (n + (-nI 1)) else n) (fun x3_1 => l_X7_least_11 x k n11 x3_0 x3_1 (f + (-nI 1))))))
theorem q_X7_least_11  (x : Int32) (k : Int32) (n11 : Nat) (a : Int32) (n : Int32) (f : Int32) : l_X7_least_11 x k (n11 + 1) a n f = (if f < 0 then a else (if n ≤ k then a else (bindv (if ((a >>> (f &&& 31)) &&& nI 1) = nI 1 then (a &&& ((nI 1 <<< (f &&& 31)) ^^^ (-nI 1))) else a) (fun x3_0 => bindv (if ((a >>> (f &&& 31)) &&& nI 1) = nI 1 then (n + (-nI 1)) else n) (fun x3_1 => l_X7_least_11 x k n11 x3_0 x3_1 (f + (-nI 1))))))) := rfl
def m_X7_least  (x : Int32) (k : Int32) : Int32 := l_X7_least_11 x k 9 x (m_J6_bitCount_0f7a4 x) (nI 7)
set_option maxRecDepth 100000 in
set_option maxHeartbeats 4000000 in
theorem c_X7_least (l : Launch) {fv : Value} (hf : FV fv)  (x : Int32) (k : Int32) : CT l fv 2 jX7_least [.int x, .int k] ([]) (DP (some (.int (m_X7_least x k))) ([])) := by
  refine CT_of [11, 43] mt_X7_least (by decide +kernel) (tab_X7 hf) okX7_least (Nat.le_of_ble_eq_true rfl) ?_
  intro J hJ hD
  refine hJ 0 _ _ _ ?_
  refine CALL_sub (h' := []) [] (by decide) (c_J6_bitCount_0f7a4 l hf x) rfl rfl (by decide) (by decide) rfl ?_
  have L11 : ∀ (n11 : Nat) (a : Int32) (n : Int32) (f : Int32), (∃ z9 : Nat, z9 < n11 ∧ z9 ≤ 8 ∧ f + nI 1 = nI z9) → m_X7_least x k = l_X7_least_11 x k n11 a n f → J 11 [(1, .int k), (2, .int a), (3, .int n), (4, .int f)] [] [] := by
    intro n11
    induction n11 with
    | zero =>
      intro a n f hv
      obtain ⟨z9, h1, h2, h3⟩ := hv
      omega
    | succ n11 ih11 =>
      intro a n f hv e11
      obtain ⟨z9, h1, h2, h3⟩ := hv
      refine hJ 11 _ _ _ ?_
      refine And.intro (fun c1 => ?_) (fun c1 => ?_)
      · skip
        refine hJ 49 _ _ _ ?_
        exact And.intro True.intro (DPi (e11.trans ((q_X7_least_11 x k n11 a n f).trans (if_pos c1))))
      · skip
        obtain ⟨z8, rfl, hv8⟩ := fit_v h3 (by omega) c1
        refine And.intro (fun c2 => ?_) (fun c2 => ?_)
        · skip
          refine hJ 49 _ _ _ ?_
          exact And.intro True.intro (DPi (e11.trans ((q_X7_least_11 x k n11 a n f).trans ((if_neg c1).trans (if_pos c2)))))
        · skip
          have K3 : ∀ (x3_0 : Int32), ∀ (x3_1 : Int32), (if ((a >>> (f &&& 31)) &&& nI 1) = nI 1 then (a &&& ((nI 1 <<< (f &&& 31)) ^^^ (-nI 1))) else a) = x3_0 → (if ((a >>> (f &&& 31)) &&& nI 1) = nI 1 then (n + (-nI 1)) else n) = x3_1 → J 43 [(1, .int k), (2, .int x3_0), (3, .int x3_1), (4, .int f)] [] [] := by
            intro x3_0 x3_1 ex3_0 ex3_1
            refine hJ 43 _ _ _ ?_
            exact hD _ _ [1, 2, 3, 0] _ _ (ih11 _ _ _ ⟨z8, by omega, by omega, by rw [m1p1]; exact hv8⟩ (e11.trans ((q_X7_least_11 x k n11 a n f).trans ((if_neg c1).trans ((if_neg c2).trans ((bindv_eq ex3_0).trans (bindv_eq ex3_1)))))))
          refine And.intro (fun c4 => ?_) (fun c4 => ?_)
          · skip
            exact hD _ _ [0, 1, 2, 3] _ _ (K3 _ _ (if_neg c4) (if_neg c4))
          · skip
            exact hD _ _ [2, 1, 0, 3] _ _ (K3 _ _ (if_pos c4) (if_pos c4))
  exact hD _ _ [4, 2, 1, 0] _ _ (L11 9 _ _ _ ⟨8, by decide, by decide, by decide⟩ (rfl))
def l_X7_join_51 (s : Sc) (kd : Int32) (vx : Int32) : Nat → Int32 → Fn → Int32 × Sc
  | 0, _, _ => (0, s)
  | n51 + 1, k, r1 => if nI 4 ≤ k then (bindv (m_X7_putOut ((upd (Sc.kd s) (Sc.sz s).toNatClampNeg kd), (upd (Sc.vv s) (Sc.sz s).toNatClampNeg vx), (upd (Sc.kn s) (Sc.sz s).toNatClampNeg (nI 0)), r1, Sc.le s, Sc.sz s, Sc.ou s, Sc.ti s, Sc.sg s, Sc.lg s) (Sc.sz s) (nI 0)) (fun r4 => (((Sc.sz r4 + nI 1) - nI 1), (Sc.kd r4, Sc.vv r4, Sc.kn r4, Sc.rw r4, Sc.le r4, (Sc.sz r4 + nI 1), Sc.ou r4, Sc.ti r4, Sc.sg r4, Sc.lg r4)))) else l_X7_join_51 s kd vx n51 (k + nI 1) (upd r1 ((Sc.sz s * nI 4) + k).toNatClampNeg (nI 0))
theorem q_X7_join_51 (s : Sc) (kd : Int32) (vx : Int32) (n51 : Nat) (k : Int32) (r1 : Fn) : l_X7_join_51 s kd vx (n51 + 1) k r1 = (if nI 4 ≤ k then (bindv (m_X7_putOut ((upd (Sc.kd s) (Sc.sz s).toNatClampNeg kd), (upd (Sc.vv s) (Sc.sz s).toNatClampNeg vx), (upd (Sc.kn s) (Sc.sz s).toNatClampNeg (nI 0)), r1, Sc.le s, Sc.sz s, Sc.ou s, Sc.ti s, Sc.sg s, Sc.lg s) (Sc.sz s) (nI 0)) (fun r4 => (((Sc.sz r4 + nI 1) - nI 1), (Sc.kd r4, Sc.vv r4, Sc.kn r4, Sc.rw r4, Sc.le r4, (Sc.sz r4 + nI 1), Sc.ou r4, Sc.ti r4, Sc.sg r4, Sc.lg r4)))) else l_X7_join_51 s kd vx n51 (k + nI 1) (upd r1 ((Sc.sz s * nI 4) + k).toNatClampNeg (nI 0))) := rfl
def m_X7_join (s : Sc) (kd : Int32) (vx : Int32) : Int32 × Sc := if Sc.sz s < 0 then ((-nI 4), s) else (if Sc.sz s < nI 6 then l_X7_join_51 s kd vx 5 (nI 0) (Sc.rw s) else ((-nI 4), s))
set_option maxRecDepth 100000 in
set_option maxHeartbeats 4000000 in
theorem c_X7_join (l : Launch) {fv : Value} (hf : FV fv) (s : Sc) (t u v w : Nat) (kd : Int32) (vx : Int32) : CT l fv 2 jX7_join [.ref 0, .int kd, .int vx] (hSc s t u v w) (DP (some (.int (m_X7_join s kd vx).1)) (hSc ((m_X7_join s kd vx).2) t u v w)) := by
  refine CT_of [51] mt_X7_join (by decide +kernel) (tab_X7 hf) okX7_join (Nat.le_of_ble_eq_true rfl) ?_
  intro J hJ hD
  refine hJ 0 _ _ _ ?_
  refine And.intro (fun c1 => ?_) (fun c1 => ?_)
  · skip
    refine hJ 16 _ _ _ ?_
    exact And.intro True.intro (DPis (F := (fun z => hSc z t u v w)) (s' := s) (if_pos c1))
  · skip
    have hz0 := c1
    refine And.intro (fun c2 => ?_) (fun c2 => ?_)
    · skip
      have hz := vp_of2 hz0 c2 (by decide)
      refine hJ 19 _ _ _ ?_
      refine And.intro (hz) ?_
      refine And.intro (hz) ?_
      refine And.intro (hz) ?_
      have L51 : ∀ (n51 : Nat) (k : Int32) (r1 : Fn), (∃ z9 : Nat, z9 ≤ 4 ∧ n51 + z9 = 5 ∧ k = nI z9) → m_X7_join s kd vx = l_X7_join_51 s kd vx n51 k r1 → J 51 [(0, .ref 0), (3, .int k)] [] (hSc ((upd (Sc.kd s) (Sc.sz s).toNatClampNeg kd), (upd (Sc.vv s) (Sc.sz s).toNatClampNeg vx), (upd (Sc.kn s) (Sc.sz s).toNatClampNeg (nI 0)), r1, Sc.le s, Sc.sz s, Sc.ou s, Sc.ti s, Sc.sg s, Sc.lg s) t u v w) := by
        intro n51
        induction n51 with
        | zero =>
          intro k r1 hv
          obtain ⟨z9, h1, h2, h3⟩ := hv
          omega
        | succ n51 ih51 =>
          intro k r1 hv e51
          obtain ⟨z9, h1, h2, h3⟩ := hv
          refine hJ 51 _ _ _ ?_
          refine And.intro (fun c3 => ?_) (fun c3 => ?_)
          · skip
            refine hJ 76 _ _ _ ?_
            obtain ⟨r4, er4⟩ : ∃ z : Sc, m_X7_putOut ((upd (Sc.kd s) (Sc.sz s).toNatClampNeg kd), (upd (Sc.vv s) (Sc.sz s).toNatClampNeg vx), (upd (Sc.kn s) (Sc.sz s).toNatClampNeg (nI 0)), r1, Sc.le s, Sc.sz s, Sc.ou s, Sc.ti s, Sc.sg s, Sc.lg s) (Sc.sz s) (nI 0) = z := ⟨_, rfl⟩
            have hr4 := c_X7_putOut l hf ((upd (Sc.kd s) (Sc.sz s).toNatClampNeg kd), (upd (Sc.vv s) (Sc.sz s).toNatClampNeg vx), (upd (Sc.kn s) (Sc.sz s).toNatClampNeg (nI 0)), r1, Sc.le s, Sc.sz s, Sc.ou s, Sc.ti s, Sc.sg s, Sc.lg s) t u v w (Sc.sz s) (nI 0)
            rw [er4] at hr4
            refine CALL_same (r := none) (h1 := hSc r4 t u v w) (by decide) (hr4) ?_
            refine And.intro True.intro ?_
            exact And.intro True.intro (DPis (F := (fun z => hSc z t u v w)) (s' := (Sc.kd r4, Sc.vv r4, Sc.kn r4, Sc.rw r4, Sc.le r4, (Sc.sz r4 + nI 1), Sc.ou r4, Sc.ti r4, Sc.sg r4, Sc.lg r4)) (e51.trans ((q_X7_join_51 s kd vx n51 k r1).trans ((if_pos c3).trans (bindv_eq er4)))))
          · skip
            have h4 : z9 < 4 := cnt_lt h3 h1 (by decide) c3
            refine And.intro (vp_x4c hz (vp_nI h3 h4 (by decide)) (by decide) (by decide) (by decide)) ?_
            exact hD _ _ [1, 0] _ _ (ih51 _ _ ⟨z9 + 1, by omega, by omega, by rw [h3]; exact nI_add z9 1⟩ (e51.trans ((q_X7_join_51 s kd vx n51 k r1).trans (if_neg c3))))
      exact hD _ _ [1, 0] _ _ (L51 5 _ _ ⟨0, by decide, by decide, rfl⟩ ((if_neg c1).trans (if_pos c2)))
    · skip
      exact And.intro True.intro (DPis (F := (fun z => hSc z t u v w)) (s' := s) ((if_neg c1).trans (if_neg c2)))
def m_X8_add (s : Tb) (a : Int32) (b : Int32) (c : Int32) (d : Int32) : Int32 × Tb := if Tb.n s < 0 then ((-nI 4), s) else (if Tb.n s < Tb.li s then ((Tb.n s + nI 1), ((upd (upd (upd (upd (Tb.ce s) (Tb.n s * nI 4).toNatClampNeg a) ((Tb.n s * nI 4) + nI 1).toNatClampNeg b) ((Tb.n s * nI 4) + nI 2).toNatClampNeg c) ((Tb.n s * nI 4) + nI 3).toNatClampNeg d), Tb.li s, (Tb.n s + nI 1))) else ((-nI 4), s))
set_option maxRecDepth 100000 in
set_option maxHeartbeats 4000000 in
theorem c_X8_add (l : Launch) {fv : Value} (hf : FV fv) (s : Tb) (a : Int32) (b : Int32) (c : Int32) (d : Int32) (hl : rl 8 (Tb.li s)) : CT l fv 1 jX8_add [.ref 0, .int a, .int b, .int c, .int d] (hTb s) (DP (some (.int (m_X8_add s a b c d).1)) (hTb ((m_X8_add s a b c d).2))) := by
  refine CT_of [] mt_X8_add (by decide +kernel) (tab_X8 hf) okX8_add (Nat.le_of_ble_eq_true rfl) ?_
  intro J hJ hD
  refine hJ 0 _ _ _ ?_
  refine And.intro (fun c1 => ?_) (fun c1 => ?_)
  · skip
    refine hJ 18 _ _ _ ?_
    exact And.intro True.intro (DPis (F := (fun z => hTb z)) (s' := s) (if_pos c1))
  · skip
    have hz0 := c1
    refine And.intro (fun c2 => ?_) (fun c2 => ?_)
    · skip
      have hz := vp_lim hz0 c2 hl
      refine hJ 21 _ _ _ ?_
      refine And.intro (vp_x40 hz (by decide) (by decide) (by decide)) ?_
      refine And.intro (vp_x4 hz (by decide) (by decide) (by decide) (by decide) (by decide)) ?_
      refine And.intro (vp_x4 hz (by decide) (by decide) (by decide) (by decide) (by decide)) ?_
      refine And.intro (vp_x4 hz (by decide) (by decide) (by decide) (by decide) (by decide)) ?_
      refine And.intro True.intro ?_
      exact And.intro True.intro (DPis (F := (fun z => hTb z)) (s' := ((upd (upd (upd (upd (Tb.ce s) (Tb.n s * nI 4).toNatClampNeg a) ((Tb.n s * nI 4) + nI 1).toNatClampNeg b) ((Tb.n s * nI 4) + nI 2).toNatClampNeg c) ((Tb.n s * nI 4) + nI 3).toNatClampNeg d), Tb.li s, (Tb.n s + nI 1))) ((if_neg c1).trans (if_pos c2)))
    · skip
      exact And.intro True.intro (DPis (F := (fun z => hTb z)) (s' := s) ((if_neg c1).trans (if_neg c2)))
def m_X8_cell (zce : Fn) (zn : Int32) (i : Int32) (j : Int32) : Int32 := if i < 0 then nI 0 else (if zn ≤ i then nI 0 else (if j < 0 then nI 0 else (if nI 4 ≤ j then nI 0 else (zce ((i * nI 4) + j).toNatClampNeg))))
set_option maxRecDepth 100000 in
set_option maxHeartbeats 4000000 in
theorem c_X8_cell (l : Launch) {fv : Value} (hf : FV fv) (s : Tb) (i : Int32) (j : Int32) (hn : rl 8 (Tb.n s)) : CT l fv 1 jX8_cell [.ref 0, .int i, .int j] (hTb s) (DP (some (.int (m_X8_cell (Tb.ce s) (Tb.n s) i j))) (hTb s)) := by
  refine CT_of [] mt_X8_cell (by decide +kernel) (tab_X8 hf) okX8_cell (Nat.le_of_ble_eq_true rfl) ?_
  intro J hJ hD
  refine hJ 0 _ _ _ ?_
  refine And.intro (fun c1 => ?_) (fun c1 => ?_)
  · skip
    refine hJ 25 _ _ _ ?_
    refine And.intro (fun c2 => ?_) (fun c2 => absurd (by decide) c2)
    refine hJ 44 _ _ _ ?_
    exact And.intro True.intro (DPi (if_pos c1))
  · skip
    have k1 := c1
    refine And.intro (fun c3 => ?_) (fun c3 => ?_)
    · skip
      refine hJ 25 _ _ _ ?_
      refine And.intro (fun c4 => ?_) (fun c4 => absurd (by decide) c4)
      refine hJ 44 _ _ _ ?_
      exact And.intro True.intro (DPi ((if_neg c1).trans (if_pos c3)))
    · skip
      have k2 := c3
      refine And.intro (fun c5 => ?_) (fun c5 => ?_)
      · skip
        refine hJ 25 _ _ _ ?_
        refine And.intro (fun c6 => ?_) (fun c6 => absurd (by decide) c6)
        refine hJ 44 _ _ _ ?_
        exact And.intro True.intro (DPi ((if_neg c1).trans ((if_neg c3).trans (if_pos c5))))
      · skip
        have k3 := c5
        refine And.intro (fun c7 => ?_) (fun c7 => ?_)
        · skip
          refine hJ 25 _ _ _ ?_
          refine And.intro (fun c8 => ?_) (fun c8 => absurd (by decide) c8)
          refine hJ 44 _ _ _ ?_
          exact And.intro True.intro (DPi ((if_neg c1).trans ((if_neg c3).trans ((if_neg c5).trans (if_pos c7)))))
        · skip
          have k4 := c7
          refine hJ 26 _ _ _ ?_
          refine And.intro (fun c9 => absurd c9 (by decide)) (fun c9 => ?_)
          refine And.intro (vp_x4c (vp_lim k1 (Int32.not_le.mp k2) hn) (vp_of3 k3 k4 (by decide)) (by decide) (by decide) (by decide)) ?_
          refine hJ 45 _ _ _ ?_
          exact And.intro True.intro (DPi ((if_neg c1).trans ((if_neg c3).trans ((if_neg c5).trans (if_neg c7)))))
def m_X8_takeOver (s : T2) : T2 := (((va_cpy (Tb.ce (T2.b s)) (Tb.ce (T2.a s)) (nI 0).toNatClampNeg (nI 0).toNatClampNeg (nI 32).toNatClampNeg), Tb.li (T2.a s), Tb.n (T2.b s)), T2.b s)
set_option maxRecDepth 100000 in
set_option maxHeartbeats 4000000 in
theorem c_X8_takeOver (l : Launch) {fv : Value} (hf : FV fv) (s : T2) : CT l fv 1 jX8_takeOver [.ref 0, .ref 2] (hT2 s) (DP none (hT2 (m_X8_takeOver s))) := by
  refine CT_of [] mt_X8_takeOver (by decide +kernel) (tab_X8 hf) okX8_takeOver (Nat.le_of_ble_eq_true rfl) ?_
  intro J hJ hD
  refine hJ 0 _ _ _ ?_
  refine ⟨by decide, by decide, by decide, by decide, by decide, fun _ _ => rfl, ?_⟩
  refine And.intro True.intro ?_
  exact And.intro rfl (DPs (F := (fun z => hT2 z)) (s' := (((va_cpy (Tb.ce (T2.b s)) (Tb.ce (T2.a s)) (nI 0).toNatClampNeg (nI 0).toNatClampNeg (nI 32).toNatClampNeg), Tb.li (T2.a s), Tb.n (T2.b s)), T2.b s)) (rfl))
theorem rl_lt {N : Nat} {z i : Int32} {k : Nat} (h : rl N z) (hi : i = nI k) (hk : k ≤ N) (c : ¬ z ≤ i) (hN : N < 1000 := by decide) : k < N := by
  obtain ⟨q, hq, rfl⟩ := h
  rw [hi, nI_leI (by omega) (by omega)] at c
  omega
def l_X7_lastSeen_4 (ze_ce : Fn) (ze_n : Int32) : Nat → Int32 → Int32 → Int32
  | 0, _, _ => 0
  | n4 + 1, a, i => if ze_n ≤ i then a else l_X7_lastSeen_4 ze_ce ze_n n4 (m_J9_max_7cf53 a (m_X8_cell (ze_ce) (ze_n) i (nI 1))) (i + nI 1)
theorem q_X7_lastSeen_4 (ze_ce : Fn) (ze_n : Int32) (n4 : Nat) (a : Int32) (i : Int32) : l_X7_lastSeen_4 ze_ce ze_n (n4 + 1) a i = (if ze_n ≤ i then a else l_X7_lastSeen_4 ze_ce ze_n n4 (m_J9_max_7cf53 a (m_X8_cell (ze_ce) (ze_n) i (nI 1))) (i + nI 1)) := rfl
def m_X7_lastSeen (ze_ce : Fn) (ze_n : Int32) : Int32 := l_X7_lastSeen_4 ze_ce ze_n 9 (nI 0) (nI 0)
set_option maxRecDepth 100000 in
set_option maxHeartbeats 4000000 in
theorem c_X7_lastSeen (l : Launch) {fv : Value} (hf : FV fv) (s : SU) (t v w : Nat) (hn : rl 8 (Tb.n (SU.e s))) : CT l fv 2 jX7_lastSeen [.ref 0] (hSU s t v w) (DP (some (.int (m_X7_lastSeen (Tb.ce (SU.e s)) (Tb.n (SU.e s))))) (hSU s t v w)) := by
  refine CT_of [4] mt_X7_lastSeen (by decide +kernel) (tab_X7 hf) okX7_lastSeen (Nat.le_of_ble_eq_true rfl) ?_
  intro J hJ hD
  refine hJ 0 _ _ _ ?_
  have L4 : ∀ (n4 : Nat) (a : Int32) (i : Int32), (∃ z9 : Nat, z9 ≤ 8 ∧ n4 + z9 = 9 ∧ i = nI z9) → m_X7_lastSeen (Tb.ce (SU.e s)) (Tb.n (SU.e s)) = l_X7_lastSeen_4 (Tb.ce (SU.e s)) (Tb.n (SU.e s)) n4 a i → J 4 [(0, .ref 0), (1, .int a), (2, .int i)] [] (hSU s t v w) := by
    intro n4
    induction n4 with
    | zero =>
      intro a i hv
      obtain ⟨z9, h1, h2, h3⟩ := hv
      omega
    | succ n4 ih4 =>
      intro a i hv e4
      obtain ⟨z9, h1, h2, h3⟩ := hv
      refine hJ 4 _ _ _ ?_
      refine And.intro (fun c1 => ?_) (fun c1 => ?_)
      · skip
        refine hJ 35 _ _ _ ?_
        exact And.intro True.intro (DPi (e4.trans ((q_X7_lastSeen_4 (Tb.ce (SU.e s)) (Tb.n (SU.e s)) n4 a i).trans (if_pos c1))))
      · skip
        have h4 := rl_lt hn h3 h1 c1
        refine CALL_sub (r := some (.int (m_X8_cell (Tb.ce (SU.e s)) (Tb.n (SU.e s)) i (nI 1)))) (h' := hSU s t v w) [6, 7] (by decide) (c_X8_cell l hf (SU.e s) i (nI 1) hn) rfl rfl (by decide) (by decide) rfl ?_
        refine CALL_sub (h' := hSU s t v w) [] (by decide) (c_J9_max_7cf53 l hf a (m_X8_cell (Tb.ce (SU.e s)) (Tb.n (SU.e s)) i (nI 1))) rfl rfl (by decide) (by decide) rfl ?_
        exact hD _ _ [2, 1, 0] _ _ (ih4 _ _ ⟨z9 + 1, by omega, by omega, by rw [h3]; exact nI_add z9 1⟩ (e4.trans ((q_X7_lastSeen_4 (Tb.ce (SU.e s)) (Tb.n (SU.e s)) n4 a i).trans (if_neg c1))))
  exact hD _ _ [2, 1, 0] _ _ (L4 9 _ _ ⟨0, by decide, by decide, rfl⟩ (rfl))
def l_X7_isAsSeen_2 (zc_kn : Fn) (zc_sz : Int32) (ze_ce : Fn) (ze_n : Int32) (n : Int32) : Nat → Int32 → Int32
  | 0, _ => 0
  | n2 + 1, i => if ze_n ≤ i then nI 1 else (if (m_X8_cell (ze_ce) (ze_n) i (nI 1)) = n then (if (m_X7_has (zc_sz) (m_X8_cell (ze_ce) (ze_n) i (nI 0))) = 0 then l_X7_isAsSeen_2 zc_kn zc_sz ze_ce ze_n n n2 (i + nI 1) else (if (((zc_kn (m_X8_cell (ze_ce) (ze_n) i (nI 0)).toNatClampNeg) >>> ((m_X8_cell (ze_ce) (ze_n) i (nI 2)) &&& 31)) &&& nI 1) = (m_X8_cell (ze_ce) (ze_n) i (nI 3)) then l_X7_isAsSeen_2 zc_kn zc_sz ze_ce ze_n n n2 (i + nI 1) else nI 0)) else l_X7_isAsSeen_2 zc_kn zc_sz ze_ce ze_n n n2 (i + nI 1))
theorem q_X7_isAsSeen_2 (zc_kn : Fn) (zc_sz : Int32) (ze_ce : Fn) (ze_n : Int32) (n : Int32) (n2 : Nat) (i : Int32) : l_X7_isAsSeen_2 zc_kn zc_sz ze_ce ze_n n (n2 + 1) i = (if ze_n ≤ i then nI 1 else (if (m_X8_cell (ze_ce) (ze_n) i (nI 1)) = n then (if (m_X7_has (zc_sz) (m_X8_cell (ze_ce) (ze_n) i (nI 0))) = 0 then l_X7_isAsSeen_2 zc_kn zc_sz ze_ce ze_n n n2 (i + nI 1) else (if (((zc_kn (m_X8_cell (ze_ce) (ze_n) i (nI 0)).toNatClampNeg) >>> ((m_X8_cell (ze_ce) (ze_n) i (nI 2)) &&& 31)) &&& nI 1) = (m_X8_cell (ze_ce) (ze_n) i (nI 3)) then l_X7_isAsSeen_2 zc_kn zc_sz ze_ce ze_n n n2 (i + nI 1) else nI 0)) else l_X7_isAsSeen_2 zc_kn zc_sz ze_ce ze_n n n2 (i + nI 1))) := rfl
def m_X7_isAsSeen (zc_kn : Fn) (zc_sz : Int32) (ze_ce : Fn) (ze_n : Int32) (n : Int32) : Int32 := l_X7_isAsSeen_2 zc_kn zc_sz ze_ce ze_n n 9 (nI 0)
set_option maxRecDepth 100000 in
set_option maxHeartbeats 4000000 in
theorem c_X7_isAsSeen (l : Launch) {fv : Value} (hf : FV fv) (s : SU) (t u v w : Nat) (n : Int32) (hn : rl 8 (Tb.n (SU.e s))) : CT l fv 2 jX7_isAsSeen [.ref 0, .ref 6, .int n] (hSX s t u v w) (DP (some (.int (m_X7_isAsSeen (Sc.kn (SU.c s)) (Sc.sz (SU.c s)) (Tb.ce (SU.e s)) (Tb.n (SU.e s)) n))) (hSX s t u v w)) := by
  refine CT_of [2] mt_X7_isAsSeen (by decide +kernel) (tab_X7 hf) okX7_isAsSeen (Nat.le_of_ble_eq_true rfl) ?_
  intro J hJ hD
  refine hJ 0 _ _ _ ?_
  have L2 : ∀ (n2 : Nat) (i : Int32), (∃ z9 : Nat, z9 ≤ 8 ∧ n2 + z9 = 9 ∧ i = nI z9) → m_X7_isAsSeen (Sc.kn (SU.c s)) (Sc.sz (SU.c s)) (Tb.ce (SU.e s)) (Tb.n (SU.e s)) n = l_X7_isAsSeen_2 (Sc.kn (SU.c s)) (Sc.sz (SU.c s)) (Tb.ce (SU.e s)) (Tb.n (SU.e s)) n n2 i → J 2 [(0, .ref 0), (1, .ref 6), (2, .int n), (3, .int i)] [] (hSX s t u v w) := by
    intro n2
    induction n2 with
    | zero =>
      intro i hv
      obtain ⟨z9, h1, h2, h3⟩ := hv
      omega
    | succ n2 ih2 =>
      intro i hv e2
      obtain ⟨z9, h1, h2, h3⟩ := hv
      refine hJ 2 _ _ _ ?_
      refine And.intro (fun c1 => ?_) (fun c1 => ?_)
      · skip
        refine hJ 70 _ _ _ ?_
        exact And.intro xb1 (DPi (e2.trans ((q_X7_isAsSeen_2 (Sc.kn (SU.c s)) (Sc.sz (SU.c s)) (Tb.ce (SU.e s)) (Tb.n (SU.e s)) n n2 i).trans (if_pos c1))))
      · skip
        have h4 := rl_lt hn h3 h1 c1
        refine CALL_sub (r := some (.int (m_X8_cell (Tb.ce (SU.e s)) (Tb.n (SU.e s)) i (nI 0)))) (h' := hSX s t u v w) [6, 7] (by decide) (c_X8_cell l hf (SU.e s) i (nI 0) hn) rfl rfl (by decide) (by decide) rfl ?_
        refine CALL_sub (r := some (.int (m_X8_cell (Tb.ce (SU.e s)) (Tb.n (SU.e s)) i (nI 1)))) (h' := hSX s t u v w) [6, 7] (by decide) (c_X8_cell l hf (SU.e s) i (nI 1) hn) rfl rfl (by decide) (by decide) rfl ?_
        refine And.intro (fun c2 => ?_) (fun c2 => ?_)
        · skip
          refine hJ 64 _ _ _ ?_
          exact hD _ _ [2, 3, 4, 0] _ _ (ih2 _ ⟨z9 + 1, by omega, by omega, by rw [h3]; exact nI_add z9 1⟩ (e2.trans ((q_X7_isAsSeen_2 (Sc.kn (SU.c s)) (Sc.sz (SU.c s)) (Tb.ce (SU.e s)) (Tb.n (SU.e s)) n n2 i).trans ((if_neg c1).trans (if_neg c2)))))
        · skip
          refine CALL_pre (r := some (.int (m_X7_has (Sc.sz (SU.c s)) (m_X8_cell (Tb.ce (SU.e s)) (Tb.n (SU.e s)) i (nI 0))))) (h1 := hSc (SU.c s) t u v w) (rest := List.drop 6 (hSX s t u v w)) (by decide) (c_X7_has l hf (SU.c s) t u v w (m_X8_cell (Tb.ce (SU.e s)) (Tb.n (SU.e s)) i (nI 0))) rfl rfl (Nat.le_of_ble_eq_true rfl) ?_
          refine And.intro (fun c3 => ?_) (fun c3 => ?_)
          · skip
            refine hJ 64 _ _ _ ?_
            exact hD _ _ [2, 3, 4, 0] _ _ (ih2 _ ⟨z9 + 1, by omega, by omega, by rw [h3]; exact nI_add z9 1⟩ (e2.trans ((q_X7_isAsSeen_2 (Sc.kn (SU.c s)) (Sc.sz (SU.c s)) (Tb.ce (SU.e s)) (Tb.n (SU.e s)) n n2 i).trans ((if_neg c1).trans ((if_pos c2).trans (if_pos c3))))))
          · skip
            have hu := has_of c3
            refine And.intro (hu) ?_
            refine CALL_sub (r := some (.int (m_X8_cell (Tb.ce (SU.e s)) (Tb.n (SU.e s)) i (nI 2)))) (h' := hSX s t u v w) [6, 7] (by decide) (c_X8_cell l hf (SU.e s) i (nI 2) hn) rfl rfl (by decide) (by decide) rfl ?_
            refine CALL_sub (r := some (.int (m_X8_cell (Tb.ce (SU.e s)) (Tb.n (SU.e s)) i (nI 3)))) (h' := hSX s t u v w) [6, 7] (by decide) (c_X8_cell l hf (SU.e s) i (nI 3) hn) rfl rfl (by decide) (by decide) rfl ?_
            refine And.intro (fun c4 => ?_) (fun c4 => ?_)
            · skip
              refine hJ 64 _ _ _ ?_
              exact hD _ _ [2, 3, 4, 0] _ _ (ih2 _ ⟨z9 + 1, by omega, by omega, by rw [h3]; exact nI_add z9 1⟩ (e2.trans ((q_X7_isAsSeen_2 (Sc.kn (SU.c s)) (Sc.sz (SU.c s)) (Tb.ce (SU.e s)) (Tb.n (SU.e s)) n n2 i).trans ((if_neg c1).trans ((if_pos c2).trans ((if_neg c3).trans (if_pos c4)))))))
            · skip
              exact And.intro xb0 (DPi (e2.trans ((q_X7_isAsSeen_2 (Sc.kn (SU.c s)) (Sc.sz (SU.c s)) (Tb.ce (SU.e s)) (Tb.n (SU.e s)) n n2 i).trans ((if_neg c1).trans ((if_pos c2).trans ((if_neg c3).trans (if_neg c4)))))))
  exact hD _ _ [1, 2, 3, 0] _ _ (L2 9 _ ⟨0, by decide, by decide, rfl⟩ (rfl))
def m_X7_becomeRow (s : S2) : S2 := (((va_cpy (Sc.kd (S2.b s)) (Sc.kd (S2.a s)) (nI 0).toNatClampNeg (nI 0).toNatClampNeg (nI 6).toNatClampNeg), (va_cpy (Sc.vv (S2.b s)) (Sc.vv (S2.a s)) (nI 0).toNatClampNeg (nI 0).toNatClampNeg (nI 6).toNatClampNeg), (va_cpy (Sc.kn (S2.b s)) (Sc.kn (S2.a s)) (nI 0).toNatClampNeg (nI 0).toNatClampNeg (nI 6).toNatClampNeg), (va_cpy (Sc.rw (S2.b s)) (Sc.rw (S2.a s)) (nI 0).toNatClampNeg (nI 0).toNatClampNeg (nI 24).toNatClampNeg), (va_cpy (Sc.le (S2.b s)) (Sc.le (S2.a s)) (nI 0).toNatClampNeg (nI 0).toNatClampNeg (nI 4).toNatClampNeg), Sc.sz (S2.b s), Sc.ou (S2.b s), Sc.ti (S2.b s), Sc.sg (S2.a s), Sc.lg (S2.a s)), S2.b s)
set_option maxRecDepth 100000 in
set_option maxHeartbeats 4000000 in
theorem c_X7_becomeRow (l : Launch) {fv : Value} (hf : FV fv) (s : S2) (t u v w t2 u2 v2 w2 : Nat) : CT l fv 1 jX7_becomeRow [.ref 0, .ref 6] (hS2 s t u v w t2 u2 v2 w2) (DP none (hS2 (m_X7_becomeRow s) t u v w t2 u2 v2 w2)) := by
  refine CT_of [] mt_X7_becomeRow (by decide +kernel) (tab_X7 hf) okX7_becomeRow (Nat.le_of_ble_eq_true rfl) ?_
  intro J hJ hD
  refine hJ 0 _ _ _ ?_
  refine ⟨by decide, by decide, by decide, by decide, by decide, fun _ _ => rfl, ?_⟩
  refine ⟨by decide, by decide, by decide, by decide, by decide, fun _ _ => rfl, ?_⟩
  refine ⟨by decide, by decide, by decide, by decide, by decide, fun _ _ => rfl, ?_⟩
  refine ⟨by decide, by decide, by decide, by decide, by decide, fun _ _ => rfl, ?_⟩
  refine ⟨by decide, by decide, by decide, by decide, by decide, fun _ _ => rfl, ?_⟩
  refine And.intro True.intro ?_
  refine And.intro True.intro ?_
  refine And.intro True.intro ?_
  exact And.intro rfl (DPs (F := (fun z => hS2 z t u v w t2 u2 v2 w2)) (s' := (((va_cpy (Sc.kd (S2.b s)) (Sc.kd (S2.a s)) (nI 0).toNatClampNeg (nI 0).toNatClampNeg (nI 6).toNatClampNeg), (va_cpy (Sc.vv (S2.b s)) (Sc.vv (S2.a s)) (nI 0).toNatClampNeg (nI 0).toNatClampNeg (nI 6).toNatClampNeg), (va_cpy (Sc.kn (S2.b s)) (Sc.kn (S2.a s)) (nI 0).toNatClampNeg (nI 0).toNatClampNeg (nI 6).toNatClampNeg), (va_cpy (Sc.rw (S2.b s)) (Sc.rw (S2.a s)) (nI 0).toNatClampNeg (nI 0).toNatClampNeg (nI 24).toNatClampNeg), (va_cpy (Sc.le (S2.b s)) (Sc.le (S2.a s)) (nI 0).toNatClampNeg (nI 0).toNatClampNeg (nI 4).toNatClampNeg), Sc.sz (S2.b s), Sc.ou (S2.b s), Sc.ti (S2.b s), Sc.sg (S2.a s), Sc.lg (S2.a s)), S2.b s)) (rfl))
def m_X7_become (s : SS) : SS := bindv (m_X7_becomeRow (Sf.c (SS.a s), Sf.c (SS.b s))) (fun r1 => bindv (m_X8_takeOver (Sf.se (SS.a s), Sf.se (SS.b s))) (fun r2 => bindv (m_X8_takeOver (Sf.pl (SS.a s), Sf.pl (SS.b s))) (fun r3 => bindv (m_X8_takeOver (Sf.bk (SS.a s), Sf.bk (SS.b s))) (fun r4 => (((Sc.kd (S2.a r1), Sc.vv (S2.a r1), Sc.kn (S2.a r1), Sc.rw (S2.a r1), Sc.le (S2.a r1), Sc.sz (S2.a r1), Sc.ou (S2.a r1), Sc.ti (S2.a r1), Sc.sg (S2.b r1), Sc.lg (S2.b r1)), (va_cpy (Sf.tp (SS.b s)) (Sf.tp (SS.a s)) (nI 0).toNatClampNeg (nI 0).toNatClampNeg (nI 100).toNatClampNeg), T2.a r2, T2.a r3, T2.a r4), (S2.b r1, Sf.tp (SS.b s), T2.b r2, T2.b r3, T2.b r4))))))
set_option maxRecDepth 100000 in
set_option maxHeartbeats 4000000 in
theorem c_X7_become (l : Launch) {fv : Value} (hf : FV fv) (s : SS) (hb : ∀ j, fits .byte (.int (Sf.tp (SS.b s) j)) = true) : CT l fv 2 jX7_become [.ref 0, .ref 6] (hSS s) (DP none (hSS (m_X7_become s))) := by
  refine CT_of [] mt_X7_become (by decide +kernel) (tab_X7 hf) okX7_become (Nat.le_of_ble_eq_true rfl) ?_
  intro J hJ hD
  refine hJ 0 _ _ _ ?_
  obtain ⟨r1, er1⟩ : ∃ z : S2, m_X7_becomeRow (Sf.c (SS.a s), Sf.c (SS.b s)) = z := ⟨_, rfl⟩
  have hr1 := c_X7_becomeRow l hf (Sf.c (SS.a s), Sf.c (SS.b s)) 12 14 16 18 13 20 22 24
  rw [er1] at hr1
  refine CALL_sub (r := none) (h' := wSS (S2.a r1, Sf.tp (SS.a s), Sf.se (SS.a s), Sf.pl (SS.a s), Sf.bk (SS.a s)) (S2.b r1, Sf.tp (SS.b s), Sf.se (SS.b s), Sf.pl (SS.b s), Sf.bk (SS.b s))) [0, 1, 2, 3, 4, 5, 6, 7, 8, 9, 10, 11] (by decide) (hr1) rfl rfl (by decide) (by decide) rfl ?_
  refine ⟨by decide, by decide, by decide, by decide, by decide, fun _ _ => hb _, ?_⟩
  refine And.intro True.intro ?_
  refine And.intro True.intro ?_
  obtain ⟨r2, er2⟩ : ∃ z : T2, m_X8_takeOver (Sf.se (SS.a s), Sf.se (SS.b s)) = z := ⟨_, rfl⟩
  have hr2 := c_X8_takeOver l hf (Sf.se (SS.a s), Sf.se (SS.b s))
  rw [er2] at hr2
  refine CALL_sub (r := none) (h' := wSS ((Sc.kd (S2.a r1), Sc.vv (S2.a r1), Sc.kn (S2.a r1), Sc.rw (S2.a r1), Sc.le (S2.a r1), Sc.sz (S2.a r1), Sc.ou (S2.a r1), Sc.ti (S2.a r1), Sc.sg (S2.b r1), Sc.lg (S2.b r1)), (va_cpy (Sf.tp (SS.b s)) (Sf.tp (SS.a s)) (nI 0).toNatClampNeg (nI 0).toNatClampNeg (nI 100).toNatClampNeg), T2.a r2, Sf.pl (SS.a s), Sf.bk (SS.a s)) (S2.b r1, Sf.tp (SS.b s), T2.b r2, Sf.pl (SS.b s), Sf.bk (SS.b s))) [14, 15, 20, 21] (by decide) (hr2) rfl rfl (by decide) (by decide) rfl ?_
  obtain ⟨r3, er3⟩ : ∃ z : T2, m_X8_takeOver (Sf.pl (SS.a s), Sf.pl (SS.b s)) = z := ⟨_, rfl⟩
  have hr3 := c_X8_takeOver l hf (Sf.pl (SS.a s), Sf.pl (SS.b s))
  rw [er3] at hr3
  refine CALL_sub (r := none) (h' := wSS ((Sc.kd (S2.a r1), Sc.vv (S2.a r1), Sc.kn (S2.a r1), Sc.rw (S2.a r1), Sc.le (S2.a r1), Sc.sz (S2.a r1), Sc.ou (S2.a r1), Sc.ti (S2.a r1), Sc.sg (S2.b r1), Sc.lg (S2.b r1)), (va_cpy (Sf.tp (SS.b s)) (Sf.tp (SS.a s)) (nI 0).toNatClampNeg (nI 0).toNatClampNeg (nI 100).toNatClampNeg), T2.a r2, T2.a r3, Sf.bk (SS.a s)) (S2.b r1, Sf.tp (SS.b s), T2.b r2, T2.b r3, Sf.bk (SS.b s))) [16, 17, 22, 23] (by decide) (hr3) rfl rfl (by decide) (by decide) rfl ?_
  obtain ⟨r4, er4⟩ : ∃ z : T2, m_X8_takeOver (Sf.bk (SS.a s), Sf.bk (SS.b s)) = z := ⟨_, rfl⟩
  have hr4 := c_X8_takeOver l hf (Sf.bk (SS.a s), Sf.bk (SS.b s))
  rw [er4] at hr4
  refine CALL_sub (r := none) (h' := wSS ((Sc.kd (S2.a r1), Sc.vv (S2.a r1), Sc.kn (S2.a r1), Sc.rw (S2.a r1), Sc.le (S2.a r1), Sc.sz (S2.a r1), Sc.ou (S2.a r1), Sc.ti (S2.a r1), Sc.sg (S2.b r1), Sc.lg (S2.b r1)), (va_cpy (Sf.tp (SS.b s)) (Sf.tp (SS.a s)) (nI 0).toNatClampNeg (nI 0).toNatClampNeg (nI 100).toNatClampNeg), T2.a r2, T2.a r3, T2.a r4) (S2.b r1, Sf.tp (SS.b s), T2.b r2, T2.b r3, T2.b r4)) [18, 19, 24, 25] (by decide) (hr4) rfl rfl (by decide) (by decide) rfl ?_
  exact And.intro rfl (DPs (F := (fun z => hSS z)) (s' := (((Sc.kd (S2.a r1), Sc.vv (S2.a r1), Sc.kn (S2.a r1), Sc.rw (S2.a r1), Sc.le (S2.a r1), Sc.sz (S2.a r1), Sc.ou (S2.a r1), Sc.ti (S2.a r1), Sc.sg (S2.b r1), Sc.lg (S2.b r1)), (va_cpy (Sf.tp (SS.b s)) (Sf.tp (SS.a s)) (nI 0).toNatClampNeg (nI 0).toNatClampNeg (nI 100).toNatClampNeg), T2.a r2, T2.a r3, T2.a r4), (S2.b r1, Sf.tp (SS.b s), T2.b r2, T2.b r3, T2.b r4))) ((bindv_eq er1).trans ((bindv_eq er2).trans ((bindv_eq er3).trans (bindv_eq er4)))))

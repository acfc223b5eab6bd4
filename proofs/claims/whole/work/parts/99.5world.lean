/-! the law's world: the script, the class's cells, the check's cells behind them -/
def XL (fv : Value) (L : Nat) (xs : Nat → Int32) : RoT := ((XR fv).1, (XR fv).2.1, (1200, .int, L, xs) :: (XR fv).2.2.1, (XR fv).2.2.2)
def P_Ls (L : Nat) (xs : Nat → Int32) : Pool := (P_L.1, P_L.2.1, [], [], [], [(1200, 0, L, xs)])
theorem XL_ok {fv : Value} {L : Nat} {xs : Nat → Int32} (h : FV fv) : RoOK (XL fv L xs) := by
  obtain ⟨h1, h2, h3, h4⟩ := XR_ok h
  exact ⟨h1, h2, List.forall_mem_cons.mpr ⟨(by decide : 1000 ≤ 1200), h3⟩, h4⟩
theorem tab_Ls {fv : Value} {L : Nat} {xs : Nat → Int32} (h : FV fv) : TabOK TB mt vwCl (XL fv L xs) RL (P_Ls L xs) :=
  ⟨by decide, XL_ok h, XR_str (fv := fv), TB_ok, cls_ok, fld_L, ⟨fun _ z => absurd z List.not_mem_nil, List.forall_mem_cons.mpr ⟨Or.inl ⟨rfl, List.mem_cons_self⟩, fun _ z => absurd z List.not_mem_nil⟩, fun _ z => absurd z List.not_mem_nil, fun _ z => absurd z List.not_mem_nil⟩, cpo_L⟩
theorem Met.pre {l : Launch} {y : MethodName} {ws : List Cond} {rm : Room} {P P' : Array Value → State → Prop} {Qc : Array Value → State → Outcome → State → Prop} {mc ms : Nat} {free : Addr → Prop} (h : Met l y ws rm P Qc mc ms free) (hp : ∀ a U, P' a U → P a U) : Met l y ws rm P' Qc mc ms free :=
  fun p e ha hc hk s m args below hf happ hP hK => h p e ha hc hk s m args below hf happ (hp _ _ hP) hK
theorem ct_up {l : Launch} {fv : Value} {L : Nat} {xs : Nat → Int32} {d j : Nat} {as : List Value} {h : List AE} {P : RP} (c : CT l fv d j as h P) : CTof l TB mt vwCl (XL fv L xs) d j as h P :=
  fun D tc ad => Met.pre (c D tc ad) fun _ _ ⟨q0, q1, q2, q3, q4⟩ => ⟨q0, q1, q2, q3, q4.1, q4.2.1, fun q m => q4.2.2.1 q (List.mem_cons_of_mem _ m), q4.2.2.2⟩
def emM : List Nat := List.range' 70 10
def hML (m : Ms) : List AE := (hMs m).map (r_e emM)
theorem len_U (s : Us) : (hUs s).length = 70 := rfl
theorem len_M (m : Ms) : (hMs m).length = 10 := rfl
theorem len_ML (m : Ms) : (hML m).length = 10 := by unfold hML; rw [List.length_map]; rfl
theorem ws_pre (a b : List AE) : w_sub (a ++ b) (List.range a.length) a := by
  unfold w_sub
  apply List.ext_getElem?
  intro i
  rw [List.getElem?_map, List.getElem?_map]
  by_cases hi : i < a.length
  · rw [List.getElem?_range hi, List.getElem?_eq_getElem hi]
    show some (l_get (a ++ b) i) = some (some (r_e (List.range a.length) a[i]))
    rw [re_id, l_get_eq, List.getElem?_append_left hi, List.getElem?_eq_getElem hi]
  · rw [List.getElem?_eq_none (by simpa using hi), List.getElem?_eq_none (by simpa using hi)]
    rfl
theorem ws_suf (a b : List AE) (em : List Nat) (e : em = List.range' a.length b.length) : w_sub (a ++ b.map (r_e em)) em b := by
  unfold w_sub
  apply List.ext_getElem?
  intro i
  rw [List.getElem?_map, List.getElem?_map]
  by_cases hi : i < b.length
  · have e1 : em[i]? = some (a.length + i) := by rw [e, List.getElem?_range' (by omega)]; simp
    rw [e1, List.getElem?_eq_getElem hi]
    show some (l_get _ (a.length + i)) = some (some _)
    rw [l_get_eq, List.getElem?_append_right (by omega), Nat.add_sub_cancel_left, List.getElem?_map, List.getElem?_eq_getElem hi]
    rfl
  · have e1 : em[i]? = none := List.getElem?_eq_none (by rw [e, List.length_range']; omega)
    rw [e1, List.getElem?_eq_none (by omega)]
    rfl
theorem emM_nd : emM.Nodup := by decide
theorem ro_id (n : Nat) (r : Option Value) : r_o (List.range n) r = r := by
  cases r with
  | none => rfl
  | some v => show some _ = _; rw [rv_id]
theorem cUs {l : Launch} {fv : Value} {L : Nat} {xs : Nat → Int32} {d d1 j : Nat} {as : List Value} {s s' : Us} {m : Ms} {r : Option Value} {k : Option Value → List AE → Prop} (hd : d1 < d) (c : CT l fv d1 j as (hUs s) (DP r (hUs s'))) (hk : k r (hUs s' ++ hML m)) : CALL (CTof l TB mt vwCl (XL fv L xs)) d j as (hUs s ++ hML m) k := by
  refine CALL_sub (h' := hUs s' ++ hML m) (r := r) (List.range (hUs s).length) hd (ct_up c) ?_ (ws_pre _ _) List.nodup_range (by rw [List.length_range, len_U]; decide) ?_ ?_
  · have e : r_v (List.range (hUs s).length) = id := funext (rv_id _)
    rw [e, List.map_id]
  · have e : r_e (List.range (hUs s).length) = id := funext (re_id _)
    rw [e, List.map_id, List.range_eq_range']
    exact wb_pre (hUs s') (hUs s) [] (hML m) rfl
  · rw [ro_id]; exact hk
theorem cMs {l : Launch} {fv : Value} {L : Nat} {xs : Nat → Int32} {d d1 j : Nat} {as as0 : List Value} {s : Us} {m m' : Ms} {r : Option Value} {k : Option Value → List AE → Prop} (hd : d1 < d) (c : CT l fv d1 j as0 (hMs m) (DP r (hMs m'))) (ha : as0.map (r_v emM) = as) (hr : r_o emM r = r) (hk : k r (hUs s ++ hML m')) : CALL (CTof l TB mt vwCl (XL fv L xs)) d j as (hUs s ++ hML m) k := by
  refine CALL_sub (h' := hUs s ++ hML m') (r := r) emM hd (ct_up c) ha (ws_suf (hUs s) (hMs m) emM rfl) emM_nd (by decide) ?_ ?_
  · have := wb_pre (hML m') (hML m) (hUs s) [] (by rw [len_ML, len_ML])
    rw [List.append_nil, List.append_nil, len_ML] at this
    exact this
  · rw [hr]; exact hk

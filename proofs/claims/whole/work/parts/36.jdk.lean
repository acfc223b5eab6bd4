/-! printed by wip/whole/gen/specs36.py: what the JDK does for it -/
section SF
variable {l : Launch}
theorem MetW_F {y : MethodName} {ws ws' : List Cond} {rm : Room} {Pc : Array Value → State → Prop} {Qc : Array Value → State → Outcome → State → Prop} {mc ms : Nat} {free : Addr → Prop} {cc : ByteArray} {maxL : Nat} {ret : Option FieldType}
    (hy : plainFor y = true) (hw : ws = Cond.code y cc maxL ret :: ws')
    (body : ∀ p e s m args below meth c s₁, BodyLoose p l y (headSpec ws rm) cc maxL ret e s m args below meth c s₁ → c.maxLocals = maxL → Pc args s →
      W p l e (headSpec ws rm).room s m args below meth c s.heap [] 0 0 (MQ below Qc args s mc ms free) (entryFrame m args maxL)) : Met l y ws rm Pc Qc mc ms free := by
  refine MetFree.of_bodySF (code := cc) (maxLocals := maxL) (ret := ret) hy ?_ ?_
  · intro args s m h hn
    obtain ⟨meth, c, h1, h2, h3, h4, h5, h6, -, -⟩ := Cond.code_spec hn (atoms_spec (ws := ws) h _ (by rw [hw]; exact List.mem_cons_self))
    exact ⟨meth, c, h1, h2, h3, h4, h5, h6⟩
  · intro p e s m args below meth c s₁ B hml hP _
    have hh0 : s₁.heap = s.heap := by rw [B.state]; rfl
    obtain ⟨t, a1, o, b1, b2, b3⟩ := body p e s m args below meth c s₁ B hml hP s₁ hh0 (Stand.of_body B)
    exact ⟨t, o, a1, b1, b2, ⟨b3.1, b3.2⟩⟩
end SF
section SN6F
variable {p : Program} {l : Launch} {e : Env} {R : Room} {s : State} {m : MethodId} {args : Array Value} {below : List Frame} {meth : Method} {c : Code} {cells slots : Nat} {Q : State → Prop}
variable {cl : List vw_C} {D : va_G} {tc : Nat → ClassId} {ad : Nat → Nat} {N nL : Nat} {cc : ByteArray} {own : String} {Ts TB : List Cond} {X : RoT} {P : Pool} {d : Nat} {ty : Option FieldType} {RT : RP} {mt : MT}
/-- A BODY GIVES ITS METHOD'S CONTRACT -/
theorem CT_ofF {j : Nat} (cuts : List Nat) {as : List Value} {h0 : List AE} {PP : RP} {code : List Ins} {y : MethodName} {cc : ByteArray} (hmt : mt j = (y, cc, nL, ty)) (hy : plainFor y = true) (T0 : TabOK TB mt cl X y.cls P) (hok : okc cc code) (hin : x_cat as ≤ nL)
    (hbody : Body P (CTof l TB mt cl X) d nL ty cuts code as h0 PP) : CTof l TB mt cl X d j as h0 PP := by
  intro D tc ad
  have e1 : (mt j).1 = y := by rw [hmt]
  have e2 : cdOf mt j = Cond.code y cc nL ty := by unfold cdOf; rw [hmt]
  rw [e1, e2]
  refine MetW_F (cc := cc) (maxL := nL) (ret := ty) hy rfl ?_
  intro p e s m args below meth c s₁ B hml hv
  obtain ⟨rfl, hP, hK, hI, hR⟩ := hv
  have hts := atoms_spec (ws := Cond.code y cc nL ty :: TB) B.pre
  have hown : s.vm.findClass y.cls = some m.cls := findClass_of_methodNamed B.named
  have hr := B.returns
  have hx := B.exec
  have hb := B.bytes
  have hlocks := B.notSynchronized
  have C0 : CX p s m (as.map (cv ad)).toArray c cl D tc ad h0.length nL cc y.cls TB X := ⟨hx, hb, hml, hown, fun w hw => hts w (List.mem_cons_of_mem _ hw), hK, hI, hR⟩
  have hret : RetOK p l e (headSpec (Cond.code y cc nL ty :: TB) (rmOf d)).room s m (as.map (cv ad)).toArray below meth c 0 0 (MQ below (Q_ct cl D tc ad h0 PP) (as.map (cv ad)).toArray s 0 0 (AA ad h0.length)) cl D tc ad h0.length cc ty PP := by
    intro pc h H locs la h1 h2 h3
    refine ⟨fun x hd ht hq => ?_, fun x hd ht hq => ?_, fun x n hd ht hq => ?_, fun hd ht hq => ?_⟩
    · have post : ∀ t : State, t.heap = H → s.WarmedH t.vm → Q_ct cl D tc ad h0 PP (as.map (cv ad)).toArray s (.returned (some (.int x))) t := fun t e9 _ => ⟨⟨some (.int x), h, rfl, hq, h1, by rw [e9]; exact h2⟩, h3.F e9⟩
      cases ty with
      | none => exact ht.elim
      | some u =>
        refine W.zret hx hb hr ?_ post h3.2.2 hd
        cases u with
        | int => rfl
        | boolean => have ht : x &&& 1 = x := ht; show Value.int (x &&& 1) = Value.int x; rw [ht]
        | _ => exact ht
    · subst ht
      exact W.lret hx hb hr (fun t e9 _ => ⟨⟨some (.long x), h, rfl, hq, h1, by rw [e9]; exact h2⟩, h3.F e9⟩) h3.2.2 hd
    · subst ht
      exact W.aret hx hb hr (Or.inl ⟨n, rfl⟩) (Or.inr ⟨_, rfl⟩) (fun t e9 _ => ⟨⟨some (.ref x), h, rfl, hq, h1, by rw [e9]; exact h2⟩, h3.F e9⟩) h3.2.2 hd
    · subst ht
      exact W.vret hx hb hr (fun t e9 _ => ⟨⟨none, h, rfl, hq, h1, by rw [e9]; exact h2⟩, h3.F e9⟩) h3.2.2 hd
  have hl := lv_entry (as.map (cv ad)) (n := nL) (by rw [sl_cv]; exact hin)
  rw [args_cv] at hl
  rw [lg_entry_eq]
  exact hbody _ (runs_of C0 T0 (Nat.le_refl d) (Nat.le_refl _) ⟨Nat.le_refl 0, Nat.le_refl 0⟩ hret hok) drops_of s.heap [] _ rfl hP va_S.rf hl
end SN6F

theorem vp_nn {x : Int32} {n : Nat} (hx : vp_in x n) (hn : n < 2 ^ 31) : ¬ x < 0 := by
  obtain ⟨j, hj, rfl⟩ := vp_in_of hx hn
  exact Int32.not_lt.mpr (nI_le (Nat.zero_le j) (by omega))
theorem vp_lt {x : Int32} {n : Nat} (hx : vp_in x n) (hn : n < 2 ^ 31) : x < nI n := by
  obtain ⟨j, hj, rfl⟩ := vp_in_of hx hn
  exact nI_lt hj hn
def m_J3_checkIndex_8e157  (x : Int32) (n : Int32) : Int32 := x
set_option maxRecDepth 100000 in
set_option maxHeartbeats 4000000 in
theorem c_J3_checkIndex_8e157 (l : Launch) {fv : Value} (hf : FV fv)  (x : Int32) (n : Int32) (h0 : ¬ x < 0) (h1 : x < n) : CT l fv 1 jJ3_checkIndex_8e157 [.int x, .int n, fv] ([]) (DP (some (.int (m_J3_checkIndex_8e157 x n))) ([])) := by
  have hf0 := hf
  rcases hf with rfl | rfl
  · skip
    refine CT_of [] mt_J3_checkIndex_8e157 (by decide +kernel) (tab_J3 hf0) okJ3_checkIndex_8e157 (Nat.le_of_ble_eq_true rfl) ?_
    intro J hJ hD
    refine hJ 0 _ _ _ ?_
    refine And.intro (fun c1 => absurd c1 h0) (fun c1 => ?_)
    refine And.intro (fun c2 => ?_) (fun c2 => absurd h1 c2)
    refine hJ 16 _ _ _ ?_
    exact And.intro True.intro (DPi (rfl))
  · skip
    refine CT_of [] mt_J3_checkIndex_8e157 (by decide +kernel) (tab_J3 hf0) okJ3_checkIndex_8e157 (Nat.le_of_ble_eq_true rfl) ?_
    intro J hJ hD
    refine hJ 0 _ _ _ ?_
    refine And.intro (fun c1 => absurd c1 h0) (fun c1 => ?_)
    refine And.intro (fun c2 => ?_) (fun c2 => absurd h1 c2)
    refine hJ 16 _ _ _ ?_
    exact And.intro True.intro (DPi (rfl))
set_option maxRecDepth 100000 in
set_option maxHeartbeats 4000000 in
theorem c_J0_checkIndex_df160 (l : Launch) {fv : Value} (hf : FV fv)  (x : Int32) (n : Int32) (h0 : ¬ x < 0) (h1 : x < n) : CT l fv 2 jJ0_checkIndex_df160 [.int x, .int n] ([]) (DP none ([])) := by
  have hf0 := hf
  rcases hf with rfl | rfl
  · skip
    refine CT_of [] mt_J0_checkIndex_df160 (by decide +kernel) (tab_J0 hf0) okJ0_checkIndex_df160 (Nat.le_of_ble_eq_true rfl) ?_
    intro J hJ hD
    refine hJ 0 _ _ _ ?_
    refine CALL_sub (h' := []) [] (by decide) (c_J3_checkIndex_8e157 l hf0 x n h0 h1) rfl rfl (by decide) (by decide) rfl ?_
    exact And.intro rfl (⟨rfl, rfl⟩)
  · skip
    refine CT_of [] mt_J0_checkIndex_df160 (by decide +kernel) (tab_J0 hf0) okJ0_checkIndex_df160 (Nat.le_of_ble_eq_true rfl) ?_
    intro J hJ hD
    refine hJ 0 _ _ _ ?_
    refine CALL_sub (h' := []) [] (by decide) (c_J3_checkIndex_8e157 l hf0 x n h0 h1) rfl rfl (by decide) (by decide) rfl ?_
    exact And.intro rfl (⟨rfl, rfl⟩)
set_option maxRecDepth 100000 in
set_option maxHeartbeats 4000000 in
theorem c_J0_coder_7d493_1000 (l : Launch) {fv : Value} (hf : FV fv)  : CT l fv 1 jJ0_coder_7d493 [.ref 1000] ([]) (DP (some (.int (nI 0))) ([])) := by
  refine CT_of [] mt_J0_coder_7d493 (by decide +kernel) (tab_J0 hf) okJ0_coder_7d493 (Nat.le_of_ble_eq_true rfl) ?_
  intro J hJ hD
  refine hJ 0 _ _ _ ?_
  refine And.intro (fun c1 => absurd c1 (by decide)) (fun c1 => ?_)
  refine hJ 14 _ _ _ ?_
  exact And.intro rfl (DPi (by decide))
set_option maxRecDepth 100000 in
set_option maxHeartbeats 4000000 in
theorem c_J0_isLatin1_aae02_1000 (l : Launch) {fv : Value} (hf : FV fv)  : CT l fv 1 jJ0_isLatin1_aae02 [.ref 1000] ([]) (DP (some (.int (nI 1))) ([])) := by
  refine CT_of [] mt_J0_isLatin1_aae02 (by decide +kernel) (tab_J0 hf) okJ0_isLatin1_aae02 (Nat.le_of_ble_eq_true rfl) ?_
  intro J hJ hD
  refine hJ 0 _ _ _ ?_
  refine And.intro (fun c1 => absurd c1 (by decide)) (fun c1 => ?_)
  refine And.intro (fun c2 => absurd (by decide) c2) (fun c2 => ?_)
  refine hJ 18 _ _ _ ?_
  exact And.intro xb1 (DPi (by decide))
set_option maxRecDepth 100000 in
set_option maxHeartbeats 4000000 in
theorem c_J0_length_8abf5_1000 (l : Launch) {fv : Value} (hf : FV fv)  : CT l fv 2 jJ0_length_8abf5 [.ref 1000] ([]) (DP (some (.int (nI 5))) ([])) := by
  refine CT_of [] mt_J0_length_8abf5 (by decide +kernel) (tab_J0 hf) okJ0_length_8abf5 (Nat.le_of_ble_eq_true rfl) ?_
  intro J hJ hD
  refine hJ 0 _ _ _ ?_
  refine CALL_sub (r := some (.int (nI 0))) (h' := []) [] (by decide) (c_J0_coder_7d493_1000 l hf ) rfl rfl (by decide) (by decide) rfl ?_
  exact And.intro True.intro (DPi (by decide))
def m_J1_charAt_3b067_1050  (x : Int32) : Int32 := (((sB_0 x.toNatClampNeg) &&& nI 255).toUInt32 % 65536).toInt32
set_option maxRecDepth 100000 in
set_option maxHeartbeats 4000000 in
theorem c_J1_charAt_3b067_1050 (l : Launch) {fv : Value} (hf : FV fv)  (x : Int32) (hx : vp_in x 5) : CT l fv 3 jJ1_charAt_3b067 [.ref 1050, .int x] ([]) (DP (some (.int (m_J1_charAt_3b067_1050 x))) ([])) := by
  refine CT_of [] mt_J1_charAt_3b067 (by decide +kernel) (tab_J1 hf) okJ1_charAt_3b067 (Nat.le_of_ble_eq_true rfl) ?_
  intro J hJ hD
  refine hJ 0 _ _ _ ?_
  refine CALL_sub (h' := []) [] (by decide) (c_J0_checkIndex_df160 l hf x (nI 5) (vp_nn hx (by decide)) (vp_lt hx (by decide))) rfl rfl (by decide) (by decide) rfl ?_
  refine And.intro (hx) ?_
  exact And.intro (pk_nc _) (DPi (rfl))
def m_J0_charAt_5068e_1000  (x : Int32) : Int32 := (m_J1_charAt_3b067_1050 x)
set_option maxRecDepth 100000 in
set_option maxHeartbeats 4000000 in
theorem c_J0_charAt_5068e_1000 (l : Launch) {fv : Value} (hf : FV fv)  (x : Int32) (hx : vp_in x 5) : CT l fv 4 jJ0_charAt_5068e [.ref 1000, .int x] ([]) (DP (some (.int (m_J0_charAt_5068e_1000 x))) ([])) := by
  refine CT_of [] mt_J0_charAt_5068e (by decide +kernel) (tab_J0 hf) okJ0_charAt_5068e (Nat.le_of_ble_eq_true rfl) ?_
  intro J hJ hD
  refine hJ 0 _ _ _ ?_
  refine CALL_sub (r := some (.int (nI 1))) (h' := []) [] (by decide) (c_J0_isLatin1_aae02_1000 l hf ) rfl rfl (by decide) (by decide) rfl ?_
  refine And.intro (fun c1 => absurd c1 (by decide)) (fun c1 => ?_)
  refine CALL_sub (h' := []) [] (by decide) (c_J1_charAt_3b067_1050 l hf x hx) rfl rfl (by decide) (by decide) rfl ?_
  exact And.intro (by unfold m_J1_charAt_3b067_1050; exact pk_nc _) (DPi (rfl))
set_option maxRecDepth 100000 in
set_option maxHeartbeats 4000000 in
theorem c_J0_coder_7d493_1001 (l : Launch) {fv : Value} (hf : FV fv)  : CT l fv 1 jJ0_coder_7d493 [.ref 1001] ([]) (DP (some (.int (nI 0))) ([])) := by
  refine CT_of [] mt_J0_coder_7d493 (by decide +kernel) (tab_J0 hf) okJ0_coder_7d493 (Nat.le_of_ble_eq_true rfl) ?_
  intro J hJ hD
  refine hJ 0 _ _ _ ?_
  refine And.intro (fun c1 => absurd c1 (by decide)) (fun c1 => ?_)
  refine hJ 14 _ _ _ ?_
  exact And.intro rfl (DPi (by decide))
set_option maxRecDepth 100000 in
set_option maxHeartbeats 4000000 in
theorem c_J0_isLatin1_aae02_1001 (l : Launch) {fv : Value} (hf : FV fv)  : CT l fv 1 jJ0_isLatin1_aae02 [.ref 1001] ([]) (DP (some (.int (nI 1))) ([])) := by
  refine CT_of [] mt_J0_isLatin1_aae02 (by decide +kernel) (tab_J0 hf) okJ0_isLatin1_aae02 (Nat.le_of_ble_eq_true rfl) ?_
  intro J hJ hD
  refine hJ 0 _ _ _ ?_
  refine And.intro (fun c1 => absurd c1 (by decide)) (fun c1 => ?_)
  refine And.intro (fun c2 => absurd (by decide) c2) (fun c2 => ?_)
  refine hJ 18 _ _ _ ?_
  exact And.intro xb1 (DPi (by decide))
set_option maxRecDepth 100000 in
set_option maxHeartbeats 4000000 in
theorem c_J0_length_8abf5_1001 (l : Launch) {fv : Value} (hf : FV fv)  : CT l fv 2 jJ0_length_8abf5 [.ref 1001] ([]) (DP (some (.int (nI 5))) ([])) := by
  refine CT_of [] mt_J0_length_8abf5 (by decide +kernel) (tab_J0 hf) okJ0_length_8abf5 (Nat.le_of_ble_eq_true rfl) ?_
  intro J hJ hD
  refine hJ 0 _ _ _ ?_
  refine CALL_sub (r := some (.int (nI 0))) (h' := []) [] (by decide) (c_J0_coder_7d493_1001 l hf ) rfl rfl (by decide) (by decide) rfl ?_
  exact And.intro True.intro (DPi (by decide))
def m_J1_charAt_3b067_1051  (x : Int32) : Int32 := (((sB_1 x.toNatClampNeg) &&& nI 255).toUInt32 % 65536).toInt32
set_option maxRecDepth 100000 in
set_option maxHeartbeats 4000000 in
theorem c_J1_charAt_3b067_1051 (l : Launch) {fv : Value} (hf : FV fv)  (x : Int32) (hx : vp_in x 5) : CT l fv 3 jJ1_charAt_3b067 [.ref 1051, .int x] ([]) (DP (some (.int (m_J1_charAt_3b067_1051 x))) ([])) := by
  refine CT_of [] mt_J1_charAt_3b067 (by decide +kernel) (tab_J1 hf) okJ1_charAt_3b067 (Nat.le_of_ble_eq_true rfl) ?_
  intro J hJ hD
  refine hJ 0 _ _ _ ?_
  refine CALL_sub (h' := []) [] (by decide) (c_J0_checkIndex_df160 l hf x (nI 5) (vp_nn hx (by decide)) (vp_lt hx (by decide))) rfl rfl (by decide) (by decide) rfl ?_
  refine And.intro (hx) ?_
  exact And.intro (pk_nc _) (DPi (rfl))
def m_J0_charAt_5068e_1001  (x : Int32) : Int32 := (m_J1_charAt_3b067_1051 x)
set_option maxRecDepth 100000 in
set_option maxHeartbeats 4000000 in
theorem c_J0_charAt_5068e_1001 (l : Launch) {fv : Value} (hf : FV fv)  (x : Int32) (hx : vp_in x 5) : CT l fv 4 jJ0_charAt_5068e [.ref 1001, .int x] ([]) (DP (some (.int (m_J0_charAt_5068e_1001 x))) ([])) := by
  refine CT_of [] mt_J0_charAt_5068e (by decide +kernel) (tab_J0 hf) okJ0_charAt_5068e (Nat.le_of_ble_eq_true rfl) ?_
  intro J hJ hD
  refine hJ 0 _ _ _ ?_
  refine CALL_sub (r := some (.int (nI 1))) (h' := []) [] (by decide) (c_J0_isLatin1_aae02_1001 l hf ) rfl rfl (by decide) (by decide) rfl ?_
  refine And.intro (fun c1 => absurd c1 (by decide)) (fun c1 => ?_)
  refine CALL_sub (h' := []) [] (by decide) (c_J1_charAt_3b067_1051 l hf x hx) rfl rfl (by decide) (by decide) rfl ?_
  exact And.intro (by unfold m_J1_charAt_3b067_1051; exact pk_nc _) (DPi (rfl))
set_option maxRecDepth 100000 in
set_option maxHeartbeats 4000000 in
theorem c_J0_coder_7d493_1002 (l : Launch) {fv : Value} (hf : FV fv)  : CT l fv 1 jJ0_coder_7d493 [.ref 1002] ([]) (DP (some (.int (nI 0))) ([])) := by
  refine CT_of [] mt_J0_coder_7d493 (by decide +kernel) (tab_J0 hf) okJ0_coder_7d493 (Nat.le_of_ble_eq_true rfl) ?_
  intro J hJ hD
  refine hJ 0 _ _ _ ?_
  refine And.intro (fun c1 => absurd c1 (by decide)) (fun c1 => ?_)
  refine hJ 14 _ _ _ ?_
  exact And.intro rfl (DPi (by decide))
set_option maxRecDepth 100000 in
set_option maxHeartbeats 4000000 in
theorem c_J0_isLatin1_aae02_1002 (l : Launch) {fv : Value} (hf : FV fv)  : CT l fv 1 jJ0_isLatin1_aae02 [.ref 1002] ([]) (DP (some (.int (nI 1))) ([])) := by
  refine CT_of [] mt_J0_isLatin1_aae02 (by decide +kernel) (tab_J0 hf) okJ0_isLatin1_aae02 (Nat.le_of_ble_eq_true rfl) ?_
  intro J hJ hD
  refine hJ 0 _ _ _ ?_
  refine And.intro (fun c1 => absurd c1 (by decide)) (fun c1 => ?_)
  refine And.intro (fun c2 => absurd (by decide) c2) (fun c2 => ?_)
  refine hJ 18 _ _ _ ?_
  exact And.intro xb1 (DPi (by decide))
set_option maxRecDepth 100000 in
set_option maxHeartbeats 4000000 in
theorem c_J0_length_8abf5_1002 (l : Launch) {fv : Value} (hf : FV fv)  : CT l fv 2 jJ0_length_8abf5 [.ref 1002] ([]) (DP (some (.int (nI 5))) ([])) := by
  refine CT_of [] mt_J0_length_8abf5 (by decide +kernel) (tab_J0 hf) okJ0_length_8abf5 (Nat.le_of_ble_eq_true rfl) ?_
  intro J hJ hD
  refine hJ 0 _ _ _ ?_
  refine CALL_sub (r := some (.int (nI 0))) (h' := []) [] (by decide) (c_J0_coder_7d493_1002 l hf ) rfl rfl (by decide) (by decide) rfl ?_
  exact And.intro True.intro (DPi (by decide))
def m_J1_charAt_3b067_1052  (x : Int32) : Int32 := (((sB_2 x.toNatClampNeg) &&& nI 255).toUInt32 % 65536).toInt32
set_option maxRecDepth 100000 in
set_option maxHeartbeats 4000000 in
theorem c_J1_charAt_3b067_1052 (l : Launch) {fv : Value} (hf : FV fv)  (x : Int32) (hx : vp_in x 5) : CT l fv 3 jJ1_charAt_3b067 [.ref 1052, .int x] ([]) (DP (some (.int (m_J1_charAt_3b067_1052 x))) ([])) := by
  refine CT_of [] mt_J1_charAt_3b067 (by decide +kernel) (tab_J1 hf) okJ1_charAt_3b067 (Nat.le_of_ble_eq_true rfl) ?_
  intro J hJ hD
  refine hJ 0 _ _ _ ?_
  refine CALL_sub (h' := []) [] (by decide) (c_J0_checkIndex_df160 l hf x (nI 5) (vp_nn hx (by decide)) (vp_lt hx (by decide))) rfl rfl (by decide) (by decide) rfl ?_
  refine And.intro (hx) ?_
  exact And.intro (pk_nc _) (DPi (rfl))
def m_J0_charAt_5068e_1002  (x : Int32) : Int32 := (m_J1_charAt_3b067_1052 x)
set_option maxRecDepth 100000 in
set_option maxHeartbeats 4000000 in
theorem c_J0_charAt_5068e_1002 (l : Launch) {fv : Value} (hf : FV fv)  (x : Int32) (hx : vp_in x 5) : CT l fv 4 jJ0_charAt_5068e [.ref 1002, .int x] ([]) (DP (some (.int (m_J0_charAt_5068e_1002 x))) ([])) := by
  refine CT_of [] mt_J0_charAt_5068e (by decide +kernel) (tab_J0 hf) okJ0_charAt_5068e (Nat.le_of_ble_eq_true rfl) ?_
  intro J hJ hD
  refine hJ 0 _ _ _ ?_
  refine CALL_sub (r := some (.int (nI 1))) (h' := []) [] (by decide) (c_J0_isLatin1_aae02_1002 l hf ) rfl rfl (by decide) (by decide) rfl ?_
  refine And.intro (fun c1 => absurd c1 (by decide)) (fun c1 => ?_)
  refine CALL_sub (h' := []) [] (by decide) (c_J1_charAt_3b067_1052 l hf x hx) rfl rfl (by decide) (by decide) rfl ?_
  exact And.intro (by unfold m_J1_charAt_3b067_1052; exact pk_nc _) (DPi (rfl))
set_option maxRecDepth 100000 in
set_option maxHeartbeats 4000000 in
theorem c_J0_coder_7d493_1003 (l : Launch) {fv : Value} (hf : FV fv)  : CT l fv 1 jJ0_coder_7d493 [.ref 1003] ([]) (DP (some (.int (nI 0))) ([])) := by
  refine CT_of [] mt_J0_coder_7d493 (by decide +kernel) (tab_J0 hf) okJ0_coder_7d493 (Nat.le_of_ble_eq_true rfl) ?_
  intro J hJ hD
  refine hJ 0 _ _ _ ?_
  refine And.intro (fun c1 => absurd c1 (by decide)) (fun c1 => ?_)
  refine hJ 14 _ _ _ ?_
  exact And.intro rfl (DPi (by decide))
set_option maxRecDepth 100000 in
set_option maxHeartbeats 4000000 in
theorem c_J0_isLatin1_aae02_1003 (l : Launch) {fv : Value} (hf : FV fv)  : CT l fv 1 jJ0_isLatin1_aae02 [.ref 1003] ([]) (DP (some (.int (nI 1))) ([])) := by
  refine CT_of [] mt_J0_isLatin1_aae02 (by decide +kernel) (tab_J0 hf) okJ0_isLatin1_aae02 (Nat.le_of_ble_eq_true rfl) ?_
  intro J hJ hD
  refine hJ 0 _ _ _ ?_
  refine And.intro (fun c1 => absurd c1 (by decide)) (fun c1 => ?_)
  refine And.intro (fun c2 => absurd (by decide) c2) (fun c2 => ?_)
  refine hJ 18 _ _ _ ?_
  exact And.intro xb1 (DPi (by decide))
set_option maxRecDepth 100000 in
set_option maxHeartbeats 4000000 in
theorem c_J0_length_8abf5_1003 (l : Launch) {fv : Value} (hf : FV fv)  : CT l fv 2 jJ0_length_8abf5 [.ref 1003] ([]) (DP (some (.int (nI 5))) ([])) := by
  refine CT_of [] mt_J0_length_8abf5 (by decide +kernel) (tab_J0 hf) okJ0_length_8abf5 (Nat.le_of_ble_eq_true rfl) ?_
  intro J hJ hD
  refine hJ 0 _ _ _ ?_
  refine CALL_sub (r := some (.int (nI 0))) (h' := []) [] (by decide) (c_J0_coder_7d493_1003 l hf ) rfl rfl (by decide) (by decide) rfl ?_
  exact And.intro True.intro (DPi (by decide))
def m_J1_charAt_3b067_1053  (x : Int32) : Int32 := (((sB_3 x.toNatClampNeg) &&& nI 255).toUInt32 % 65536).toInt32
set_option maxRecDepth 100000 in
set_option maxHeartbeats 4000000 in
theorem c_J1_charAt_3b067_1053 (l : Launch) {fv : Value} (hf : FV fv)  (x : Int32) (hx : vp_in x 5) : CT l fv 3 jJ1_charAt_3b067 [.ref 1053, .int x] ([]) (DP (some (.int (m_J1_charAt_3b067_1053 x))) ([])) := by
  refine CT_of [] mt_J1_charAt_3b067 (by decide +kernel) (tab_J1 hf) okJ1_charAt_3b067 (Nat.le_of_ble_eq_true rfl) ?_
  intro J hJ hD
  refine hJ 0 _ _ _ ?_
  refine CALL_sub (h' := []) [] (by decide) (c_J0_checkIndex_df160 l hf x (nI 5) (vp_nn hx (by decide)) (vp_lt hx (by decide))) rfl rfl (by decide) (by decide) rfl ?_
  refine And.intro (hx) ?_
  exact And.intro (pk_nc _) (DPi (rfl))
def m_J0_charAt_5068e_1003  (x : Int32) : Int32 := (m_J1_charAt_3b067_1053 x)
set_option maxRecDepth 100000 in
set_option maxHeartbeats 4000000 in
theorem c_J0_charAt_5068e_1003 (l : Launch) {fv : Value} (hf : FV fv)  (x : Int32) (hx : vp_in x 5) : CT l fv 4 jJ0_charAt_5068e [.ref 1003, .int x] ([]) (DP (some (.int (m_J0_charAt_5068e_1003 x))) ([])) := by
  refine CT_of [] mt_J0_charAt_5068e (by decide +kernel) (tab_J0 hf) okJ0_charAt_5068e (Nat.le_of_ble_eq_true rfl) ?_
  intro J hJ hD
  refine hJ 0 _ _ _ ?_
  refine CALL_sub (r := some (.int (nI 1))) (h' := []) [] (by decide) (c_J0_isLatin1_aae02_1003 l hf ) rfl rfl (by decide) (by decide) rfl ?_
  refine And.intro (fun c1 => absurd c1 (by decide)) (fun c1 => ?_)
  refine CALL_sub (h' := []) [] (by decide) (c_J1_charAt_3b067_1053 l hf x hx) rfl rfl (by decide) (by decide) rfl ?_
  exact And.intro (by unfold m_J1_charAt_3b067_1053; exact pk_nc _) (DPi (rfl))
set_option maxRecDepth 100000 in
set_option maxHeartbeats 4000000 in
theorem c_J0_coder_7d493_1004 (l : Launch) {fv : Value} (hf : FV fv)  : CT l fv 1 jJ0_coder_7d493 [.ref 1004] ([]) (DP (some (.int (nI 0))) ([])) := by
  refine CT_of [] mt_J0_coder_7d493 (by decide +kernel) (tab_J0 hf) okJ0_coder_7d493 (Nat.le_of_ble_eq_true rfl) ?_
  intro J hJ hD
  refine hJ 0 _ _ _ ?_
  refine And.intro (fun c1 => absurd c1 (by decide)) (fun c1 => ?_)
  refine hJ 14 _ _ _ ?_
  exact And.intro rfl (DPi (by decide))
set_option maxRecDepth 100000 in
set_option maxHeartbeats 4000000 in
theorem c_J0_isLatin1_aae02_1004 (l : Launch) {fv : Value} (hf : FV fv)  : CT l fv 1 jJ0_isLatin1_aae02 [.ref 1004] ([]) (DP (some (.int (nI 1))) ([])) := by
  refine CT_of [] mt_J0_isLatin1_aae02 (by decide +kernel) (tab_J0 hf) okJ0_isLatin1_aae02 (Nat.le_of_ble_eq_true rfl) ?_
  intro J hJ hD
  refine hJ 0 _ _ _ ?_
  refine And.intro (fun c1 => absurd c1 (by decide)) (fun c1 => ?_)
  refine And.intro (fun c2 => absurd (by decide) c2) (fun c2 => ?_)
  refine hJ 18 _ _ _ ?_
  exact And.intro xb1 (DPi (by decide))
set_option maxRecDepth 100000 in
set_option maxHeartbeats 4000000 in
theorem c_J0_length_8abf5_1004 (l : Launch) {fv : Value} (hf : FV fv)  : CT l fv 2 jJ0_length_8abf5 [.ref 1004] ([]) (DP (some (.int (nI 6))) ([])) := by
  refine CT_of [] mt_J0_length_8abf5 (by decide +kernel) (tab_J0 hf) okJ0_length_8abf5 (Nat.le_of_ble_eq_true rfl) ?_
  intro J hJ hD
  refine hJ 0 _ _ _ ?_
  refine CALL_sub (r := some (.int (nI 0))) (h' := []) [] (by decide) (c_J0_coder_7d493_1004 l hf ) rfl rfl (by decide) (by decide) rfl ?_
  exact And.intro True.intro (DPi (by decide))
def m_J1_charAt_3b067_1054  (x : Int32) : Int32 := (((sB_4 x.toNatClampNeg) &&& nI 255).toUInt32 % 65536).toInt32
set_option maxRecDepth 100000 in
set_option maxHeartbeats 4000000 in
theorem c_J1_charAt_3b067_1054 (l : Launch) {fv : Value} (hf : FV fv)  (x : Int32) (hx : vp_in x 6) : CT l fv 3 jJ1_charAt_3b067 [.ref 1054, .int x] ([]) (DP (some (.int (m_J1_charAt_3b067_1054 x))) ([])) := by
  refine CT_of [] mt_J1_charAt_3b067 (by decide +kernel) (tab_J1 hf) okJ1_charAt_3b067 (Nat.le_of_ble_eq_true rfl) ?_
  intro J hJ hD
  refine hJ 0 _ _ _ ?_
  refine CALL_sub (h' := []) [] (by decide) (c_J0_checkIndex_df160 l hf x (nI 6) (vp_nn hx (by decide)) (vp_lt hx (by decide))) rfl rfl (by decide) (by decide) rfl ?_
  refine And.intro (hx) ?_
  exact And.intro (pk_nc _) (DPi (rfl))
def m_J0_charAt_5068e_1004  (x : Int32) : Int32 := (m_J1_charAt_3b067_1054 x)
set_option maxRecDepth 100000 in
set_option maxHeartbeats 4000000 in
theorem c_J0_charAt_5068e_1004 (l : Launch) {fv : Value} (hf : FV fv)  (x : Int32) (hx : vp_in x 6) : CT l fv 4 jJ0_charAt_5068e [.ref 1004, .int x] ([]) (DP (some (.int (m_J0_charAt_5068e_1004 x))) ([])) := by
  refine CT_of [] mt_J0_charAt_5068e (by decide +kernel) (tab_J0 hf) okJ0_charAt_5068e (Nat.le_of_ble_eq_true rfl) ?_
  intro J hJ hD
  refine hJ 0 _ _ _ ?_
  refine CALL_sub (r := some (.int (nI 1))) (h' := []) [] (by decide) (c_J0_isLatin1_aae02_1004 l hf ) rfl rfl (by decide) (by decide) rfl ?_
  refine And.intro (fun c1 => absurd c1 (by decide)) (fun c1 => ?_)
  refine CALL_sub (h' := []) [] (by decide) (c_J1_charAt_3b067_1054 l hf x hx) rfl rfl (by decide) (by decide) rfl ?_
  exact And.intro (by unfold m_J1_charAt_3b067_1054; exact pk_nc _) (DPi (rfl))
set_option maxRecDepth 100000 in
set_option maxHeartbeats 4000000 in
theorem c_J0_coder_7d493_1005 (l : Launch) {fv : Value} (hf : FV fv)  : CT l fv 1 jJ0_coder_7d493 [.ref 1005] ([]) (DP (some (.int (nI 0))) ([])) := by
  refine CT_of [] mt_J0_coder_7d493 (by decide +kernel) (tab_J0 hf) okJ0_coder_7d493 (Nat.le_of_ble_eq_true rfl) ?_
  intro J hJ hD
  refine hJ 0 _ _ _ ?_
  refine And.intro (fun c1 => absurd c1 (by decide)) (fun c1 => ?_)
  refine hJ 14 _ _ _ ?_
  exact And.intro rfl (DPi (by decide))
set_option maxRecDepth 100000 in
set_option maxHeartbeats 4000000 in
theorem c_J0_isLatin1_aae02_1005 (l : Launch) {fv : Value} (hf : FV fv)  : CT l fv 1 jJ0_isLatin1_aae02 [.ref 1005] ([]) (DP (some (.int (nI 1))) ([])) := by
  refine CT_of [] mt_J0_isLatin1_aae02 (by decide +kernel) (tab_J0 hf) okJ0_isLatin1_aae02 (Nat.le_of_ble_eq_true rfl) ?_
  intro J hJ hD
  refine hJ 0 _ _ _ ?_
  refine And.intro (fun c1 => absurd c1 (by decide)) (fun c1 => ?_)
  refine And.intro (fun c2 => absurd (by decide) c2) (fun c2 => ?_)
  refine hJ 18 _ _ _ ?_
  exact And.intro xb1 (DPi (by decide))
set_option maxRecDepth 100000 in
set_option maxHeartbeats 4000000 in
theorem c_J0_length_8abf5_1005 (l : Launch) {fv : Value} (hf : FV fv)  : CT l fv 2 jJ0_length_8abf5 [.ref 1005] ([]) (DP (some (.int (nI 3))) ([])) := by
  refine CT_of [] mt_J0_length_8abf5 (by decide +kernel) (tab_J0 hf) okJ0_length_8abf5 (Nat.le_of_ble_eq_true rfl) ?_
  intro J hJ hD
  refine hJ 0 _ _ _ ?_
  refine CALL_sub (r := some (.int (nI 0))) (h' := []) [] (by decide) (c_J0_coder_7d493_1005 l hf ) rfl rfl (by decide) (by decide) rfl ?_
  exact And.intro True.intro (DPi (by decide))
def m_J1_charAt_3b067_1055  (x : Int32) : Int32 := (((sB_5 x.toNatClampNeg) &&& nI 255).toUInt32 % 65536).toInt32
set_option maxRecDepth 100000 in
set_option maxHeartbeats 4000000 in
theorem c_J1_charAt_3b067_1055 (l : Launch) {fv : Value} (hf : FV fv)  (x : Int32) (hx : vp_in x 3) : CT l fv 3 jJ1_charAt_3b067 [.ref 1055, .int x] ([]) (DP (some (.int (m_J1_charAt_3b067_1055 x))) ([])) := by
  refine CT_of [] mt_J1_charAt_3b067 (by decide +kernel) (tab_J1 hf) okJ1_charAt_3b067 (Nat.le_of_ble_eq_true rfl) ?_
  intro J hJ hD
  refine hJ 0 _ _ _ ?_
  refine CALL_sub (h' := []) [] (by decide) (c_J0_checkIndex_df160 l hf x (nI 3) (vp_nn hx (by decide)) (vp_lt hx (by decide))) rfl rfl (by decide) (by decide) rfl ?_
  refine And.intro (hx) ?_
  exact And.intro (pk_nc _) (DPi (rfl))
def m_J0_charAt_5068e_1005  (x : Int32) : Int32 := (m_J1_charAt_3b067_1055 x)
set_option maxRecDepth 100000 in
set_option maxHeartbeats 4000000 in
theorem c_J0_charAt_5068e_1005 (l : Launch) {fv : Value} (hf : FV fv)  (x : Int32) (hx : vp_in x 3) : CT l fv 4 jJ0_charAt_5068e [.ref 1005, .int x] ([]) (DP (some (.int (m_J0_charAt_5068e_1005 x))) ([])) := by
  refine CT_of [] mt_J0_charAt_5068e (by decide +kernel) (tab_J0 hf) okJ0_charAt_5068e (Nat.le_of_ble_eq_true rfl) ?_
  intro J hJ hD
  refine hJ 0 _ _ _ ?_
  refine CALL_sub (r := some (.int (nI 1))) (h' := []) [] (by decide) (c_J0_isLatin1_aae02_1005 l hf ) rfl rfl (by decide) (by decide) rfl ?_
  refine And.intro (fun c1 => absurd c1 (by decide)) (fun c1 => ?_)
  refine CALL_sub (h' := []) [] (by decide) (c_J1_charAt_3b067_1055 l hf x hx) rfl rfl (by decide) (by decide) rfl ?_
  exact And.intro (by unfold m_J1_charAt_3b067_1055; exact pk_nc _) (DPi (rfl))
def m_J9_max_7cf53  (x : Int32) (y : Int32) : Int32 := if x < y then y else x
set_option maxRecDepth 100000 in
set_option maxHeartbeats 4000000 in
theorem c_J9_max_7cf53 (l : Launch) {fv : Value} (hf : FV fv)  (x : Int32) (y : Int32) : CT l fv 1 jJ9_max_7cf53 [.int x, .int y] ([]) (DP (some (.int (m_J9_max_7cf53 x y))) ([])) := by
  refine CT_ofF [] mt_J9_max_7cf53 (by decide +kernel) (tab_J9 hf) okJ9_max_7cf53 (Nat.le_of_ble_eq_true rfl) ?_
  intro J hJ hD
  refine hJ 0 _ _ _ ?_
  refine And.intro (fun c1 => ?_) (fun c1 => ?_)
  · skip
    refine hJ 9 _ _ _ ?_
    exact And.intro True.intro (DPi (if_pos c1))
  · skip
    refine hJ 10 _ _ _ ?_
    exact And.intro True.intro (DPi (if_neg c1))
def m_J9_min_7cf53  (x : Int32) (y : Int32) : Int32 := if y < x then y else x
set_option maxRecDepth 100000 in
set_option maxHeartbeats 4000000 in
theorem c_J9_min_7cf53 (l : Launch) {fv : Value} (hf : FV fv)  (x : Int32) (y : Int32) : CT l fv 1 jJ9_min_7cf53 [.int x, .int y] ([]) (DP (some (.int (m_J9_min_7cf53 x y))) ([])) := by
  refine CT_ofF [] mt_J9_min_7cf53 (by decide +kernel) (tab_J9 hf) okJ9_min_7cf53 (Nat.le_of_ble_eq_true rfl) ?_
  intro J hJ hD
  refine hJ 0 _ _ _ ?_
  refine And.intro (fun c1 => ?_) (fun c1 => ?_)
  · skip
    refine hJ 9 _ _ _ ?_
    exact And.intro True.intro (DPi (if_pos c1))
  · skip
    refine hJ 10 _ _ _ ?_
    exact And.intro True.intro (DPi (if_neg c1))
def m_J1_canEncode_9a6ad  (x : Int32) : Int32 := if x < 0 then nI 0 else (if nI 255 < x then nI 0 else nI 1)
theorem bl_J1_canEncode_9a6ad  {x : Int32} : bl (m_J1_canEncode_9a6ad x) := by
  unfold m_J1_canEncode_9a6ad
  (repeat' split) <;> first | exact Or.inl rfl | exact Or.inr rfl
set_option maxRecDepth 100000 in
set_option maxHeartbeats 4000000 in
theorem c_J1_canEncode_9a6ad (l : Launch) {fv : Value} (hf : FV fv)  (x : Int32) : CT l fv 1 jJ1_canEncode_9a6ad [.int x] ([]) (DP (some (.int (m_J1_canEncode_9a6ad x))) ([])) := by
  refine CT_of [] mt_J1_canEncode_9a6ad (by decide +kernel) (tab_J1 hf) okJ1_canEncode_9a6ad (Nat.le_of_ble_eq_true rfl) ?_
  intro J hJ hD
  refine hJ 0 _ _ _ ?_
  refine And.intro (fun c1 => ?_) (fun c1 => ?_)
  · skip
    refine hJ 15 _ _ _ ?_
    exact And.intro xb0 (DPi (if_pos c1))
  · skip
    refine And.intro (fun c2 => ?_) (fun c2 => ?_)
    · skip
      refine hJ 15 _ _ _ ?_
      exact And.intro xb0 (DPi ((if_neg c1).trans (if_pos c2)))
    · skip
      refine hJ 16 _ _ _ ?_
      exact And.intro xb1 (DPi ((if_neg c1).trans (if_neg c2)))
def l_J1_indexOfChar_4cfef_1054_7  (ch : Int32) (fr : Int32) (to : Int32) : Nat → Int32 → Int32
  | 0, _ => 0
  | n7 + 1, i => if to ≤ i then (-nI 1) else (if (sB_4 i.toNatClampNeg) = ch.toInt8.toInt32 then i else l_J1_indexOfChar_4cfef_1054_7 ch fr to n7 (i + nI 1))
theorem q_J1_indexOfChar_4cfef_1054_7  (ch : Int32) (fr : Int32) (to : Int32) (n7 : Nat) (i : Int32) : l_J1_indexOfChar_4cfef_1054_7 ch fr to (n7 + 1) i = (if to ≤ i then (-nI 1) else (if (sB_4 i.toNatClampNeg) = ch.toInt8.toInt32 then i else l_J1_indexOfChar_4cfef_1054_7 ch fr to n7 (i + nI 1))) := rfl
def m_J1_indexOfChar_4cfef_1054  (ch : Int32) (fr : Int32) (to : Int32) : Int32 := l_J1_indexOfChar_4cfef_1054_7 ch fr to 7 fr
set_option maxRecDepth 100000 in
set_option maxHeartbeats 4000000 in
theorem c_J1_indexOfChar_4cfef_1054 (l : Launch) {fv : Value} (hf : FV fv)  (ch : Int32) (fr : Int32) (to : Int32) (h0 : fr = nI 0) (h1 : to = nI 6) : CT l fv 1 jJ1_indexOfChar_4cfef [.ref 1054, .int ch, .int fr, .int to] ([]) (DP (some (.int (m_J1_indexOfChar_4cfef_1054 ch fr to))) ([])) := by
  refine CT_of [7] mt_J1_indexOfChar_4cfef (by decide +kernel) (tab_J1 hf) okJ1_indexOfChar_4cfef (Nat.le_of_ble_eq_true rfl) ?_
  intro J hJ hD
  refine hJ 0 _ _ _ ?_
  have L7 : ∀ (n7 : Nat) (i : Int32), (∃ z9 : Nat, z9 ≤ 6 ∧ n7 + z9 = 7 ∧ i = nI z9) → m_J1_indexOfChar_4cfef_1054 ch fr to = l_J1_indexOfChar_4cfef_1054_7 ch fr to n7 i → J 7 [(0, .ref 1054), (3, .int to), (4, .int ch.toInt8.toInt32), (5, .int i)] [] [] := by
    intro n7
    induction n7 with
    | zero =>
      intro i hv
      obtain ⟨z9, hz, h2, h3⟩ := hv
      omega
    | succ n7 ih7 =>
      intro i hv e7
      obtain ⟨z9, hz, h2, h3⟩ := hv
      refine hJ 7 _ _ _ ?_
      refine And.intro (fun c1 => ?_) (fun c1 => ?_)
      · skip
        refine hJ 31 _ _ _ ?_
        exact And.intro True.intro (DPi (e7.trans ((q_J1_indexOfChar_4cfef_1054_7 ch fr to n7 i).trans (if_pos c1))))
      · skip
        have h4 : z9 < 6 := cnt_lt h3 hz (by decide) (by rw [← h1]; exact c1)
        refine And.intro (vp_nI h3 h4 (by decide)) ?_
        refine And.intro (fun c2 => ?_) (fun c2 => ?_)
        · skip
          refine hJ 25 _ _ _ ?_
          exact hD _ _ [1, 2, 3, 0] _ _ (ih7 _ ⟨z9 + 1, by omega, by omega, by rw [h3]; exact nI_add z9 1⟩ (e7.trans ((q_J1_indexOfChar_4cfef_1054_7 ch fr to n7 i).trans ((if_neg c1).trans (if_neg c2)))))
        · skip
          exact And.intro True.intro (DPi (e7.trans ((q_J1_indexOfChar_4cfef_1054_7 ch fr to n7 i).trans ((if_neg c1).trans (if_pos c2)))))
  exact hD _ _ [2, 5, 1, 0] _ _ (L7 7 _ ⟨0, by decide, by decide, h0⟩ (rfl))
def m_J1_indexOf_4cfef_1054  (ch : Int32) (fr : Int32) (to : Int32) : Int32 := if (m_J1_canEncode_9a6ad ch) = 0 then (-nI 1) else (if (m_J9_max_7cf53 fr (nI 0)) < (m_J9_min_7cf53 to (nI 6)) then (m_J1_indexOfChar_4cfef_1054 ch (m_J9_max_7cf53 fr (nI 0)) (m_J9_min_7cf53 to (nI 6))) else (-nI 1))
set_option maxRecDepth 100000 in
set_option maxHeartbeats 4000000 in
theorem c_J1_indexOf_4cfef_1054 (l : Launch) {fv : Value} (hf : FV fv)  (ch : Int32) (fr : Int32) (to : Int32) (h0 : fr = nI 0) (h1 : to = nI 6) : CT l fv 2 jJ1_indexOf_4cfef [.ref 1054, .int ch, .int fr, .int to] ([]) (DP (some (.int (m_J1_indexOf_4cfef_1054 ch fr to))) ([])) := by
  refine CT_of [] mt_J1_indexOf_4cfef (by decide +kernel) (tab_J1 hf) okJ1_indexOf_4cfef (Nat.le_of_ble_eq_true rfl) ?_
  intro J hJ hD
  refine hJ 0 _ _ _ ?_
  refine CALL_sub (h' := []) [] (by decide) (c_J1_canEncode_9a6ad l hf ch) rfl rfl (by decide) (by decide) rfl ?_
  refine And.intro (fun c1 => ?_) (fun c1 => ?_)
  · skip
    refine hJ 9 _ _ _ ?_
    refine CALL_sub (h' := []) [] (by decide) (c_J9_max_7cf53 l hf fr (nI 0)) rfl rfl (by decide) (by decide) rfl ?_
    refine CALL_sub (h' := []) [] (by decide) (c_J9_min_7cf53 l hf to (nI 6)) rfl rfl (by decide) (by decide) rfl ?_
    refine And.intro (fun c2 => ?_) (fun c2 => ?_)
    · skip
      refine hJ 29 _ _ _ ?_
      refine CALL_sub (h' := []) [] (by decide) (c_J1_indexOfChar_4cfef_1054 l hf ch (m_J9_max_7cf53 fr (nI 0)) (m_J9_min_7cf53 to (nI 6)) (by rw [h0]; rfl) (by rw [h1]; rfl)) rfl rfl (by decide) (by decide) rfl ?_
      exact And.intro True.intro (DPi ((if_neg c1).trans (if_pos c2)))
    · skip
      exact And.intro True.intro (DPi ((if_neg c1).trans (if_neg c2)))
  · skip
    exact And.intro True.intro (DPi (if_pos c1))
def m_J0_indexOf_7cf53_1004  (ch : Int32) (fr : Int32) : Int32 := (m_J1_indexOf_4cfef_1054 ch fr (nI 6))
set_option maxRecDepth 100000 in
set_option maxHeartbeats 4000000 in
theorem c_J0_indexOf_7cf53_1004 (l : Launch) {fv : Value} (hf : FV fv)  (ch : Int32) (fr : Int32) (h0 : fr = nI 0) : CT l fv 3 jJ0_indexOf_7cf53 [.ref 1004, .int ch, .int fr] ([]) (DP (some (.int (m_J0_indexOf_7cf53_1004 ch fr))) ([])) := by
  refine CT_of [] mt_J0_indexOf_7cf53 (by decide +kernel) (tab_J0 hf) okJ0_indexOf_7cf53 (Nat.le_of_ble_eq_true rfl) ?_
  intro J hJ hD
  refine hJ 0 _ _ _ ?_
  refine CALL_sub (r := some (.int (nI 1))) (h' := []) [] (by decide) (c_J0_isLatin1_aae02_1004 l hf ) rfl rfl (by decide) (by decide) rfl ?_
  refine And.intro (fun c1 => absurd c1 (by decide)) (fun c1 => ?_)
  refine CALL_sub (r := some (.int (nI 6))) (h' := []) [] (by decide) (c_J0_length_8abf5_1004 l hf ) rfl rfl (by decide) (by decide) rfl ?_
  refine CALL_sub (h' := []) [] (by decide) (c_J1_indexOf_4cfef_1054 l hf ch fr (nI 6) h0 rfl) rfl rfl (by decide) (by decide) rfl ?_
  refine hJ 36 _ _ _ ?_
  exact And.intro True.intro (DPi (rfl))
def m_J0_indexOf_0f7a4_1004  (ch : Int32) : Int32 := (m_J0_indexOf_7cf53_1004 ch (nI 0))
set_option maxRecDepth 100000 in
set_option maxHeartbeats 4000000 in
theorem c_J0_indexOf_0f7a4_1004 (l : Launch) {fv : Value} (hf : FV fv)  (ch : Int32) : CT l fv 4 jJ0_indexOf_0f7a4 [.ref 1004, .int ch] ([]) (DP (some (.int (m_J0_indexOf_0f7a4_1004 ch))) ([])) := by
  refine CT_of [] mt_J0_indexOf_0f7a4 (by decide +kernel) (tab_J0 hf) okJ0_indexOf_0f7a4 (Nat.le_of_ble_eq_true rfl) ?_
  intro J hJ hD
  refine hJ 0 _ _ _ ?_
  refine CALL_sub (h' := []) [] (by decide) (c_J0_indexOf_7cf53_1004 l hf ch (nI 0) rfl) rfl rfl (by decide) (by decide) rfl ?_
  exact And.intro True.intro (DPi (rfl))
def l_J1_indexOfChar_4cfef_1055_7  (ch : Int32) (fr : Int32) (to : Int32) : Nat → Int32 → Int32
  | 0, _ => 0
  | n7 + 1, i => if to ≤ i then (-nI 1) else (if (sB_5 i.toNatClampNeg) = ch.toInt8.toInt32 then i else l_J1_indexOfChar_4cfef_1055_7 ch fr to n7 (i + nI 1))
theorem q_J1_indexOfChar_4cfef_1055_7  (ch : Int32) (fr : Int32) (to : Int32) (n7 : Nat) (i : Int32) : l_J1_indexOfChar_4cfef_1055_7 ch fr to (n7 + 1) i = (if to ≤ i then (-nI 1) else (if (sB_5 i.toNatClampNeg) = ch.toInt8.toInt32 then i else l_J1_indexOfChar_4cfef_1055_7 ch fr to n7 (i + nI 1))) := rfl
def m_J1_indexOfChar_4cfef_1055  (ch : Int32) (fr : Int32) (to : Int32) : Int32 := l_J1_indexOfChar_4cfef_1055_7 ch fr to 4 fr
set_option maxRecDepth 100000 in
set_option maxHeartbeats 4000000 in
theorem c_J1_indexOfChar_4cfef_1055 (l : Launch) {fv : Value} (hf : FV fv)  (ch : Int32) (fr : Int32) (to : Int32) (h0 : fr = nI 0) (h1 : to = nI 3) : CT l fv 1 jJ1_indexOfChar_4cfef [.ref 1055, .int ch, .int fr, .int to] ([]) (DP (some (.int (m_J1_indexOfChar_4cfef_1055 ch fr to))) ([])) := by
  refine CT_of [7] mt_J1_indexOfChar_4cfef (by decide +kernel) (tab_J1 hf) okJ1_indexOfChar_4cfef (Nat.le_of_ble_eq_true rfl) ?_
  intro J hJ hD
  refine hJ 0 _ _ _ ?_
  have L7 : ∀ (n7 : Nat) (i : Int32), (∃ z9 : Nat, z9 ≤ 3 ∧ n7 + z9 = 4 ∧ i = nI z9) → m_J1_indexOfChar_4cfef_1055 ch fr to = l_J1_indexOfChar_4cfef_1055_7 ch fr to n7 i → J 7 [(0, .ref 1055), (3, .int to), (4, .int ch.toInt8.toInt32), (5, .int i)] [] [] := by
    intro n7
    induction n7 with
    | zero =>
      intro i hv
      obtain ⟨z9, hz, h2, h3⟩ := hv
      omega
    | succ n7 ih7 =>
      intro i hv e7
      obtain ⟨z9, hz, h2, h3⟩ := hv
      refine hJ 7 _ _ _ ?_
      refine And.intro (fun c1 => ?_) (fun c1 => ?_)
      · skip
        refine hJ 31 _ _ _ ?_
        exact And.intro True.intro (DPi (e7.trans ((q_J1_indexOfChar_4cfef_1055_7 ch fr to n7 i).trans (if_pos c1))))
      · skip
        have h4 : z9 < 3 := cnt_lt h3 hz (by decide) (by rw [← h1]; exact c1)
        refine And.intro (vp_nI h3 h4 (by decide)) ?_
        refine And.intro (fun c2 => ?_) (fun c2 => ?_)
        · skip
          refine hJ 25 _ _ _ ?_
          exact hD _ _ [1, 2, 3, 0] _ _ (ih7 _ ⟨z9 + 1, by omega, by omega, by rw [h3]; exact nI_add z9 1⟩ (e7.trans ((q_J1_indexOfChar_4cfef_1055_7 ch fr to n7 i).trans ((if_neg c1).trans (if_neg c2)))))
        · skip
          exact And.intro True.intro (DPi (e7.trans ((q_J1_indexOfChar_4cfef_1055_7 ch fr to n7 i).trans ((if_neg c1).trans (if_pos c2)))))
  exact hD _ _ [2, 5, 1, 0] _ _ (L7 4 _ ⟨0, by decide, by decide, h0⟩ (rfl))
def m_J1_indexOf_4cfef_1055  (ch : Int32) (fr : Int32) (to : Int32) : Int32 := if (m_J1_canEncode_9a6ad ch) = 0 then (-nI 1) else (if (m_J9_max_7cf53 fr (nI 0)) < (m_J9_min_7cf53 to (nI 3)) then (m_J1_indexOfChar_4cfef_1055 ch (m_J9_max_7cf53 fr (nI 0)) (m_J9_min_7cf53 to (nI 3))) else (-nI 1))
set_option maxRecDepth 100000 in
set_option maxHeartbeats 4000000 in
theorem c_J1_indexOf_4cfef_1055 (l : Launch) {fv : Value} (hf : FV fv)  (ch : Int32) (fr : Int32) (to : Int32) (h0 : fr = nI 0) (h1 : to = nI 3) : CT l fv 2 jJ1_indexOf_4cfef [.ref 1055, .int ch, .int fr, .int to] ([]) (DP (some (.int (m_J1_indexOf_4cfef_1055 ch fr to))) ([])) := by
  refine CT_of [] mt_J1_indexOf_4cfef (by decide +kernel) (tab_J1 hf) okJ1_indexOf_4cfef (Nat.le_of_ble_eq_true rfl) ?_
  intro J hJ hD
  refine hJ 0 _ _ _ ?_
  refine CALL_sub (h' := []) [] (by decide) (c_J1_canEncode_9a6ad l hf ch) rfl rfl (by decide) (by decide) rfl ?_
  refine And.intro (fun c1 => ?_) (fun c1 => ?_)
  · skip
    refine hJ 9 _ _ _ ?_
    refine CALL_sub (h' := []) [] (by decide) (c_J9_max_7cf53 l hf fr (nI 0)) rfl rfl (by decide) (by decide) rfl ?_
    refine CALL_sub (h' := []) [] (by decide) (c_J9_min_7cf53 l hf to (nI 3)) rfl rfl (by decide) (by decide) rfl ?_
    refine And.intro (fun c2 => ?_) (fun c2 => ?_)
    · skip
      refine hJ 29 _ _ _ ?_
      refine CALL_sub (h' := []) [] (by decide) (c_J1_indexOfChar_4cfef_1055 l hf ch (m_J9_max_7cf53 fr (nI 0)) (m_J9_min_7cf53 to (nI 3)) (by rw [h0]; rfl) (by rw [h1]; rfl)) rfl rfl (by decide) (by decide) rfl ?_
      exact And.intro True.intro (DPi ((if_neg c1).trans (if_pos c2)))
    · skip
      exact And.intro True.intro (DPi ((if_neg c1).trans (if_neg c2)))
  · skip
    exact And.intro True.intro (DPi (if_pos c1))
def m_J0_indexOf_7cf53_1005  (ch : Int32) (fr : Int32) : Int32 := (m_J1_indexOf_4cfef_1055 ch fr (nI 3))
set_option maxRecDepth 100000 in
set_option maxHeartbeats 4000000 in
theorem c_J0_indexOf_7cf53_1005 (l : Launch) {fv : Value} (hf : FV fv)  (ch : Int32) (fr : Int32) (h0 : fr = nI 0) : CT l fv 3 jJ0_indexOf_7cf53 [.ref 1005, .int ch, .int fr] ([]) (DP (some (.int (m_J0_indexOf_7cf53_1005 ch fr))) ([])) := by
  refine CT_of [] mt_J0_indexOf_7cf53 (by decide +kernel) (tab_J0 hf) okJ0_indexOf_7cf53 (Nat.le_of_ble_eq_true rfl) ?_
  intro J hJ hD
  refine hJ 0 _ _ _ ?_
  refine CALL_sub (r := some (.int (nI 1))) (h' := []) [] (by decide) (c_J0_isLatin1_aae02_1005 l hf ) rfl rfl (by decide) (by decide) rfl ?_
  refine And.intro (fun c1 => absurd c1 (by decide)) (fun c1 => ?_)
  refine CALL_sub (r := some (.int (nI 3))) (h' := []) [] (by decide) (c_J0_length_8abf5_1005 l hf ) rfl rfl (by decide) (by decide) rfl ?_
  refine CALL_sub (h' := []) [] (by decide) (c_J1_indexOf_4cfef_1055 l hf ch fr (nI 3) h0 rfl) rfl rfl (by decide) (by decide) rfl ?_
  refine hJ 36 _ _ _ ?_
  exact And.intro True.intro (DPi (rfl))
def m_J0_indexOf_0f7a4_1005  (ch : Int32) : Int32 := (m_J0_indexOf_7cf53_1005 ch (nI 0))
set_option maxRecDepth 100000 in
set_option maxHeartbeats 4000000 in
theorem c_J0_indexOf_0f7a4_1005 (l : Launch) {fv : Value} (hf : FV fv)  (ch : Int32) : CT l fv 4 jJ0_indexOf_0f7a4 [.ref 1005, .int ch] ([]) (DP (some (.int (m_J0_indexOf_0f7a4_1005 ch))) ([])) := by
  refine CT_of [] mt_J0_indexOf_0f7a4 (by decide +kernel) (tab_J0 hf) okJ0_indexOf_0f7a4 (Nat.le_of_ble_eq_true rfl) ?_
  intro J hJ hD
  refine hJ 0 _ _ _ ?_
  refine CALL_sub (h' := []) [] (by decide) (c_J0_indexOf_7cf53_1005 l hf ch (nI 0) rfl) rfl rfl (by decide) (by decide) rfl ?_
  exact And.intro True.intro (DPi (rfl))
def m_J6_bitCount_0f7a4  (x : Int32) : Int32 := ((((((((x - (((x).toUInt32 >>> ((nI 1).toUInt32 &&& Int32.toUInt32 31)).toInt32 &&& 1431655765)) &&& 858993459) + ((((x - (((x).toUInt32 >>> ((nI 1).toUInt32 &&& Int32.toUInt32 31)).toInt32 &&& 1431655765))).toUInt32 >>> ((nI 2).toUInt32 &&& Int32.toUInt32 31)).toInt32 &&& 858993459)) + (((((x - (((x).toUInt32 >>> ((nI 1).toUInt32 &&& Int32.toUInt32 31)).toInt32 &&& 1431655765)) &&& 858993459) + ((((x - (((x).toUInt32 >>> ((nI 1).toUInt32 &&& Int32.toUInt32 31)).toInt32 &&& 1431655765))).toUInt32 >>> ((nI 2).toUInt32 &&& Int32.toUInt32 31)).toInt32 &&& 858993459))).toUInt32 >>> ((nI 4).toUInt32 &&& Int32.toUInt32 31)).toInt32) &&& 252645135) + (((((((x - (((x).toUInt32 >>> ((nI 1).toUInt32 &&& Int32.toUInt32 31)).toInt32 &&& 1431655765)) &&& 858993459) + ((((x - (((x).toUInt32 >>> ((nI 1).toUInt32 &&& Int32.toUInt32 31)).toInt32 &&& 1431655765))).toUInt32 >>> ((nI 2).toUInt32 &&& Int32.toUInt32 31)).toInt32 &&& 858993459)) + (((((x - (((x).toUInt32 >>> ((nI 1).toUInt32 &&& Int32.toUInt32 31)).toInt32 &&& 1431655765)) &&& 858993459) + ((((x - (((x).toUInt32 >>> ((nI 1).toUInt32 &&& Int32.toUInt32 31)).toInt32 &&& 1431655765))).toUInt32 >>> ((nI 2).toUInt32 &&& Int32.toUInt32 31)).toInt32 &&& 858993459))).toUInt32 >>> ((nI 4).toUInt32 &&& Int32.toUInt32 31)).toInt32) &&& 252645135)).toUInt32 >>> ((nI 8).toUInt32 &&& Int32.toUInt32 31)).toInt32) + ((((((((x - (((x).toUInt32 >>> ((nI 1).toUInt32 &&& Int32.toUInt32 31)).toInt32 &&& 1431655765)) &&& 858993459) + ((((x - (((x).toUInt32 >>> ((nI 1).toUInt32 &&& Int32.toUInt32 31)).toInt32 &&& 1431655765))).toUInt32 >>> ((nI 2).toUInt32 &&& Int32.toUInt32 31)).toInt32 &&& 858993459)) + (((((x - (((x).toUInt32 >>> ((nI 1).toUInt32 &&& Int32.toUInt32 31)).toInt32 &&& 1431655765)) &&& 858993459) + ((((x - (((x).toUInt32 >>> ((nI 1).toUInt32 &&& Int32.toUInt32 31)).toInt32 &&& 1431655765))).toUInt32 >>> ((nI 2).toUInt32 &&& Int32.toUInt32 31)).toInt32 &&& 858993459))).toUInt32 >>> ((nI 4).toUInt32 &&& Int32.toUInt32 31)).toInt32) &&& 252645135) + (((((((x - (((x).toUInt32 >>> ((nI 1).toUInt32 &&& Int32.toUInt32 31)).toInt32 &&& 1431655765)) &&& 858993459) + ((((x - (((x).toUInt32 >>> ((nI 1).toUInt32 &&& Int32.toUInt32 31)).toInt32 &&& 1431655765))).toUInt32 >>> ((nI 2).toUInt32 &&& Int32.toUInt32 31)).toInt32 &&& 858993459)) + (((((x - (((x).toUInt32 >>> ((nI 1).toUInt32 &&& Int32.toUInt32 31)).toInt32 &&& 1431655765)) &&& 858993459) + ((((x - (((x).toUInt32 >>> ((nI 1).toUInt32 &&& Int32.toUInt32 31)).toInt32 &&& 1431655765))).toUInt32 >>> ((nI 2).toUInt32 &&& Int32.toUInt32 31)).toInt32 &&& 858993459))).toUInt32 >>> ((nI 4).toUInt32 &&& Int32.toUInt32 31)).toInt32) &&& 252645135)).toUInt32 >>> ((nI 8).toUInt32 &&& Int32.toUInt32 31)).toInt32)).toUInt32 >>> ((nI 16).toUInt32 &&& Int32.toUInt32 31)).toInt32) &&& nI 63)
set_option maxRecDepth 100000 in
set_option maxHeartbeats 4000000 in
theorem c_J6_bitCount_0f7a4 (l : Launch) {fv : Value} (hf : FV fv)  (x : Int32) : CT l fv 1 jJ6_bitCount_0f7a4 [.int x] ([]) (DP (some (.int (m_J6_bitCount_0f7a4 x))) ([])) := by
  refine CT_of [] mt_J6_bitCount_0f7a4 (by decide +kernel) (tab_J6 hf) okJ6_bitCount_0f7a4 (Nat.le_of_ble_eq_true rfl) ?_
  intro J hJ hD
  refine hJ 0 _ _ _ ?_
  exact And.intro True.intro (DPi (rfl))
abbrev Fi : Type := Fn
def Fi.f (s : Fi) : Fn := s
def wFi (zf : Fn) : List AE := [.inl (0, 540, .inl (zf))]
def hFi (s : Fi) : List AE := wFi (Fi.f s)
def l_J7_fill_53178_5 (s : Fi) (v : Int32) : Nat → Int32 → Fn → Fi
  | 0, _, _ => s
  | n5 + 1, i, f1 => if nI 540 ≤ i then (f1) else l_J7_fill_53178_5 s v n5 (i + nI 1) (upd f1 i.toNatClampNeg v)
theorem q_J7_fill_53178_5 (s : Fi) (v : Int32) (n5 : Nat) (i : Int32) (f1 : Fn) : l_J7_fill_53178_5 s v (n5 + 1) i f1 = (if nI 540 ≤ i then (f1) else l_J7_fill_53178_5 s v n5 (i + nI 1) (upd f1 i.toNatClampNeg v)) := rfl
def m_J7_fill_53178 (s : Fi) (v : Int32) : Fi := l_J7_fill_53178_5 s v 541 (nI 0) (Fi.f s)
set_option maxRecDepth 100000 in
set_option maxHeartbeats 4000000 in
theorem c_J7_fill_53178 (l : Launch) {fv : Value} (hf : FV fv) (s : Fi) (v : Int32) : CT l fv 1 jJ7_fill_53178 [.ref 0, .int v] (hFi s) (DP none (hFi (m_J7_fill_53178 s v))) := by
  refine CT_of [5] mt_J7_fill_53178 (by decide +kernel) (tab_J7 hf) okJ7_fill_53178 (Nat.le_of_ble_eq_true rfl) ?_
  intro J hJ hD
  refine hJ 0 _ _ _ ?_
  have L5 : ∀ (n5 : Nat) (i : Int32) (f1 : Fn), (∃ z9 : Nat, z9 ≤ 540 ∧ n5 + z9 = 541 ∧ i = nI z9) → m_J7_fill_53178 s v = l_J7_fill_53178_5 s v n5 i f1 → J 5 [(0, .ref 0), (1, .int v), (2, .int i), (3, .int (nI 540))] [] (wFi f1) := by
    intro n5
    induction n5 with
    | zero =>
      intro i f1 hv
      obtain ⟨z9, h1, h2, h3⟩ := hv
      omega
    | succ n5 ih5 =>
      intro i f1 hv e5
      obtain ⟨z9, h1, h2, h3⟩ := hv
      refine hJ 5 _ _ _ ?_
      refine And.intro (fun c1 => ?_) (fun c1 => ?_)
      · skip
        refine hJ 20 _ _ _ ?_
        exact And.intro rfl (DPs (F := (fun z => hFi z)) (s' := (f1)) (e5.trans ((q_J7_fill_53178_5 s v n5 i f1).trans (if_pos c1))))
      · skip
        have h4 := cnt_lt h3 h1 (by decide) c1
        refine And.intro (vp_nI h3 h4 (by decide)) ?_
        exact hD _ _ [1, 2, 0, 3] _ _ (ih5 _ _ ⟨z9 + 1, h4, by omega, by rw [h3]; exact nI_add z9 1⟩ (e5.trans ((q_J7_fill_53178_5 s v n5 i f1).trans (if_neg c1))))
  exact hD _ _ [2, 3, 1, 0] _ _ (L5 541 _ _ ⟨0, by decide, by decide, rfl⟩ (rfl))

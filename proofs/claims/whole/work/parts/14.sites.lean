/-! the abstract machine is right: call sites, returns, all instructions, bodies and contracts -/
def notMH (n : String) : Prop := n ≠ "java/lang/invoke/MethodHandle" ∧ n ≠ "java/lang/invoke/VarHandle"
def arOK (n : Nat) (y : MethodName) : Prop := (parseMethodDescriptor y.desc).map (fun d => d.parameters.length) = some n
/-- a method that can be called: its code is among the words, its locals are few -/
def MOK (TB : List Cond) (mt : MT) (j : Nat) : Prop := cdOf mt j ∈ TB ∧ (mt j).2.2.1 ≤ 41
def ClN (cl : List vw_C) (ci : Nat) (C : String) : Prop := (ci = 50 ∧ C = "java/lang/String") ∨ ∃ T N, cl[ci]? = some (C, T, N)
def VOK (TB : List Cond) (mt : MT) (own : String) (idx na : Nat) (C : String) (j : Nat) : Prop :=
  ((mt j).1.cls = C ∧ notMH C ∧ arOK na (mt j).1 ∧ ∀ w ∈ wsV own idx C (mt j).1 [], w ∈ TB) ∨
  (∃ x owner, (mt j).1 = ⟨owner, x.name, x.desc⟩ ∧ notMH owner ∧ arOK na x ∧ ∀ w ∈ va_wsU own idx C owner x (mt j).1 [], w ∈ TB) ∨
  (∃ x owner, notMH owner ∧ arOK na x ∧ (∀ w ∈ va_wsO own idx C owner x (mt j).1 [], w ∈ TB) ∧ ∃ b0 m0 r0, Cond.code ⟨owner, x.name, x.desc⟩ b0 m0 r0 ∈ TB)
def SOK (TB : List Cond) (mt : MT) (own : String) (idx na : Nat) (j : Nat) : Prop := notMH (mt j).1.cls ∧ arOK na (mt j).1 ∧ Cond.methodLink own idx (mt j).1 ∈ TB ∧ Cond.static (mt j).1 ∈ TB ∧ Cond.initialized (mt j).1.cls ∈ TB
def UOK (TB : List Cond) (mt : MT) (own : String) (idx na : Nat) (j : Nat) : Prop := (mt j).1.name ≠ "<init>" ∧ arOK na (mt j).1 ∧ ∀ w ∈ va_wsSU own idx (mt j).1 [], w ∈ TB
def CpOK (TB : List Cond) (mt : MT) (cl : List vw_C) (own : String) (P : Pool) : Prop := ∀ q ∈ P.2.1,
  (q.2.1 = 0 ∧ ∀ t ∈ q.2.2.2, MOK TB mt t.2 ∧ ∃ C, ClN cl t.1 C ∧ VOK TB mt own q.1 q.2.2.1 C t.2) ∨
  (q.2.1 = 1 ∧ ∀ t ∈ q.2.2.2, MOK TB mt t.2 ∧ SOK TB mt own q.1 q.2.2.1 t.2) ∨
  (q.2.1 = 2 ∧ ∀ t ∈ q.2.2.2, MOK TB mt t.2 ∧ (∃ C T N, cl[t.1]? = some (C, T, N)) ∧ UOK TB mt own q.1 q.2.2.1 t.2) ∨
  (q.2.1 = 5 ∧ Cond.methodLink own q.1 arraycopyName ∈ TB ∧ Cond.native arraycopyName ∈ TB ∧ Cond.static arraycopyName ∈ TB ∧ Cond.initialized "java/lang/System" ∈ TB)
def TbOK (TB : List Cond) : Prop := ∀ w ∈ TB, (w.onTables && w.keeps) = true ∨ ∃ ty, w = .arrayClass ty
section SN4
variable {p : Program} {l : Launch} {e : Env} {R : Room} {s : State} {m : MethodId} {args : Array Value} {below : List Frame} {meth : Method} {c : Code} {cells slots : Nat} {Q : State → Prop}
variable {cl : List vw_C} {D : va_G} {tc : Nat → ClassId} {ad : Nat → Nat} {N nL : Nat} {cc : ByteArray} {own : String} {Ts TB : List Cond} {X : RoT} {P : Pool} {d : Nat} {ty : Option FieldType} {RT : RP} {mt : MT}
theorem good_of {ws : List Cond} (hTB : TbOK TB) (hs : ∀ w ∈ TB, w ∈ Ts) (h : ∀ w ∈ ws, w ∈ TB) : GoodIn Ts ws := fun w hw => ⟨hs w (h w hw), hTB w (h w hw)⟩
theorem good_cd {j : Nat} {ws : List Cond} (hTB : TbOK TB) (hs : ∀ w ∈ TB, w ∈ Ts) (hm : MOK TB mt j) (h : ∀ w ∈ ws, w ∈ TB) : GoodIn Ts (ws ++ (cdOf mt j :: TB)) := good_of hTB hs fun w hw => by
  rcases List.mem_append.mp hw with hw | hw
  · exact h w hw
  · rcases List.mem_cons.mp hw with rfl | hw
    · exact hm.1
    · exact hw
theorem room_ok {j d1 : Nat} (hm : MOK TB mt j) (hd : d1 < d) (hRf : d ≤ R.frames) (hRl : 60 * d ≤ R.locals) : (rmOf d1).frames + 1 ≤ R.frames ∧ 8 + ((mt j).2.2.1 + 11) + (rmOf d1).locals ≤ R.locals := by
  have h2 := hm.2
  have e1 : (rmOf d1).frames = d1 := rfl
  have e2 : (rmOf d1).locals = 60 * d1 := rfl
  rw [e1, e2]
  omega
/-- the receiver: its cell, its name -/
theorem recv_ok (hK : va_K D cl (TY tc) s) (hR : RO X ad (AA ad N) s s.heap) (hstr : ∀ i, 1000 ≤ i → i < 1006 → (i, "java/lang/String") ∈ X.1) {h : List AE} {b ci : Nat} {C : String} {H : Heap} {locs : List Loc} (hcl : cl.length ≤ 50) (hk : x_kind h b = some ci) (hC : ClN cl ci C) (h2 : va_P D cl (wm tc ad 0 h) H) (h3 : va_S (AA ad N) s.heap H locs) :
    ∃ cellB : Cell, H[ad b]? = some cellB ∧ cellB.vm.isStatics = false ∧ s.vm.findClass C = some cellB.cls := by
  unfold x_kind at hk
  split at hk
  · next ci' fs hc =>
    cases hk
    rcases hC with ⟨rfl, rfl⟩ | ⟨T, Nf, hC⟩
    · obtain ⟨r9, z9, -⟩ := h2 b _ (wm_get0 hc)
      have := (List.getElem?_eq_some_iff.mp z9).1
      omega
    · exact va_recv hK h2 hC (wm_get0 hc)
  · cases hk
  · next hc =>
    cases hb : (Nat.ble 1000 b && Nat.blt b 1006) with
    | false => rw [hb] at hk; cases hk
    | true =>
      rw [hb] at hk
      cases hk
      rcases hC with ⟨-, rfl⟩ | ⟨T, Nf, hC⟩
      · have g1 := Nat.le_of_ble_eq_true (Bool.and_eq_true_iff.mp hb).1
        have g2 : b < 1006 := by have := (Bool.and_eq_true_iff.mp hb).2; simpa using this
        obtain ⟨cell, q1, q2, q3, -⟩ := (hR.1 _ (hstr b g1 g2)).kept h3.2.1
        exact ⟨cell, q1, q2, q3⟩
      · have := (List.getElem?_eq_some_iff.mp hC).1
        omega
theorem siteV (hx : p.tables.exec = Jvm.exec) (hb : c.code = cc) (hml : c.maxLocals = nL) (hown : s.vm.findClass own = some m.cls) (hts : ∀ w ∈ Ts, w.before args s = true) (hTB : TbOK TB) (hs : ∀ w ∈ TB, w ∈ Ts) (hRf : d ≤ R.frames) (hRl : 60 * d ≤ R.locals) (hcs : cells ≤ R.cells ∧ slots ≤ R.slots)
    {j pc idx na b : Nat} {C : String} {H : Heap} {locs : List Loc} {la : Array Slot} {as rest : List Value} (hm : MOK TB mt j) (hv : VOK TB mt own idx na C j) (hn : as.length = na) (hla : la.size = nL) (hcat : (rest.map fun v => v.category).sum ≤ 8) (hdg : decode cc pc = .ok (.invokevirtual idx, 3))
    (hrc : ∃ cellB : Cell, H[b]? = some cellB ∧ cellB.vm.isStatics = false ∧ s.vm.findClass C = some cellB.cls) :
    CSite p l e R s m args below meth c cells slots TB mt d j pc H locs la (.ref b :: as) rest (as.reverse ++ .ref b :: rest) := by
  intro d1 hd Pc Qc free hM hbl hpre
  have hfix : CallFix p m c cc nL s args Ts own := ⟨hx, hb, hml, hown, hts⟩
  have hroom := room_ok (R := R) hm hd hRf hRl
  rcases hv with ⟨h1, h2, h3, h4⟩ | ⟨x, owner, h1, h2, h3, h4⟩ | ⟨x, owner, h2, h3, h4, b0, m0, r0, h5⟩
  · refine va_runV (C := C) (index := idx) (n := na) (bytes := (mt j).2.1) (maxL := (mt j).2.2.1) (ret := (mt j).2.2.2) hfix hM (cwV na hts ?_ rfl rfl rfl ⟨h1, by rw [h1]; exact h2.1, by rw [h1]; exact h2.2, h3⟩ hroom) ⟨hbl, hrc, hpre⟩ rfl hn hla rfl (lv_room hcat) hdg hcs
    exact good_cd (ws := wsV own idx C (mt j).1 []) hTB hs hm h4
  · refine va_runU (C := C) (index := idx) (n := na) (bytes := (mt j).2.1) (maxL := (mt j).2.2.1) (ret := (mt j).2.2.2) hfix hM (va_cwU (owner := owner) (x := x) na hts ?_ rfl rfl rfl h1 ⟨h2.1, h2.2, h3⟩ hroom) ⟨hbl, hrc, hpre⟩ rfl hn hla rfl (lv_room hcat) hdg hcs
    exact good_cd (ws := va_wsU own idx C owner x (mt j).1 []) hTB hs hm h4
  · refine va_runU (C := C) (index := idx) (n := na) (bytes := (mt j).2.1) (maxL := (mt j).2.2.1) (ret := (mt j).2.2.2) hfix hM (va_cwO (owner := owner) (x := x) na hts ?_ rfl rfl rfl (hs _ h5) ⟨h2.1, h2.2, h3⟩ hroom) ⟨hbl, hrc, hpre⟩ rfl hn hla rfl (lv_room hcat) hdg hcs
    exact good_cd (ws := va_wsO own idx C owner x (mt j).1 []) hTB hs hm h4
theorem siteS (hx : p.tables.exec = Jvm.exec) (hb : c.code = cc) (hml : c.maxLocals = nL) (hown : s.vm.findClass own = some m.cls) (hts : ∀ w ∈ Ts, w.before args s = true) (hTB : TbOK TB) (hs : ∀ w ∈ TB, w ∈ Ts) (hRf : d ≤ R.frames) (hRl : 60 * d ≤ R.locals) (hcs : cells ≤ R.cells ∧ slots ≤ R.slots)
    {j pc idx na : Nat} {H : Heap} {locs : List Loc} {la : Array Slot} {as rest : List Value} (hm : MOK TB mt j) (hv : SOK TB mt own idx na j) (hn : as.length = na) (hla : la.size = nL) (hcat : (rest.map fun v => v.category).sum ≤ 8) (hdg : decode cc pc = .ok (.invokestatic idx, 3)) :
    CSite p l e R s m args below meth c cells slots TB mt d j pc H locs la as rest (as.reverse ++ rest) := by
  intro d1 hd Pc Qc free hM hbl hpre
  have hfix : CallFix p m c cc nL s args Ts own := ⟨hx, hb, hml, hown, hts⟩
  have hroom := room_ok (R := R) hm hd hRf hRl
  obtain ⟨h1, h2, h3, h4, h5⟩ := hv
  have hg : GoodIn Ts (cdOf mt j :: TB) := good_cd (ws := []) hTB hs hm (fun w h => by cases h)
  exact va_runS (index := idx) (n := na) (bytes := (mt j).2.1) (maxL := (mt j).2.2.1) (ret := (mt j).2.2.2) hfix hM ⟨callB_of na hts hg rfl rfl rfl (hts _ (hs _ h5)) (hts _ (hs _ h3)) ⟨h1.1, h1.2, h2⟩ hroom, hts _ (hs _ h4)⟩ ⟨hbl, hpre⟩ rfl hn hla rfl (lv_room hcat) hdg hcs
theorem siteU (hx : p.tables.exec = Jvm.exec) (hb : c.code = cc) (hml : c.maxLocals = nL) (hown : s.vm.findClass own = some m.cls) (hts : ∀ w ∈ Ts, w.before args s = true) (hTB : TbOK TB) (hs : ∀ w ∈ TB, w ∈ Ts) (hRf : d ≤ R.frames) (hRl : 60 * d ≤ R.locals) (hcs : cells ≤ R.cells ∧ slots ≤ R.slots)
    {j pc idx na b : Nat} {C : String} {cC : ClassId} {H : Heap} {locs : List Loc} {la : Array Slot} {as rest : List Value} (hat : ClassAt s C cC) (hm : MOK TB mt j) (hv : UOK TB mt own idx na j) (hn : as.length = na) (hla : la.size = nL) (hcat : (rest.map fun v => v.category).sum ≤ 8) (hdg : decode cc pc = .ok (.invokespecial idx, 3))
    (hrc : ∃ cellB : Cell, H[b]? = some cellB ∧ cellB.vm.isStatics = false ∧ s.vm.findClass C = some cellB.cls) :
    CSite p l e R s m args below meth c cells slots TB mt d j pc H locs la (.ref b :: as) rest (as.reverse ++ .ref b :: rest) := by
  intro d1 hd Pc Qc free hM hbl hpre
  have hfix : CallFix p m c cc nL s args Ts own := ⟨hx, hb, hml, hown, hts⟩
  have hroom := room_ok (R := R) hm hd hRf hRl
  obtain ⟨h1, h2, h3⟩ := hv
  exact va_runSU (C := C) (index := idx) (n := na) (bytes := (mt j).2.1) (maxL := (mt j).2.2.1) (ret := (mt j).2.2.2) hat hfix hM (va_cwSU na hts (good_cd (ws := va_wsSU own idx (mt j).1 []) hTB hs hm h3) rfl rfl rfl ⟨h1, h2⟩ hroom) ⟨hbl, hrc, hpre⟩ rfl hn hla rfl (lv_room hcat) hdg hcs
end SN4

/-! the abstract machine is right: call sites, returns, all instructions, bodies and contracts -/
def notMH (n : String) : Prop := n ≠ "java/lang/invoke/MethodHandle" ∧ n ≠ "java/lang/invoke/VarHandle"
def arOK (n : Nat) (y : MethodName) : Prop := (parseMethodDescriptor y.desc).map (fun d => d.parameters.length) = some n
/-- a method that can be called: its code is among the words, its locals are few -/
def MOK (TB : List Cond) (mt : MT) (j : Nat) : Prop := cdOf mt j ∈ TB ∧ (mt j).2.2.1 ≤ 41
def ClN (cl : List vw_C) (ci : Nat) (C : String) : Prop := (ci = 50 ∧ C = "java/lang/String") ∨ ∃ T N, cl[ci]? = some (C, T, N)
def VOK (TB : List Cond) (mt : MT) (own : String) (idx na : Nat) (C : String) (j : Nat) : Prop :=
  ((mt j).1.cls = C ∧ notMH C ∧ arOK na (mt j).1 ∧ ∀ w ∈ wsV own idx C (mt j).1 [], w ∈ TB) ∨
  (∃ x owner, (mt j).1 = ⟨owner, x.name, x.desc⟩ ∧ notMH owner ∧ arOK na x ∧ ∀ w ∈ va_wsU own idx C owner x (mt j).1 [], w ∈ TB) ∨
  (∃ x owner, notMH owner ∧ arOK na x ∧ (∀ w ∈ va_wsO own idx C owner x (mt j).1 [], w ∈ TB) ∧ ∃ b0 m0 r0, Cond.code ⟨owner, x.name, x.desc⟩ b0 m0 r0 ∈ TB)
def SOK (TB : List Cond) (mt : MT) (own : String) (idx na : Nat) (j : Nat) : Prop := notMH (mt j).1.cls ∧ arOK na (mt j).1 ∧ Cond.methodLink own idx (mt j).1 ∈ TB ∧ Cond.static (mt j).1 ∈ TB ∧ Cond.initialized (mt j).1.cls ∈ TB
def UOK (TB : List Cond) (mt : MT) (own : String) (idx na : Nat) (j : Nat) : Prop :=
  ((mt j).1.name ≠ "<init>" ∧ arOK na (mt j).1 ∧ ∀ w ∈ va_wsSU own idx (mt j).1 [], w ∈ TB) ∨
  (∃ x owner, (mt j).1 = ⟨owner, x.name, x.desc⟩ ∧ x.name ≠ "<init>" ∧ arOK na x ∧ Cond.methodLink own idx x ∈ TB ∧ Cond.sameMethod x.cls owner x.name x.desc ∈ TB ∧ Cond.superclass own x.cls ∈ TB ∧ Cond.superclass x.cls owner ∈ TB ∧ Cond.instanceMethod (mt j).1 ∈ TB ∧ Cond.initialized owner ∈ TB)
def CpOK (TB : List Cond) (mt : MT) (cl : List vw_C) (own : String) (P : Pool) : Prop := ∀ q ∈ P.2.1,
  (q.2.1 = 0 ∧ ∀ t ∈ q.2.2.2, MOK TB mt t.2 ∧ ∃ C, ClN cl t.1 C ∧ VOK TB mt own q.1 q.2.2.1 C t.2) ∨
  (q.2.1 = 1 ∧ ∀ t ∈ q.2.2.2, MOK TB mt t.2 ∧ SOK TB mt own q.1 q.2.2.1 t.2) ∨
  (q.2.1 = 2 ∧ ∀ t ∈ q.2.2.2, MOK TB mt t.2 ∧ (∃ C T N, cl[t.1]? = some (C, T, N)) ∧ UOK TB mt own q.1 q.2.2.1 t.2) ∨
  (q.2.1 = 5 ∧ Cond.methodLink own q.1 arraycopyName ∈ TB ∧ Cond.native arraycopyName ∈ TB ∧ Cond.static arraycopyName ∈ TB ∧ Cond.initialized "java/lang/System" ∈ TB)
def TbOK (TB : List Cond) : Prop := ∀ w ∈ TB, (w.onTables && w.keeps) = true ∨ ∃ ty, w = .arrayClass ty
section SN4
variable {p : Program} {l : Launch} {e : Env} {R : Room} {s : State} {m : MethodId} {args : Array Value} {below : List Frame} {meth : Method} {c : Code} {cells slots : Nat} {Q : State → Prop}
variable {cl : List vw_C} {D : va_G} {tc : Nat → ClassId} {ad : Nat → Nat} {N nL : Nat} {cc : ByteArray} {own : String} {Ts TB : List Cond} {X : RoT} {P : Pool} {d : Nat} {ty : Option FieldType} {RT : RP} {mt : MT}
theorem good_of {ws : List Cond} (hTB : TbOK TB) (hs : ∀ w ∈ TB, w ∈ Ts) (h : ∀ w ∈ ws, w ∈ TB) : GoodIn Ts ws := fun w hw => ⟨hs w (h w hw), hTB w (h w hw)⟩
theorem good_cd {j : Nat} {ws : List Cond} (hTB : TbOK TB) (hs : ∀ w ∈ TB, w ∈ Ts) (hm : MOK TB mt j) (h : ∀ w ∈ ws, w ∈ TB) : GoodIn Ts (ws ++ (cdOf mt j :: TB)) := good_of hTB hs fun w hw => by
  rcases List.mem_append.mp hw with hw | hw
  · exact h w hw
  · rcases List.mem_cons.mp hw with rfl | hw
    · exact hm.1
    · exact hw
theorem room_ok {j d1 : Nat} (hm : MOK TB mt j) (hd : d1 < d) (hRf : d ≤ R.frames) (hRl : 60 * d ≤ R.locals) : (rmOf d1).frames + 1 ≤ R.frames ∧ 8 + ((mt j).2.2.1 + 11) + (rmOf d1).locals ≤ R.locals := by
  have h2 := hm.2
  have e1 : (rmOf d1).frames = d1 := rfl
  have e2 : (rmOf d1).locals = 60 * d1 := rfl
  rw [e1, e2]
  omega
/-- the receiver: its cell, its name -/
theorem recv_ok (hK : va_K D cl (TY tc) s) (hR : RO X ad (AA ad N) s s.heap) (hstr : ∀ i, 1000 ≤ i → i < 1006 → (i, "java/lang/String") ∈ X.1) {h : List AE} {b ci : Nat} {C : String} {H : Heap} {locs : List Loc} (hcl : cl.length ≤ 50) (hk : x_kind h b = some ci) (hC : ClN cl ci C) (h2 : va_P D cl (wm tc ad 0 h) H) (h3 : va_S (AA ad N) s.heap H locs) :
    ∃ cellB : Cell, H[ad b]? = some cellB ∧ cellB.vm.isStatics = false ∧ s.vm.findClass C = some cellB.cls := by
  unfold x_kind at hk
  split at hk
  · next ci' fs hc =>
    cases hk
    rcases hC with ⟨rfl, rfl⟩ | ⟨T, Nf, hC⟩
    · obtain ⟨r9, z9, -⟩ := h2 b _ (wm_get0 hc)
      have := (List.getElem?_eq_some_iff.mp z9).1
      omega
    · exact va_recv hK h2 hC (wm_get0 hc)
  · cases hk
  · next hc =>
    cases hb : (Nat.ble 1000 b && Nat.blt b 1006) with
    | false => rw [hb] at hk; cases hk
    | true =>
      rw [hb] at hk
      cases hk
      rcases hC with ⟨-, rfl⟩ | ⟨T, Nf, hC⟩
      · have g1 := Nat.le_of_ble_eq_true (Bool.and_eq_true_iff.mp hb).1
        have g2 : b < 1006 := by have := (Bool.and_eq_true_iff.mp hb).2; simpa using this
        obtain ⟨cell, q1, q2, q3, -⟩ := (hR.1 _ (hstr b g1 g2)).kept h3.2.1
        exact ⟨cell, q1, q2, q3⟩
      · have := (List.getElem?_eq_some_iff.mp hC).1
        omega
theorem siteV (hx : p.tables.exec = Jvm.exec) (hb : c.code = cc) (hml : c.maxLocals = nL) (hown : s.vm.findClass own = some m.cls) (hts : ∀ w ∈ Ts, w.before args s = true) (hTB : TbOK TB) (hs : ∀ w ∈ TB, w ∈ Ts) (hRf : d ≤ R.frames) (hRl : 60 * d ≤ R.locals) (hcs : cells ≤ R.cells ∧ slots ≤ R.slots)
    {j pc idx na b : Nat} {C : String} {H : Heap} {locs : List Loc} {la : Array Slot} {as rest : List Value} (hm : MOK TB mt j) (hv : VOK TB mt own idx na C j) (hn : as.length = na) (hla : la.size = nL) (hcat : (rest.map fun v => v.category).sum ≤ 8) (hdg : decode cc pc = .ok (.invokevirtual idx, 3))
    (hrc : ∃ cellB : Cell, H[b]? = some cellB ∧ cellB.vm.isStatics = false ∧ s.vm.findClass C = some cellB.cls) :
    CSite p l e R s m args below meth c cells slots TB mt d j pc H locs la (.ref b :: as) rest (as.reverse ++ .ref b :: rest) := by
  intro d1 hd Pc Qc free hM hbl hpre
  have hfix : CallFix p m c cc nL s args Ts own := ⟨hx, hb, hml, hown, hts⟩
  have hroom := room_ok (R := R) hm hd hRf hRl
  rcases hv with ⟨h1, h2, h3, h4⟩ | ⟨x, owner, h1, h2, h3, h4⟩ | ⟨x, owner, h2, h3, h4, b0, m0, r0, h5⟩
  · refine va_runV (C := C) (index := idx) (n := na) (bytes := (mt j).2.1) (maxL := (mt j).2.2.1) (ret := (mt j).2.2.2) hfix hM (cwV na hts ?_ rfl rfl rfl ⟨h1, by rw [h1]; exact h2.1, by rw [h1]; exact h2.2, h3⟩ hroom) ⟨hbl, hrc, hpre⟩ rfl hn hla rfl (lv_room hcat) hdg hcs
    exact good_cd (ws := wsV own idx C (mt j).1 []) hTB hs hm h4
  · refine va_runU (C := C) (index := idx) (n := na) (bytes := (mt j).2.1) (maxL := (mt j).2.2.1) (ret := (mt j).2.2.2) hfix hM (va_cwU (owner := owner) (x := x) na hts ?_ rfl rfl rfl h1 ⟨h2.1, h2.2, h3⟩ hroom) ⟨hbl, hrc, hpre⟩ rfl hn hla rfl (lv_room hcat) hdg hcs
    exact good_cd (ws := va_wsU own idx C owner x (mt j).1 []) hTB hs hm h4
  · refine va_runU (C := C) (index := idx) (n := na) (bytes := (mt j).2.1) (maxL := (mt j).2.2.1) (ret := (mt j).2.2.2) hfix hM (va_cwO (owner := owner) (x := x) na hts ?_ rfl rfl rfl (hs _ h5) ⟨h2.1, h2.2, h3⟩ hroom) ⟨hbl, hrc, hpre⟩ rfl hn hla rfl (lv_room hcat) hdg hcs
    exact good_cd (ws := va_wsO own idx C owner x (mt j).1 []) hTB hs hm h4
theorem siteS (hx : p.tables.exec = Jvm.exec) (hb : c.code = cc) (hml : c.maxLocals = nL) (hown : s.vm.findClass own = some m.cls) (hts : ∀ w ∈ Ts, w.before args s = true) (hTB : TbOK TB) (hs : ∀ w ∈ TB, w ∈ Ts) (hRf : d ≤ R.frames) (hRl : 60 * d ≤ R.locals) (hcs : cells ≤ R.cells ∧ slots ≤ R.slots)
    {j pc idx na : Nat} {H : Heap} {locs : List Loc} {la : Array Slot} {as rest : List Value} (hm : MOK TB mt j) (hv : SOK TB mt own idx na j) (hn : as.length = na) (hla : la.size = nL) (hcat : (rest.map fun v => v.category).sum ≤ 8) (hdg : decode cc pc = .ok (.invokestatic idx, 3)) :
    CSite p l e R s m args below meth c cells slots TB mt d j pc H locs la as rest (as.reverse ++ rest) := by
  intro d1 hd Pc Qc free hM hbl hpre
  have hfix : CallFix p m c cc nL s args Ts own := ⟨hx, hb, hml, hown, hts⟩
  have hroom := room_ok (R := R) hm hd hRf hRl
  obtain ⟨h1, h2, h3, h4, h5⟩ := hv
  have hg : GoodIn Ts (cdOf mt j :: TB) := good_cd (ws := []) hTB hs hm (fun w h => by cases h)
  exact va_runS (index := idx) (n := na) (bytes := (mt j).2.1) (maxL := (mt j).2.2.1) (ret := (mt j).2.2.2) hfix hM ⟨callB_of na hts hg rfl rfl rfl (hts _ (hs _ h5)) (hts _ (hs _ h3)) ⟨h1.1, h1.2, h2⟩ hroom, hts _ (hs _ h4)⟩ ⟨hbl, hpre⟩ rfl hn hla rfl (lv_room hcat) hdg hcs
/-- super.m(..) where the class above inherits m from the one above it -/
theorem callSI {T : State} {locs : List Loc} (X9 : Stand p l e R s m args below meth c T locs cells slots) (hexec : p.tables.exec = Jvm.exec) {own owner : String} {index : Nat} {x y : MethodName} {bytes : ByteArray} {maxL : Nat} {ret : Option FieldType} (hy : y = ⟨owner, x.name, x.desc⟩)
    (hown : s.vm.findClass own = some m.cls) (hlink : (Cond.methodLink own index x).before args s = true) (hsame : (Cond.sameMethod x.cls owner x.name x.desc).before args s = true) (hsup : (Cond.superclass own x.cls).before args s = true) (hsup2 : (Cond.superclass x.cls owner).before args s = true)
    (hinst : (Cond.instanceMethod y).before args s = true) (hcode : (Cond.code y bytes maxL ret).before args s = true) (hno : x.name ≠ "<init>")
    {Wd : Nat} {Pre : Pt → Array Value → Prop} {Post : Pt → Array Value → Option Value → Pt → Prop} (hK : Back l R p e below s args y 3 Wd Pre Post)
    {b : Addr} {cellB : Cell} {kB : Class} (hcell : T.heap[b]? = some cellB) (hobj : cellB.vm.isStatics = false) (hkB : s.vm.classes[cellB.cls]? = some kB)
    {g : JFrame} (hg : g.method = m) (hsize : g.locals.size = c.maxLocals) {argsL rest : List Value} (hlen : ∀ sig, parseMethodDescriptor y.desc = some sig → argsL.length = sig.parameters.length)
    (hstack : g.stack = argsL.reverse ++ .ref b :: rest) (hW : 2 * g.monitorRoom + (rest.map fun v => v.category).sum ≤ Wd) (hdg : decode c.code g.pc = .ok (.invokespecial index, 3))
    (hpre : ∀ vm₁, s.WarmedH vm₁ → Pre ⟨T.setVm vm₁, locs, cells, slots⟩ (Value.ref b :: argsL).toArray) :
    ∃ (v : Option Value) (vm₁ : Vm) (B : Pt), s.WarmedH vm₁ ∧ Stand p l e R s m args below meth c B.U B.locs B.cells B.slots ∧ Post ⟨T.setVm vm₁, locs, cells, slots⟩ (Value.ref b :: argsL).toArray v B ∧
      ∀ target, Steps p.tables e below (B.U.setTop { g with pc := g.pc + 3, stack := v.toList ++ rest }) target → Steps p.tables e below (T.setTop g) target := by
  obtain ⟨mk, methM, hnamed, hmethM, hstM, habM⟩ := Cond.instanceMethod_spec hinst
  obtain ⟨methM', cM, hmethM', -, -, -, -, -, -, hsigM⟩ := Cond.code_spec hnamed hcode
  cases hmethM.symm.trans hmethM'
  obtain ⟨ps, dk, kp, hps, hdk, hkp, hsuper, -, -, hnid⟩ := Cond.superclass_spec hown hsup
  obtain ⟨po, dk2, ko, hpo, hdk2, hko, hsuper2, -, -, -⟩ := Cond.superclass_spec hps hsup2
  have hn : s.methodNamed? ⟨owner, x.name, x.desc⟩ = some mk := by rw [← hy]; exact hnamed
  have hpm : po = mk.cls := Option.some.inj (hpo.symm.trans (findClass_of_methodNamed hn))
  have hsz : 0 < s.vm.classes.size := Nat.lt_of_le_of_lt (Nat.zero_le _) (Array.getElem?_eq_some_iff.mp hdk2).1
  have hsub : s.vm.isSubclass ps mk.cls = true := by
    rw [← hpm]
    obtain ⟨n9, hn9⟩ : ∃ n9, s.vm.classes.size = n9 + 1 := ⟨s.vm.classes.size - 1, by omega⟩
    simp [Vm.isSubclass, Vm.isSubclassAux, hn9, hdk2, hsuper2]
  obtain ⟨vm₁, X₁, hstep₁⟩ := X9.invokespecialUp hexec hown hlink hsame hn hmethM hstM habM hno hdk hnid hps hsuper hsub (a := b) (cell := cellB) hcell
    (fun z h => by rw [h] at hobj; cases hobj) hkB (g := g) hg (argsL := argsL) (rest := rest) (hlen _ hsigM) hstack hdg
  obtain ⟨v, B, X', hpost, hsteps⟩ := hK m meth c ⟨T.setVm vm₁, locs, cells, slots⟩ { g with stack := rest } (.invokespecial index) mk (Value.ref b :: argsL).toArray X₁ hg hsize hdg hW (X₁.named hnamed) (hpre vm₁ X₁.warmed)
  exact ⟨v, vm₁, B, X₁.warmed, X', hpost, fun target h => hstep₁ _ (by rw [doInvoke_state]; exact hsteps.trans h)⟩
theorem runSI {y x : MethodName} {bytes : ByteArray} {maxL mc ms n index : Nat} {ret : Option FieldType} {ws : List Cond} {rm : Room} {Pc : Array Value → State → Prop} {Qc : Array Value → State → Outcome → State → Prop} {free : Addr → Prop} {own owner C : String} {cC : ClassId} {b : Addr} {As rest : List Value} {g : JFrame} {H : Heap} {locs : List Loc}
    (hat : ClassAt s C cC) (S : CallFix p m c cc nL s args Ts own) (hM : Met l y ws rm Pc Qc mc ms free) (hy : y = ⟨owner, x.name, x.desc⟩)
    (cw : rm.cells = mc ∧ rm.slots = ms ∧ rm.frames + 1 ≤ R.frames ∧ 8 + (maxL + 11) + rm.locals ≤ R.locals ∧ (∀ w ∈ ws, ∀ (a' : Array Value) (U : State), s.WarmedH U.vm → w.before a' U = true) ∧ Cond.code y bytes maxL ret ∈ ws)
    (hl1 : (Cond.methodLink own index x).before args s = true) (hl2 : (Cond.sameMethod x.cls owner x.name x.desc).before args s = true) (hl3 : (Cond.superclass own x.cls).before args s = true) (hl3' : (Cond.superclass x.cls owner).before args s = true) (hl4 : (Cond.instanceMethod y).before args s = true) (hini : (Cond.initialized y.cls).before args s = true) (hcode : (Cond.code y bytes maxL ret).before args s = true) (hno : x.name ≠ "<init>") (hlen : ∀ sig, parseMethodDescriptor y.desc = some sig → n = sig.parameters.length) (hp : PreV s H C b Pc As)
    (hg : g.method = m) (hn : As.length = n) (hsize : g.locals.size = nL) (hstack : g.stack = As.reverse ++ .ref b :: rest) (hW : 2 * g.monitorRoom + (rest.map fun v => v.category).sum ≤ 8) (hdg : decode cc g.pc = .ok (.invokespecial index, 3)) (hf : cells + mc ≤ R.cells ∧ slots + ms ≤ R.slots) :
    va_Run p l e R s m args below meth c H locs cells slots mc ms g rest (Qc (Value.ref b :: As).toArray) (free) := by
  obtain ⟨hrc, hrs, hfr, hlo, hws, hcw⟩ := cw
  have hK : Back l R p e below s args y 3 8 (PreOf R mc ms Pc) (PostOf Qc mc ms free) := back_of (bytes := bytes) (maxL := maxL) (ret := ret) hM hp.1 hrc hrs hfr hlo hws hcw (fun a' U hW => word_at hW (Or.inl (by first | rfl | simp [Cond.onTables, Cond.keeps, Cond.steady])) hini)
  obtain ⟨hx, hb, hml, ho, -⟩ := S
  obtain ⟨-, ⟨cellB, hcB, hoB, hclB⟩, hPc⟩ := hp
  obtain ⟨hfc, kB, hkB, -⟩ := hat
  cases hfc.symm.trans hclB
  intro T hT X9
  obtain ⟨v, vm₁, ⟨U', l2, c2, s2⟩, hW₁, X', ⟨g', mk, t, L, e1, e2, hq, h1, hL, h2, h3⟩, st⟩ := callSI X9 hx (bytes := bytes) (maxL := maxL) (ret := ret) hy ho hl1 hl2 hl3 hl3' hl4 hcode hno hK (by rw [hT]; exact hcB) hoB hkB hg (hsize.trans hml.symm) (argsL := As) (rest := rest) (fun sig h => hn.trans (hlen sig h)) hstack hW (by rw [hb]; exact hdg)
    (fun vm₁ hW₁ => ⟨hf.1, hf.2, hPc (T.setVm vm₁) hT hW₁⟩)
  dsimp only [Pt.U, Pt.locs, Pt.cells, Pt.slots] at X' e1 e2 h1 h2 h3 st
  subst h1; subst h2; subst h3
  exact ⟨v, (T.setVm vm₁).calling g' mk (Value.ref b :: As).toArray, t, U', L, hT, X', hL, e1, e2, hq, st⟩
theorem siteU (hx : p.tables.exec = Jvm.exec) (hb : c.code = cc) (hml : c.maxLocals = nL) (hown : s.vm.findClass own = some m.cls) (hts : ∀ w ∈ Ts, w.before args s = true) (hTB : TbOK TB) (hs : ∀ w ∈ TB, w ∈ Ts) (hRf : d ≤ R.frames) (hRl : 60 * d ≤ R.locals) (hcs : cells ≤ R.cells ∧ slots ≤ R.slots)
    {j pc idx na b : Nat} {C : String} {cC : ClassId} {H : Heap} {locs : List Loc} {la : Array Slot} {as rest : List Value} (hat : ClassAt s C cC) (hm : MOK TB mt j) (hv : UOK TB mt own idx na j) (hn : as.length = na) (hla : la.size = nL) (hcat : (rest.map fun v => v.category).sum ≤ 8) (hdg : decode cc pc = .ok (.invokespecial idx, 3))
    (hrc : ∃ cellB : Cell, H[b]? = some cellB ∧ cellB.vm.isStatics = false ∧ s.vm.findClass C = some cellB.cls) :
    CSite p l e R s m args below meth c cells slots TB mt d j pc H locs la (.ref b :: as) rest (as.reverse ++ .ref b :: rest) := by
  intro d1 hd Pc Qc free hM hbl hpre
  have hfix : CallFix p m c cc nL s args Ts own := ⟨hx, hb, hml, hown, hts⟩
  have hroom := room_ok (R := R) hm hd hRf hRl
  rcases hv with ⟨h1, h2, h3⟩ | ⟨x, owner, h1, h2, h3, h4, h5, h6, h7, h8, h9⟩
  rotate_left
  · have hg : GoodIn Ts (cdOf mt j :: TB) := good_cd (ws := []) hTB hs hm (fun w h => by cases h)
    have hlen : ∀ sig, parseMethodDescriptor (mt j).1.desc = some sig → na = sig.parameters.length := fun sig h => by
      have h3 : (parseMethodDescriptor x.desc).map (fun d => d.parameters.length) = some na := h3
      rw [h1] at h
      have h : parseMethodDescriptor x.desc = some sig := h
      rw [h] at h3
      exact (Option.some.inj h3).symm
    refine runSI (C := C) (n := na) (bytes := (mt j).2.1) (maxL := (mt j).2.2.1) (ret := (mt j).2.2.2) (owner := owner) (x := x) hat hfix hM h1 ⟨rfl, rfl, hroom.1, hroom.2, pay_in hts hg, List.mem_cons_self⟩ (hts _ (hs _ h4)) (hts _ (hs _ h5)) (hts _ (hs _ h6)) (hts _ (hs _ h7)) (hts _ (hs _ h8)) ?_ (hts _ (hs _ hm.1)) h2 hlen ⟨hbl, hrc, hpre⟩ rfl hn hla rfl (lv_room hcat) hdg hcs
    rw [h1]
    exact hts _ (hs _ h9)
  exact va_runSU (C := C) (index := idx) (n := na) (bytes := (mt j).2.1) (maxL := (mt j).2.2.1) (ret := (mt j).2.2.2) hat hfix hM (va_cwSU na hts (good_cd (ws := va_wsSU own idx (mt j).1 []) hTB hs hm h3) rfl rfl rfl ⟨h1, h2⟩ hroom) ⟨hbl, hrc, hpre⟩ rfl hn hla rfl (lv_room hcat) hdg hcs
end SN4

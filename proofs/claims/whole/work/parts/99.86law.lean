/-! the claim out of the walk of the law: the text that the kit lays, and the walk -/
/-! the claim out of one walk OF THE LAW'S BODY. Your part is whole_start (and what it stands on); all else here is the same for every law, but numbers. -/
def R_law : String := "UrchinSchoolLaw"
def lw_P (b : Addr) (xs : List Int32) (args : Array Value) (s : State) : Prop := args = #[.ref b] ∧ s.IntsAt b xs ∧ xs.length ≤ 2560 ∧ (Jvm.Cond.and given_1 narrow_1).before args s = true
def lw_Q (_ : Array Value) (s : State) (o : Outcome) (t : State) : Prop := o = .returned (some (.int 1)) ∧ Framed s o t [] 600000 7302250
def lw_Z (below : List Frame) (a : Array Value) (s : State) : State → Prop := fun t => ∃ o, t.status = .running ∧ Ended t below o ∧ lw_Q a s o t
/-- the law's own end, with 1 on the stack, nothing written that was there before, its room as the claim has it -/
theorem lw_ret {p : Program} {l : Launch} {e : Env} {s : State} {m : MethodId} {below : List Frame} {meth : Method} {c : Code} {b : Nat} (hx : p.tables.exec = Jvm.exec) (hb : c.code = code) (hr : meth.sig.returnType = ret) (hlocks : meth.locks = false) {pc : Nat} {H : Heap} {ls : Array Slot} (hdg : decode code pc = .ok (.ireturn, 1)) : W p l e room_1 s m #[Value.ref b] below meth c H [] 600000 7302250 (lw_Z below #[Value.ref b] s) (F0 m pc ls [.int 1]) := by
  intro T hT X
  obtain ⟨fs, hret, hrun, hended, hW, hframe⟩ := X.leave (v := some (.int 1)) (hlocks := hlocks) (fun h => by rw [hr] at h; cases h)
  have hmeth' : T.vm.method? m = some meth := X.method'
  refine ⟨T.setFrames fs, ?_, .returned (some (.int 1)), hrun, hended, rfl, ⟨_, rfl⟩, hW, hframe⟩
  jvm_step X.here [X.here.top, hx, hb, hdg, hmeth', hr, ret, narrow_b1]
  (try refine ⟨rfl, ?_⟩); (try refine ⟨rfl, ?_⟩)
  first | (intro acts; rw [hret _ acts rfl rfl rfl]) | rw [hret _ _ rfl rfl rfl]
  exact Steps.refl _
/-- what holds at the law's entry: the machine, the code, the tables' words (any of lw_tbl by 'hts w (by decide +kernel)'), the script of L ints xs at the cell b, what the Statement gives of the start (any of its parts by flat_of_before) -/
def lw_At (p : Program) (s : State) (m : MethodId) (meth : Method) (c : Code) (b L : Nat) (xs : Nat → Int32) : Prop :=
  p.tables.exec = Jvm.exec ∧ c.code = code ∧ meth.sig.returnType = ret ∧ c.maxLocals = 4 ∧ s.vm.findClass R_law = some m.cls ∧ (∀ w ∈ lw_tbl, w.before #[Value.ref b] s = true) ∧ va_X b L xs s s.heap ∧ b < s.heap.size ∧ meth.locks = false ∧ (Jvm.Cond.and given_1 narrow_1).before #[Value.ref b] s = true
theorem y_0 : Cond.classLink RL 7 RX11 ∈ TB := in_1 (i := 23) rfl rfl
theorem y_1 : Cond.instantiable RX11 8 ∈ TB := in_1 (i := 24) rfl rfl
theorem y_2 : Cond.initialized RX11 ∈ TB := in_1 (i := 1) rfl rfl
theorem y_3 : Cond.methodLink RL 9 yX11_init ∈ TB := in_1 (i := 25) rfl rfl
theorem y_4 : Cond.instanceMethod yX11_init ∈ TB := in_1 (i := 26) rfl rfl
theorem y_5 : Cond.classLink RL 10 RX12 ∈ TB := in_4 (i := 233) rfl rfl
theorem y_6 : Cond.instantiable RX12 21 ∈ TB := in_4 (i := 234) rfl rfl
theorem y_7 : Cond.initialized RX12 ∈ TB := in_1 (i := 14) rfl rfl
theorem y_8 : Cond.methodLink RL 12 yX12_init ∈ TB := in_4 (i := 235) rfl rfl
theorem y_9 : Cond.instanceMethod yX12_init ∈ TB := in_4 (i := 236) rfl rfl
theorem dL_law_0 : decode cL_law 0 = .ok (.new 7, 3) := by decide +kernel
theorem dL_law_3 : decode cL_law 3 = .ok (.dup, 1) := by decide +kernel
theorem dL_law_4 : decode cL_law 4 = .ok (.invokespecial 9, 3) := by decide +kernel
theorem dL_law_7 : decode cL_law 7 = .ok (.astore_n 1, 1) := by decide +kernel
theorem dL_law_8 : decode cL_law 8 = .ok (.new 10, 3) := by decide +kernel
theorem dL_law_11 : decode cL_law 11 = .ok (.dup, 1) := by decide +kernel
theorem dL_law_12 : decode cL_law 12 = .ok (.invokespecial 12, 3) := by decide +kernel
theorem dL_law_15 : decode cL_law 15 = .ok (.astore_n 2, 1) := by decide +kernel
theorem dL_law_16 : decode cL_law 16 = .ok (.iconst 0, 1) := by decide +kernel
theorem dL_law_17 : decode cL_law 17 = .ok (.istore_n 3, 1) := by decide +kernel
theorem seg_join {D : va_G} {tc : Nat → ClassId} {b : Nat} {pre h2 : List AE} {H H1 : Heap} (hpre : va_P D vwCl (wm tc (sg b) 0 pre) H) (hP1 : va_P D vwCl (wm tc (sg (b + pre.length)) 0 h2) H1) (hk1 : ∀ q, q < b + pre.length → H1[q]? = H[q]?) : va_P D vwCl (wm tc (sg b) 0 (pre ++ h2.map (shc pre.length))) H1 := by
  have e5 := wm_sh tc b pre.length h2 0
  rw [Nat.add_zero] at e5
  rw [wm_app, Nat.zero_add, e5]
  refine va_P.app (fun k q hq => ?_) hP1
  refine (hpre k q hq).kept (hk1 _ ?_)
  rw [wm_get] at hq
  cases hc9 : pre[k]? with
  | none => rw [hc9] at hq; simp at hq
  | some c9 =>
    rw [hc9] at hq
    have hlt9 := (List.getElem?_eq_some_iff.mp hc9).1
    simp only [Option.map_some, Option.some.injEq] at hq
    rw [← hq]
    show b + (0 + k) < b + pre.length
    omega
theorem script_T {s : State} {b L : Nat} {xs : Nat → Int32} {A : Nat → Prop} (h : va_X b L xs s s.heap) (hb : ¬ A b) : va_T .int b L (fun j => .int (xs j)) A s s.heap := by
  obtain ⟨scr, h1, h2, h3, h4, h5⟩ := h
  exact ⟨scr, h1, h2, h3, by omega, by rw [h4], h5, hb⟩
theorem lenX11 : hn_X11_init.length = 70 := rfl
theorem lenX12 : hn_X12_init.length = 10 := rfl
theorem law_go {p : Program} {e : Env} {s : State} {m : MethodId} {below : List Frame} {meth : Method} {c : Code} (l : Launch) {b L : Nat} {xs : Nat → Int32} (hL : L ≤ 2560) (C0 : lw_At p s m meth c b L xs) {D : va_G} {tc : Nat → ClassId} (hK : va_K D vwCl (TY tc) s) {H : Heap} {locs : List Loc} {la : Array Slot} (hP : va_P D vwCl (wm tc (sg s.heap.size) 0 hSeg) H) (hS : va_S (fun q => s.heap.size ≤ q) s.heap H locs) (hl : lv_has la 4 [(3, .int (nI 0)), (0, .ref b), (1, .ref s.heap.size), (2, .ref (s.heap.size + 70))]) :
    W p l e room_1 s m #[Value.ref b] below meth c H locs 600000 7302250 (lw_Z below #[Value.ref b] s) (F0 m 18 la []) := by
  obtain ⟨hx, hb, hr, hml, hown, hts, hX, hbl, hlocks, hgv⟩ := id C0
  have hown : s.vm.findClass RL = some m.cls := hown
  have hT : ∀ w ∈ TB, w.before #[Value.ref b] s = true := fun w hw => hts w (TB_tl hw)
  obtain ⟨fv, X, hF, hRO⟩ := start_R (A := fun q => s.heap.size ≤ q) hts hgv (fun a h z => by have z : s.heap.size ≤ a := z; omega)
  obtain ⟨X1, hX1⟩ : ∃ X1 : Nat → Nat, X1 = fun i => if i = 1200 then b else X i := ⟨_, rfl⟩
  have e12 : X1 1200 = b := by rw [hX1]; rfl
  have R0 : RO (XR fv) (adL s.heap.size X1) (fun q => s.heap.size ≤ q) s s.heap := hRO _ fun i h1 h2 => by
    rw [adL_far _ _ (by omega), hX1]
    exact if_neg (by omega)
  have a12 : adL s.heap.size X1 1200 = b := by rw [adL_far _ _ (by decide)]; exact e12
  have R1 : RO (XL fv L xs) (adL s.heap.size X1) (fun q => s.heap.size ≤ q) s s.heap := by
    refine ⟨R0.1, R0.2.1, List.forall_mem_cons.mpr ⟨?_, R0.2.2.1⟩, R0.2.2.2⟩
    show va_T .int (adL s.heap.size X1 1200) L (fun j => .int (xs j)) _ s s.heap
    rw [a12]
    exact script_T hX (fun z => by have z : s.heap.size ≤ b := z; omega)
  have R2 := R1.narrow (B := AA (adL s.heap.size X1) 80) fun q z => adL_AA z
  have C : CX p s m #[Value.ref b] c vwCl D tc (adL s.heap.size X1) 80 4 cL_law RL TB (XL fv L xs) := ⟨hx, hb, hml, hown, hT, hK, adL_inj _ _, R2⟩
  have hret : RetOK p l e room_1 s m #[Value.ref b] below meth c 600000 7302250 (lw_Z below #[Value.ref b] s) vwCl D tc (adL s.heap.size X1) 80 cL_law (some .boolean) RTL := by
    intro pc h H locs la h1 h2 h3
    refine ⟨fun x hd _ hq => ?_, fun x _ ht _ => (by cases ht), fun x n _ ht _ => (by cases ht), fun _ ht _ => (by cases ht)⟩
    have hq : some (Value.int x) = some (Value.int 1) := hq
    cases hq
    exact va_forget (fun q hq => adL_AA (h3.2.2 q hq)) (lw_ret hx hb hr hlocks hd)
  have hrun : RunL l fv L xs (WW p l e room_1 s m #[Value.ref b] below meth c 600000 7302250 (lw_Z below #[Value.ref b] s) vwCl D tc (adL s.heap.size X1) 80 4) := runs_of C (tab_Ls hF) (Nat.le_of_ble_eq_true rfl) (Nat.le_of_ble_eq_true rfl) ⟨Nat.le_refl _, Nat.le_refl _⟩ hret okL_law
  have go := lw_loop hF hrun hL 513 0 us0 ms0 0 (by omega) (by omega) (Nat.le_refl _) rel0
  refine va_forget (fun q hq => hS.2.2 q hq) ?_
  refine go H [] la (len_L _ _) (place0 X1 hP) ⟨hS.1, fun q h1 _ => hS.2.1 q h1 (by show ¬ s.heap.size ≤ q; omega), fun q hq => absurd hq List.not_mem_nil⟩ ?_
  have e0 : lc (adL s.heap.size X1) (LVi (5 * 0)) = [(3, .int (nI 0)), (0, .ref b), (1, .ref s.heap.size), (2, .ref (s.heap.size + 70))] := by
    show [(3, Value.int (nI 0)), (0, Value.ref (adL s.heap.size X1 1200)), (1, Value.ref (s.heap.size + 0)), (2, Value.ref (s.heap.size + 70))] = _
    rw [a12]
    rfl
  rw [e0]
  exact hl
set_option maxHeartbeats 4000000 in
set_option maxRecDepth 100000 in
theorem whole_start {p : Program} {e : Env} {s : State} {m : MethodId} {below : List Frame} {meth : Method} {c : Code} (l : Launch) (hflags : l.flags = flags0) {b L : Nat} {xs : Nat → Int32} (hL : L ≤ 2560) (C0 : lw_At p s m meth c b L xs) : W p l e room_1 s m #[Value.ref b] below meth c s.heap [] 0 0 (lw_Z below #[Value.ref b] s) (entryFrame m ([Value.ref b] : List Value).toArray 4) := by
  obtain ⟨hx, hb, hr, hml, hown, hts, hX, hbl, hlocks, hgv⟩ := id C0
  have hown : s.vm.findClass RL = some m.cls := hown
  have hT : ∀ w ∈ TB, w.before #[Value.ref b] s = true := fun w hw => hts w (TB_tl hw)
  obtain ⟨D, tc, hK⟩ := start_K hts
  have hXW := start_X hts
  have hl := lv_entry ([.ref b]) (n := 4) (Nat.le_of_ble_eq_true rfl)
  rw [lg_entry_eq]
  generalize (lg_sl ([.ref b]) ++ List.replicate (4 - (lg_sl ([.ref b])).length) Slot.unset).toArray = la at hl ⊢
  have hl : lv_has la 4 [(0, .ref b)] := hl
  have hS0 : va_S (fun q => s.heap.size ≤ q) s.heap s.heap [] := va_S.rf
  have hP0 : va_P D vwCl (wm tc (sg s.heap.size) 0 []) s.heap := fun k q h => by simp [wm] at h
  refine va_new (ci := 11) (fs := [.null, .null, .null, .null, .null, .null, .int 0, .null]) (C := RX11) (T := TX11) (N := 8) hx hb hT (cls_ok 11 RX11 TX11 8 rfl).1 tyX11 tyX11_ok hown (hT _ y_0) (hT _ y_1) (hT _ y_2) hK hP0 seg_D hS0 (fun q z => z) rfl (fun j hj => by rcases (show j = 0 ∨ j = 1 ∨ j = 2 ∨ j = 3 ∨ j = 4 ∨ j = 5 ∨ j = 6 ∨ j = 7 by omega) with rfl | rfl | rfl | rfl | rfl | rfl | rfl | rfl <;> rfl) (Nat.le_of_ble_eq_true rfl) (Nat.le_of_ble_eq_true rfl) dL_law_0 (fun q H hP hD hS => ?_)
  refine W_sz fun hz => ?_
  have hq := seg_new (n := s.heap.size) hP hD (Nat.le_add_right _ _) (by omega)
  have hq : q = s.heap.size := hq
  subst hq
  refine lv_dup hx hb dL_law_3 rfl ?_
  have hsz : H.size = s.heap.size + 1 := by
    have := (hP 0 _ rfl).lt
    have this : s.heap.size < H.size := this
    omega
  refine ctor_W (ias := []) (rest := [.ref s.heap.size]) (b0 := s.heap.size) hx hb hml hown hT hK hXW (n_X11_init l) mt_X11_init cw_X11_init rfl y_4 y_2 nmh_X11 rfl (Or.inl y_3) ⟨Nat.le_of_ble_eq_true rfl, Nat.le_of_ble_eq_true rfl⟩ ⟨Nat.le_of_ble_eq_true rfl, Nat.le_of_ble_eq_true rfl⟩ hl.1 (Nat.le_of_ble_eq_true rfl) dL_law_4 hP hsz (fun H1 L1 hP1 hz1 hk1 hL1 => ?_)
  have hS1 : va_S (fun q => s.heap.size ≤ q) s.heap H1 L1 := ⟨by omega, fun q h1 h2 => by rw [hk1 q h1]; exact hS.2.1 q h1 h2, hL1⟩
  refine lv_astore_n (lv' := [(1, .ref s.heap.size), (0, .ref b)]) hx hb dL_law_7 rfl hl (by decide) rfl (fun la hl => ?_)
  refine va_new (ci := 12) (fs := [.int 0, .null, .null, .null, .int 0, .int 0, .int 0, .int 0, .int 0, .int 0, .null, .null, .null, .null, .int 0, .null, .null, .int 0, .int 0, .int 0, .int 0]) (C := RX12) (T := TX12) (N := 21) hx hb hT (cls_ok 12 RX12 TX12 21 rfl).1 tyX12 tyX12_ok hown (hT _ y_5) (hT _ y_6) (hT _ y_7) hK hP1 seg_D hS1 (fun q z => z) rfl (fun j hj => by rcases (show j = 0 ∨ j = 1 ∨ j = 2 ∨ j = 3 ∨ j = 4 ∨ j = 5 ∨ j = 6 ∨ j = 7 ∨ j = 8 ∨ j = 9 ∨ j = 10 ∨ j = 11 ∨ j = 12 ∨ j = 13 ∨ j = 14 ∨ j = 15 ∨ j = 16 ∨ j = 17 ∨ j = 18 ∨ j = 19 ∨ j = 20 by omega) with rfl | rfl | rfl | rfl | rfl | rfl | rfl | rfl | rfl | rfl | rfl | rfl | rfl | rfl | rfl | rfl | rfl | rfl | rfl | rfl | rfl <;> rfl) (Nat.le_of_ble_eq_true rfl) (Nat.le_of_ble_eq_true rfl) dL_law_8 (fun q H2 hP2 hD2 hS2 => ?_)
  refine W_sz fun hz2 => ?_
  have l11 := lenX11
  have l12 := lenX12
  have hq := seg_new (n := s.heap.size + 70) hP2 hD2 (by omega) (by omega)
  rw [l11] at hq
  subst hq
  refine lv_dup hx hb dL_law_11 rfl ?_
  have hlast : va_P D vwCl [(s.heap.size + 70, ce tc (sg (s.heap.size + 70)) (.inr (12, [.int 0, .null, .null, .null, .int 0, .int 0, .int 0, .int 0, .int 0, .int 0, .null, .null, .null, .null, .int 0, .null, .null, .int 0, .int 0, .int 0, .int 0])))] H2 := fun k q hq => hP2 (70 + k) q (by
    rw [List.getElem?_append_right (by rw [wm_len]; omega), wm_len, l11, Nat.add_sub_cancel_left]
    exact hq)
  have hpre : va_P D vwCl (wm tc (sg s.heap.size) 0 hn_X11_init) H2 := fun k q hq => hP2 k q (by
    rw [List.getElem?_append_left (List.getElem?_eq_some_iff.mp hq).1]
    exact hq)
  have hsz2 : H2.size = s.heap.size + 70 + 1 := by
    have := (hlast 0 _ rfl).lt
    have this : s.heap.size + 70 < H2.size := this
    omega
  refine ctor_W (ias := []) (rest := [.ref (s.heap.size + 70)]) (b0 := s.heap.size + 70) hx hb hml hown hT hK hXW (n_X12_init l) mt_X12_init cw_X12_init rfl y_9 y_7 nmh_X12 rfl (Or.inl y_8) ⟨Nat.le_of_ble_eq_true rfl, Nat.le_of_ble_eq_true rfl⟩ ⟨Nat.le_of_ble_eq_true rfl, Nat.le_of_ble_eq_true rfl⟩ hl.1 (Nat.le_of_ble_eq_true rfl) dL_law_12 hlast hsz2 (fun H3 L3 hP3 hz3 hk3 hL3 => ?_)
  refine lv_astore_n (lv' := [(2, .ref (s.heap.size + 70)), (1, .ref s.heap.size), (0, .ref b)]) hx hb dL_law_15 rfl hl (by decide) rfl (fun la hl => ?_)
  refine lv_iconst (v := nI 0) hx hb dL_law_16 (by decide) ?_
  refine lv_istore_n (lv' := [(3, .int (nI 0)), (2, .ref (s.heap.size + 70)), (1, .ref s.heap.size), (0, .ref b)]) hx hb dL_law_17 rfl hl (by decide) rfl (fun la hl => ?_)
  refine W.widen (k := 600000) (n := 7302250) (Nat.le_of_ble_eq_true rfl) (Nat.le_of_ble_eq_true rfl) ?_
  refine law_go l hL C0 hK ?_ ⟨Nat.le_trans hS2.1 hz3, fun q h1 h2 => by rw [hk3 q (by omega)]; exact hS2.2.1 q h1 h2, fun q hq => ?_⟩ (lv_sub hl [0, 3, 2, 1] rfl)
  · have hP3' : va_P D vwCl (wm tc (sg (s.heap.size + hn_X11_init.length)) 0 hn_X12_init) H3 := by rw [l11]; exact hP3
    have z := seg_join hpre hP3' (fun q hq => hk3 q (by omega))
    rw [l11] at z
    exact z
  · rcases List.mem_append.mp hq with g | g
    · exact hS2.2.2 q g
    · have := hL3 q g
      show s.heap.size ≤ q.base
      omega

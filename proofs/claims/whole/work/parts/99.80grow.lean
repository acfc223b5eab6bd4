/-! constructors: a world that grows, its cells side by side in the heap from b on -/
def sg (b : Nat) : Nat → Nat := fun i => b + i
def csz : AE → Nat
  | .inl (_, n, _) => n
  | .inr (_, fs) => fs.length
def wsz : List AE → Nat
  | [] => 0
  | c :: t => csz c + wsz t
theorem wsz_app : ∀ (a b : List AE), wsz (a ++ b) = wsz a + wsz b
  | [], b => by show wsz b = 0 + wsz b; rw [Nat.zero_add]
  | c :: t, b => by show csz c + wsz (t ++ b) = csz c + wsz t + wsz b; rw [wsz_app t b, Nat.add_assoc]
theorem wsz_set : ∀ (h : List AE) (i : Nat) (c c' : AE), h[i]? = some c → csz c' = csz c → wsz (h.set i c') = wsz h
  | [], i, c, c', h, _ => by simp at h
  | d :: t, 0, c, c', h, e => by
    have : d = c := by simpa using h
    subst this
    show csz c' + wsz t = csz d + wsz t
    rw [e]
  | d :: t, i + 1, c, c', h, e => by
    show csz d + wsz (t.set i c') = csz d + wsz t
    rw [wsz_set t i c c' (by simpa using h) e]
def sh_v (n : Nat) : Value → Value
  | .ref i => .ref (n + i)
  | v => v
def shc (n : Nat) : AE → AE
  | .inl (t, k, .inr (.inr (.inr (.inr f)))) => .inl (t, k, .inr (.inr (.inr (.inr (fun j => (f j).map (fun i => n + i))))))
  | .inl a => .inl a
  | .inr (ci, fs) => .inr (ci, fs.map (sh_v n))
theorem cv_sh (b n : Nat) (v : Value) : cv (sg b) (sh_v n v) = cv (sg (b + n)) v := by
  cases v <;> try rfl
  case ref i => show Value.ref (b + (n + i)) = Value.ref (b + n + i); rw [Nat.add_assoc]
theorem ce_sh (tc : Nat → ClassId) (b n : Nat) (c : AE) : ce tc (sg b) (shc n c) = ce tc (sg (b + n)) c := by
  rcases c with ⟨t, k, x⟩ | ⟨ci, fs⟩
  · match x with
    | .inl f => rfl
    | .inr (.inl f) => rfl
    | .inr (.inr (.inl f)) => rfl
    | .inr (.inr (.inr (.inl f))) => rfl
    | .inr (.inr (.inr (.inr f))) =>
      refine congrArg (fun g : Nat → Option Nat => (Sum.inl (tc t, k, Sum.inr (Sum.inr (Sum.inr (Sum.inr g)))) : va_E)) (funext fun j => ?_)
      show ((f j).map (fun i => n + i)).map (sg b) = (f j).map (sg (b + n))
      cases f j with
      | none => rfl
      | some i => show some (b + (n + i)) = some (b + n + i); rw [Nat.add_assoc]
  · show Sum.inr (ci, (fs.map (sh_v n)).map (cv (sg b))) = Sum.inr (ci, fs.map (cv (sg (b + n))))
    rw [List.map_map]
    congr 2
    apply List.map_congr_left
    intro v _
    exact cv_sh b n v
theorem csz_sh (n : Nat) (c : AE) : csz (shc n c) = csz c := by
  rcases c with ⟨t, k, x⟩ | ⟨ci, fs⟩
  · match x with
    | .inl f => rfl
    | .inr (.inl f) => rfl
    | .inr (.inr (.inl f)) => rfl
    | .inr (.inr (.inr (.inl f))) => rfl
    | .inr (.inr (.inr (.inr f))) => rfl
  · show (fs.map (sh_v n)).length = fs.length
    rw [List.length_map]
theorem wsz_sh (n : Nat) : ∀ h : List AE, wsz (h.map (shc n)) = wsz h
  | [] => rfl
  | c :: t => by show csz (shc n c) + wsz (t.map (shc n)) = csz c + wsz t; rw [csz_sh, wsz_sh n t]
theorem wm_sh (tc : Nat → ClassId) (b n : Nat) : ∀ (h : List AE) (k : Nat), wm tc (sg b) (n + k) (h.map (shc n)) = wm tc (sg (b + n)) k h
  | [], k => rfl
  | c :: t, k => by
    show (b + (n + k), ce tc (sg b) (shc n c)) :: wm tc (sg b) (n + (k + 1)) (t.map (shc n)) = (b + n + k, ce tc (sg (b + n)) c) :: wm tc (sg (b + n)) (k + 1) t
    rw [ce_sh, wm_sh tc b n t (k + 1), Nat.add_assoc]
theorem wm_app (tc : Nat → ClassId) (ad : Nat → Nat) : ∀ (a c : List AE) (k : Nat), wm tc ad k (a ++ c) = wm tc ad k a ++ wm tc ad (k + a.length) c
  | [], c, k => rfl
  | d :: t, c, k => by
    show (ad k, ce tc ad d) :: wm tc ad (k + 1) (t ++ c) = (ad k, ce tc ad d) :: (wm tc ad (k + 1) t ++ wm tc ad (k + (t.length + 1)) c)
    rw [wm_app tc ad t c (k + 1), show k + 1 + t.length = k + (t.length + 1) by omega]
theorem seg_D {tc : Nat → ClassId} {b : Nat} {h : List AE} : va_D (fun q => b ≤ q) (wm tc (sg b) 0 h) := by
  refine (wm_D (N := h.length) rfl (fun i j _ _ e => ?_)).weaken fun k q _ z => ?_
  · have e : b + i = b + j := e
    omega
  · obtain ⟨i, _, e⟩ := z
    have e : q.1 = b + i := e
    omega
def kindsU : List String := [RX3, RX2, RX0, RX5, RX6, RX9]
/-- what else a constructor needs of the tables -/
def XW (s : State) : Prop := (∀ w ∈ nestW, va_Nw w s) ∧ (∀ C ∈ kindsU, va_Nw (.castable C RX10) s) ∧ va_AO RX4 s ∧ va_AO RX10 s
theorem nest_is {w : Cond} (h : w ∈ nestW) : w_nest w := (XR_ok (Or.inl rfl : FV .null)).2.2.2.2.2 w h
theorem XW.warm {s U : State} (hW : s.WarmedH U.vm) (h : XW s) : XW U := by
  refine ⟨fun w m => ?_, fun C m => va_Nw.warmC hW (h.2.1 C m), va_AO.moved hW.alike h.2.2.1, va_AO.moved hW.alike h.2.2.2⟩
  have hn := nest_is m
  have hw := h.1 w m
  cases w with
  | fieldLinkNest a b c d e f => exact va_Nw.warmF hW hw
  | methodLinkNest a b c d => exact va_Nw.warmM hW hw
  | _ => exact hn.elim
theorem XW.same {u U : State} (hv : u.vm = U.vm) (h : XW u) : XW U := by
  have hA : u.vm.Alike U.vm := by rw [hv]; exact Vm.Alike.refl U.vm
  refine ⟨fun w m => ?_, fun C m => va_Nw.same rfl hv (h.2.1 C m), va_AO.moved hA h.2.2.1, va_AO.moved hA h.2.2.2⟩
  have hn := nest_is m
  have hw := h.1 w m
  cases w with
  | fieldLinkNest a b c d e f => exact va_Nw.same rfl hv hw
  | methodLinkNest a b c d => exact va_Nw.same rfl hv hw
  | _ => exact hn.elim
def rmN (d mc ms : Nat) : Room := { frames := d, cells := mc, slots := ms, locals := 60 * d }
/-- the contract of constructor j: the object c0 becomes the world h1 -/
def NC (l : Launch) (j : Nat) (ias : List Value) (c0 : AE) (h1 : List AE) (d : Nat) : Prop :=
  ∀ (D : va_G) (tc : Nat → ClassId) (b : Nat), Met l (mt j).1 (cdOf mt j :: TB) (rmN d (h1.length - 1) (wsz h1 - csz c0)) (va_Pc (.ref b :: ias) (fun U => U.heap.size = b + 1 ∧ va_P D vwCl [(b, ce tc (sg b) c0)] U.heap ∧ va_K D vwCl (TY tc) U ∧ XW U))
    (fun _ st o t => (o = .returned none ∧ va_P D vwCl (wm tc (sg b) 0 h1) t.heap) ∧ va_F (fun q => b ≤ q) st t) (h1.length - 1) (wsz h1 - csz c0) (fun q => b ≤ q)
section GR
variable {p : Program} {l : Launch} {e : Env} {R : Room} {s : State} {m : MethodId} {args : Array Value} {below : List Frame} {meth : Method} {c : Code} {Q : State → Prop}
variable {D : va_G} {tc : Nat → ClassId} {b w0 nL d mc ms : Nat} {cc : ByteArray} {own : String} {h1 : List AE}
theorem W_sz {H : Heap} {locs : List Loc} {cells slots : Nat} {g : JFrame} (kk : H.size ≤ s.heap.size + cells → W p l e R s m args below meth c H locs cells slots Q g) : W p l e R s m args below meth c H locs cells slots Q g := fun T hT X => kk (by
  have h := X.same.2.2.1
  subst hT
  exact h) T hT X
/-- a constructor, called on the object that was made last -/
theorem ctor_W (hx : p.tables.exec = Jvm.exec) (hb : c.code = cc) (hml : c.maxLocals = nL) (hown : s.vm.findClass own = some m.cls) (hts : ∀ w ∈ TB, w.before args s = true) (hK : va_K D vwCl (TY tc) s) (hXW : XW s)
    {j d1 ix maxL pc b0 cells slots : Nat} {ias rest : List Value} {c0 : AE} {h2 : List AE} {y : MethodName} {bytes : ByteArray} {H : Heap} {locs : List Loc} {la : Array Slot} (hN : NC l j ias c0 h2 d1) (hmt : mt j = (y, bytes, maxL, none)) (hm : Cond.code y bytes maxL none ∈ TB) (hy : y.name = "<init>") (hin : Cond.instanceMethod y ∈ TB) (hini : Cond.initialized y.cls ∈ TB) (hmh : notMH y.cls) (har : arOK ias.length y)
    (hlk : Cond.methodLink own ix y ∈ TB ∨ ∃ host, Cond.methodLinkNest own ix y host ∈ nestW) (hR : d1 + 1 ≤ R.frames ∧ 8 + (maxL + 11) + 60 * d1 ≤ R.locals) (hcs : cells + (h2.length - 1) ≤ R.cells ∧ slots + (wsz h2 - csz c0) ≤ R.slots) (hla : la.size = nL) (hcat : (rest.map fun v => v.category).sum ≤ 8) (hdg : decode cc pc = .ok (.invokespecial ix, 3))
    (hP : va_P D vwCl [(b0, ce tc (sg b0) c0)] H) (hz : H.size = b0 + 1)
    (kk : ∀ (H1 : Heap) (L : List Loc), va_P D vwCl (wm tc (sg b0) 0 h2) H1 → H.size ≤ H1.size → (∀ q, q < b0 → H1[q]? = H[q]?) → (∀ q ∈ L, b0 ≤ q.base) → W p l e R s m args below meth c H1 (locs ++ L) (cells + (h2.length - 1)) (slots + (wsz h2 - csz c0)) Q (F0 m (pc + 3) la rest)) :
    W p l e R s m args below meth c H locs cells slots Q (F0 m pc la (ias.reverse ++ .ref b0 :: rest)) := by
  have e1 : (mt j).1 = y := by rw [hmt]
  have e2 : cdOf mt j = Cond.code y bytes maxL none := by unfold cdOf; rw [hmt]
  have hM := hN D tc b0
  rw [e1, e2] at hM
  have hfix : CallFix p m c cc nL s args TB own := ⟨hx, hb, hml, hown, hts⟩
  have hG : GoodIn TB (Cond.code y bytes maxL none :: TB) := good_of TB_ok (fun _ z => z) (fun w hw => by
    rcases List.mem_cons.mp hw with rfl | hw
    · exact hm
    · exact hw)
  have hpre : PreS s H (va_Pc (.ref b0 :: ias) (fun U => U.heap.size = b0 + 1 ∧ va_P D vwCl [(b0, ce tc (sg b0) c0)] U.heap ∧ va_K D vwCl (TY tc) U ∧ XW U)) (.ref b0 :: ias) :=
    ⟨fun a U g mk q => by
      obtain ⟨q0, q1, q2, q3, q4⟩ := q
      exact ⟨q0, q1, q2, va_K.moved (u := U) (U := U.calling g mk a) (Vm.Alike.refl U.vm) q3, XW.same (u := U) (U := U.calling g mk a) rfl q4⟩,
     fun U hU hW => ⟨rfl, by rw [hU]; exact hz, by rw [hU]; exact hP, va_K.moved hW.alike hK, hXW.warm hW⟩⟩
  have hrun : va_Run p l e R s m args below meth c H locs cells slots (h2.length - 1) (wsz h2 - csz c0) (F0 m pc la (ias.reverse ++ .ref b0 :: rest)) rest ((fun _ st o t => (o = .returned none ∧ va_P D vwCl (wm tc (sg b0) 0 h2) t.heap) ∧ va_F (fun q => b0 ≤ q) st t) (Value.ref b0 :: ias).toArray) (fun q => b0 ≤ q) := by
    rcases hlk with hlk | ⟨host, hlk⟩
    · exact va_runI (index := ix) (n := ias.length) (bytes := bytes) (maxL := maxL) hfix hM (cwI ias.length hts hG rfl rfl rfl (hts _ hini) (hts _ hlk) (hts _ hin) hy ⟨hmh.1, hmh.2, har⟩ hR) hpre rfl rfl hla rfl (lv_room hcat) hdg hcs
    · exact va_runIN (index := ix) (n := ias.length) (bytes := bytes) (maxL := maxL) (host := host) hfix hM ⟨va_cnB ias.length hts hG rfl rfl rfl (hXW.1 _ hlk) (hts _ hini) ⟨hmh.1, hmh.2, har⟩ hR, hy, hts _ hin⟩ hpre rfl rfl hla rfl (lv_room hcat) hdg hcs
  intro T hT X9
  obtain ⟨v, st₀, t, T', L, h0', X', hL, g1, g2, ⟨⟨hv, hp⟩, hz2, hk⟩, st⟩ := hrun T hT X9
  cases hv
  rw [h0'] at hz2 hk
  obtain ⟨t2, a1, b1⟩ := kk T'.heap L (by rw [g1]; exact hp) (by rw [g1]; exact hz2) (fun q hq => by rw [g1]; exact hk q (by omega) (by show ¬ b0 ≤ q; omega)) hL T' rfl X'
  exact ⟨t2, st t2 a1, b1⟩
/-- a place of a constructor's walk -/
def GW (p : Program) (l : Launch) (e : Env) (R : Room) (s : State) (m : MethodId) (args : Array Value) (below : List Frame) (meth : Method) (c : Code) (Q : State → Prop) (D : va_G) (tc : Nat → ClassId) (b w0 nL : Nat) : JP := fun pc ls st h =>
  ∀ (H : Heap) (locs : List Loc) (la : Array Slot), 1 ≤ h.length → w0 ≤ wsz h → va_P D vwCl (wm tc (sg b) 0 h) H → va_S (fun q => b ≤ q) s.heap H locs → lv_has la nL (lc (sg b) ls) → W p l e R s m args below meth c H locs (h.length - 1) (wsz h - w0) Q (F0 m pc la (st.map (cv (sg b))))
/-- what holds through a constructor's walk -/
def GC (p : Program) (l : Launch) (e : Env) (R : Room) (s : State) (m : MethodId) (args : Array Value) (below : List Frame) (meth : Method) (c : Code) (Q : State → Prop) (D : va_G) (tc : Nat → ClassId) (cc : ByteArray) (own : String) (b w0 nL d mc ms : Nat) (h1 : List AE) : Prop :=
  (p.tables.exec = Jvm.exec ∧ c.code = cc ∧ c.maxLocals = nL ∧ s.vm.findClass own = some m.cls ∧ (∀ w ∈ TB, w.before args s = true) ∧ va_K D vwCl (TY tc) s ∧ XW s) ∧ meth.name = "<init>" ∧ b + 1 = s.heap.size ∧ (d ≤ R.frames ∧ 60 * d ≤ R.locals ∧ mc ≤ R.cells ∧ ms ≤ R.slots) ∧
  ∀ (pc : Nat) (la : Array Slot) (H : Heap) (locs : List Loc), decode cc pc = .ok (.return_, 1) → va_P D vwCl (wm tc (sg b) 0 h1) H → va_S (fun q => b ≤ q) s.heap H locs → W p l e R s m args below meth c H locs (h1.length - 1) (wsz h1 - w0) Q (F0 m pc la [])
theorem NC_of {j : Nat} {ias : List Value} {c0 : AE} {y : MethodName} (hmt : mt j = (y, cc, nL, none)) (hy : plainName y.cls = true) (hnm : y.name = "<init>") (hin : x_cat ias + 1 ≤ nL) (hi : ∀ f, ias.map (cv f) = ias)
    (body : ∀ {p : Program} {e : Env} {R : Room} {s : State} {m : MethodId} {args : Array Value} {below : List Frame} {meth : Method} {c : Code} {Q : State → Prop} {D : va_G} {tc : Nat → ClassId} {b : Nat}, GC p l e R s m args below meth c Q D tc cc y.cls b (csz c0) nL d (h1.length - 1) (wsz h1 - csz c0) h1 → GW p l e R s m args below meth c Q D tc b (csz c0) nL 0 (lv_args 0 (.ref 0 :: ias)) [] [c0]) : NC l j ias c0 h1 d := by
  intro D tc b
  have e1 : (mt j).1 = y := by rw [hmt]
  have e2 : cdOf mt j = Cond.code y cc nL none := by unfold cdOf; rw [hmt]
  rw [e1, e2]
  refine Met.ofW (cc := cc) (maxL := nL) (ret := none) hy rfl ?_
  intro p e s m args below meth c s₁ B hml hv
  obtain ⟨rfl, hz, hP, hK, hX⟩ := hv
  have hts := atoms_spec (ws := Cond.code y cc nL none :: TB) B.pre
  have hown : s.vm.findClass y.cls = some m.cls := findClass_of_methodNamed B.named
  have hr := B.returns
  have hx := B.exec
  have hb := B.bytes
  have hlocks := B.notSynchronized
  have hin2 : meth.name = y.name := (name_of_methodNamed B.named B.method).1
  have G0 : GC p l e (headSpec (Cond.code y cc nL none :: TB) (rmN d (h1.length - 1) (wsz h1 - csz c0))).room s m (Value.ref b :: ias).toArray below meth c (MQ below (fun _ st o t => (o = .returned none ∧ va_P D vwCl (wm tc (sg b) 0 h1) t.heap) ∧ va_F (fun q => b ≤ q) st t) (Value.ref b :: ias).toArray s (h1.length - 1) (wsz h1 - csz c0) (fun q => b ≤ q)) D tc cc y.cls b (csz c0) nL d (h1.length - 1) (wsz h1 - csz c0) h1 := by
    refine ⟨⟨hx, hb, hml, hown, fun w hw => hts w (List.mem_cons_of_mem _ hw), hK, hX⟩, hin2.trans hnm, hz.symm, ⟨Nat.le_refl _, Nat.le_refl _, Nat.le_refl _, Nat.le_refl _⟩, fun pc la H locs hd hp hS => ?_⟩
    exact W.vret hx hb hr (fun t e9 _ => ⟨⟨rfl, by rw [e9]; exact hp⟩, hS.F e9⟩) hS.2.2 hd
  have hl := lv_entry ((Value.ref 0 :: ias).map (cv (sg b))) (n := nL) (by rw [sl_cv]; show 1 + x_cat ias ≤ nL; omega)
  rw [args_cv] at hl
  rw [lg_entry_eq]
  have e3 : (Value.ref 0 :: ias).map (cv (sg b)) = Value.ref b :: ias := by
    show Value.ref (b + 0) :: ias.map (cv (sg b)) = _
    rw [hi]; rfl
  rw [e3] at hl
  have g := body G0 s.heap [] _ (Nat.le_refl 1) (Nat.le_refl _) hP va_S.rf hl
  have e4 : wsz [c0] - csz c0 = 0 := by show csz c0 + 0 - csz c0 = 0; omega
  rw [e4] at g
  exact g
end GR

/-! the abstract machine is right: calls -/
theorem w_back_get : ∀ (em : List Nat) (cs h : List AE), em.Nodup → em.length = cs.length → (∀ i ∈ em, i < h.length) → (w_back h em cs).length = h.length ∧ ∀ (k : Nat) (c : AE), (w_back h em cs)[k]? = some c → (∃ i : Nat, em[i]? = some k ∧ cs[i]? = some c) ∨ (k ∉ em ∧ h[k]? = some c)
  | [], cs, h, _, _, _ => by
    refine ⟨by cases cs <;> rfl, fun k c hc => Or.inr ⟨List.not_mem_nil, ?_⟩⟩
    cases cs <;> exact hc
  | i :: em, [], h, _, hl, _ => by simp at hl
  | i :: em, c0 :: cs, h, hn, hl, hb => by
    obtain ⟨hn1, hn2⟩ := List.nodup_cons.mp hn
    have hb0 := hb i List.mem_cons_self
    obtain ⟨e1, e2⟩ := w_back_get em cs (h.set i c0) hn2 (by simpa using hl) (fun j hj => by rw [List.length_set]; exact hb j (List.mem_cons_of_mem _ hj))
    refine ⟨by rw [w_back, e1, List.length_set], fun k c hc => ?_⟩
    rw [w_back] at hc
    rcases e2 k c hc with ⟨j, h1, h2⟩ | ⟨h1, h2⟩
    · exact Or.inl ⟨j + 1, by simpa using h1, by simpa using h2⟩
    · by_cases hk : k = i
      · subst hk
        rw [List.getElem?_set_self hb0] at h2
        exact Or.inl ⟨0, rfl, by simpa using h2⟩
      · rw [List.getElem?_set_ne (Ne.symm hk)] at h2
        exact Or.inr ⟨fun z => (List.mem_cons.mp z).elim hk h1, h2⟩
theorem cv_r (ad : Nat → Nat) (em : List Nat) (v : Value) : cv ad (r_v em v) = cv (fun i => ad (r_n em i)) v := by cases v <;> rfl
theorem ce_r (tc : Nat → ClassId) (ad : Nat → Nat) (em : List Nat) (c : AE) : ce tc ad (r_e em c) = ce tc (fun i => ad (r_n em i)) c := by
  rcases c with ⟨t, n, x⟩ | ⟨ci, fs⟩
  · match x with
    | .inl f => rfl
    | .inr (.inl f) => rfl
    | .inr (.inr (.inl f)) => rfl
    | .inr (.inr (.inr (.inl f))) => rfl
    | .inr (.inr (.inr (.inr f))) =>
      refine congrArg (fun g : Nat → Option Nat => (Sum.inl (tc t, n, Sum.inr (Sum.inr (Sum.inr (Sum.inr g)))) : va_E)) (funext fun j => ?_)
      show ((f j).map (r_n em)).map ad = (f j).map (fun i => ad (r_n em i))
      cases f j <;> rfl
  · show Sum.inr (ci, (fs.map (r_v em)).map (cv ad)) = Sum.inr (ci, fs.map (cv (fun i => ad (r_n em i))))
    rw [List.map_map]
    congr 2
    apply List.map_congr_left
    intro v _
    exact cv_r ad em v
section SN3
variable {p : Program} {l : Launch} {e : Env} {R : Room} {s : State} {m : MethodId} {args : Array Value} {below : List Frame} {meth : Method} {c : Code} {cells slots : Nat} {Q : State → Prop}
variable {cl : List vw_C} {D : va_G} {tc : Nat → ClassId} {ad : Nat → Nat} {N nL : Nat} {cc : ByteArray} {own : String} {Ts TB : List Cond} {X : RoT} {P : Pool} {d : Nat} {ty : Option FieldType} {RT : RP}
def W_in (cl : List vw_C) (X : RoT) (D : va_G) (tc : Nat → ClassId) (ad : Nat → Nat) (h : List AE) (U : State) : Prop :=
  va_P D cl (wm tc ad 0 h) U.heap ∧ va_K D cl (TY tc) U ∧ INJ ad h.length ∧ RO X ad (AA ad h.length) U U.heap
def Q_ct (cl : List vw_C) (D : va_G) (tc : Nat → ClassId) (ad : Nat → Nat) (h : List AE) (PP : RP) : Array Value → State → Outcome → State → Prop := fun _ st o t =>
  (∃ r h', o = .returned (r.map (cv ad)) ∧ PP r h' ∧ h'.length = h.length ∧ va_P D cl (wm tc ad 0 h') t.heap) ∧ va_F (AA ad h.length) st t
abbrev MT : Type := Nat → MethodName × ByteArray × Nat × Option FieldType
def cdOf (mt : MT) (j : Nat) : Cond := Cond.code (mt j).1 (mt j).2.1 (mt j).2.2.1 (mt j).2.2.2
def rmOf (d : Nat) : Room := { frames := d, cells := 0, slots := 0, locals := 60 * d }
/-- the contract of method j at rank d -/
def CTof (l : Launch) (TB : List Cond) (mt : MT) (cl : List vw_C) (X : RoT) : CTP := fun d j as h PP =>
  ∀ (D : va_G) (tc : Nat → ClassId) (ad : Nat → Nat), Met l (mt j).1 (cdOf mt j :: TB) (rmOf d) (va_Pc (as.map (cv ad)) (W_in cl X D tc ad h)) (Q_ct cl D tc ad h PP) 0 0 (AA ad h.length)
theorem W_in.blind (hX : RoOK X) {as : List Value} {h : List AE} : FrameBlind (va_Pc as (W_in cl X D tc ad h)) := fun a U g mk q => by
  obtain ⟨q0, q1, q2, q3, q4⟩ := q
  refine ⟨q0, q1, va_K.moved (u := U) (U := U.calling g mk a) (Vm.Alike.refl U.vm) q2, q3, ?_⟩
  obtain ⟨h1, h2, h3, h4, h5, h6⟩ := q4
  have hA : U.vm.Alike (U.calling g mk a).vm := Vm.Alike.refl U.vm
  refine ⟨fun q m => va_O.moved hA (h1 q m), fun q m => va_OF.moved hA (h2 q m), fun q m => va_T.moved hA (h3 q m), fun q m => va_Z.moved hA (h4 q m), fun q m => vk_R.same rfl (h5 q m), fun w m => ?_⟩
  have hn := hX.2.2.2.2.2 w m
  have hw := h6 w m
  cases w with
  | fieldLinkNest a b c d e f => exact va_Nw.same rfl rfl hw
  | methodLinkNest a b c d => exact va_Nw.same rfl rfl hw
  | _ => exact hn.elim
theorem call_go {a : Array Value} {pc : Nat} {la : Array Slot} {st0 rest : List Value} {H : Heap} {locs : List Loc} {ad' : Nat → Nat} {h0 : List AE} {PP : RP}
    (hr : va_Run p l e R s m args below meth c H locs cells slots 0 0 (F0 m pc la st0) rest (Q_ct cl D tc ad' h0 PP a) (AA ad' h0.length)) (hS : va_S (AA ad N) s.heap H locs) (hsub : ∀ q, AA ad' h0.length q → AA ad N q)
    (kk : ∀ r h1 H1 locs1, PP r h1 → h1.length = h0.length → va_P D cl (wm tc ad' 0 h1) H1 → H.size ≤ H1.size → (∀ q : Nat, q < H.size → ¬ AA ad' h0.length q → H1[q]? = H[q]?) → va_S (AA ad N) s.heap H1 locs1 → W p l e R s m args below meth c H1 locs1 cells slots Q (F0 m (pc + 3) la ((r.map (cv ad')).toList ++ rest))) :
    W p l e R s m args below meth c H locs cells slots Q (F0 m pc la st0) := by
  intro T hT X9
  obtain ⟨v, st₀, t, T', L, h0', X', hL, e1, e2, ⟨⟨r, h1, hv, hp, hl, hw⟩, hz, hk⟩, st⟩ := hr T hT X9
  cases hv
  rw [h0'] at hz hk
  obtain ⟨t2, a1, b1⟩ := kk r h1 T'.heap (locs ++ L) hp hl (by rw [e1]; exact hw) (by rw [e1]; exact hz) (fun q g1 g2 => by rw [e1]; exact hk q g1 g2)
    ⟨Nat.le_trans hS.1 (by rw [e1]; exact hz), fun q g1 g2 => by rw [e1, hk q (Nat.lt_of_lt_of_le g1 hS.1) (fun z => g2 (hsub q z))]; exact hS.2.1 q g1 g2, fun q hq => by
      rcases List.mem_append.mp hq with g | g
      · exact hS.2.2 q g
      · exact hsub _ (hL q g)⟩ T' rfl X'
  exact ⟨t2, st t2 a1, b1⟩
/-- what a call site must show of its callee, whoever it is -/
def CSite (p : Program) (l : Launch) (e : Env) (R : Room) (s : State) (m : MethodId) (args : Array Value) (below : List Frame) (meth : Method) (c : Code) (cells slots : Nat) (TB : List Cond) (mt : MT) (d j pc : Nat) (H : Heap) (locs : List Loc) (la : Array Slot) (as rest : List Value) (st0 : List Value) : Prop :=
  ∀ (d1 : Nat), d1 < d → ∀ (Pc : Array Value → State → Prop) (Qc : Array Value → State → Outcome → State → Prop) (free : Addr → Prop), Met l (mt j).1 (cdOf mt j :: TB) (rmOf d1) Pc Qc 0 0 free → FrameBlind Pc →
    (∀ U : State, U.heap = H → s.WarmedH U.vm → Pc as.toArray U) → va_Run p l e R s m args below meth c H locs cells slots 0 0 (F0 m pc la st0) rest (Qc as.toArray) free
theorem call_any {mt : MT} (hX : RoOK X) (hK : va_K D cl (TY tc) s) (hI : INJ ad N) (hR : RO X ad (AA ad N) s s.heap) {j pc : Nat} {H : Heap} {locs : List Loc} {la : Array Slot} {as rest st0 : List Value} {h : List AE} {k : Option Value → List AE → Prop}
    (site : CSite p l e R s m args below meth c cells slots TB mt d j pc H locs la (as.map (cv ad)) rest st0)
    (hx : CALL (CTof l TB mt cl X) d j as h k) (h1 : h.length = N) (h2 : va_P D cl (wm tc ad 0 h) H) (h3 : va_S (AA ad N) s.heap H locs)
    (kk : ∀ r h' H1 locs1, k r h' → h'.length = N → va_P D cl (wm tc ad 0 h') H1 → va_S (AA ad N) s.heap H1 locs1 → W p l e R s m args below meth c H1 locs1 cells slots Q (F0 m (pc + 3) la ((r.map (cv ad)).toList ++ rest))) :
    W p l e R s m args below meth c H locs cells slots Q (F0 m pc la st0) := by
  have hro : ∀ U : State, U.heap = H → s.WarmedH U.vm → RO X ad (AA ad N) U U.heap := fun U hU hW => hR.go hX hW (fun a g1 g2 => by rw [hU]; exact h3.2.1 a g1 g2)
  rcases hx with ⟨d1, PP, hd, hct, hgo⟩ | ⟨d1, em, as0, h0, PP, hd, hct, has, hsub, hnd, hle, hgo⟩
  · have hrun := site d1 hd _ _ _ (hct D tc ad) (W_in.blind hX) (fun U hU hW => ⟨rfl, by rw [hU]; exact h2, va_K.moved hW.alike hK, by rw [h1]; exact hI, by rw [h1]; exact hro U hU hW⟩)
    refine call_go hrun h3 (fun q z => by rw [h1] at z; exact z) fun r h' H1 locs1 g1 g2 g3 g4 g5 g6 => ?_
    exact kk r h' H1 locs1 (hgo r h' g1 g2) (by rw [g2, h1]) g3 g6
  · have hlen : em.length = h0.length := by have := congrArg List.length hsub; simpa using this
    have hat : ∀ (i : Nat) (c0 : AE), h0[i]? = some c0 → ∃ q, em[i]? = some q ∧ h[q]? = some (r_e em c0) := by
      intro i c0 hc
      have e9 := congrArg (fun z => z[i]?) hsub
      simp only [List.getElem?_map, hc, Option.map_some] at e9
      cases he : em[i]? with
      | none => rw [he] at e9; simp at e9
      | some q =>
        rw [he] at e9
        simp only [Option.map_some, Option.some.injEq, l_get_eq] at e9
        exact ⟨q, rfl, e9⟩
    have hrn : ∀ (i q : Nat), em[i]? = some q → r_n em i = q := by
      intro i q hq
      unfold r_n
      rw [l_get_eq, hq]
    have hltN : ∀ q, q ∈ em → q < N := by
      intro q hq
      obtain ⟨i, hi⟩ := List.getElem?_of_mem hq
      have hil : i < h0.length := by rw [← hlen]; exact (List.getElem?_eq_some_iff.mp hi).1
      obtain ⟨q', g1, g2⟩ := hat i _ (List.getElem?_eq_getElem hil)
      rw [hi] at g1
      cases g1
      rw [← h1]
      exact (List.getElem?_eq_some_iff.mp g2).1
    have hAA : ∀ q, AA (fun i => ad (r_n em i)) h0.length q → AA ad N q := by
      rintro q ⟨i, hi, rfl⟩
      have hi' : i < em.length := by rw [hlen]; exact hi
      have hq := List.getElem?_eq_getElem hi'
      exact ⟨em[i], hltN _ (List.mem_of_getElem? hq), by show ad (r_n em i) = ad em[i]; rw [hrn i _ hq]⟩
    have hI' : INJ (fun i => ad (r_n em i)) h0.length := by
      intro i j hi hj hij
      have hi' : i < em.length := by rw [hlen]; exact hi
      have hj' : j < em.length := by rw [hlen]; exact hj
      have e1 := List.getElem?_eq_getElem hi'
      have e2 := List.getElem?_eq_getElem hj'
      simp only [hrn i _ e1, hrn j _ e2] at hij
      have := hI _ _ (hltN _ (List.mem_of_getElem? e1)) (hltN _ (List.mem_of_getElem? e2)) hij
      exact (List.getElem?_inj hi' hnd).mp (by rw [e1, e2, this])
    have hfar : ∀ i, 1000 ≤ i → ad (r_n em i) = ad i := by
      intro i hi
      have : l_get em i = none := by rw [l_get_eq, List.getElem?_eq_none_iff]; omega
      unfold r_n
      rw [this]
    have hP0 : va_P D cl (wm tc (fun i => ad (r_n em i)) 0 h0) H := by
      intro i q hq
      rw [wm_get, Nat.zero_add] at hq
      cases hc : h0[i]? with
      | none => rw [hc] at hq; simp at hq
      | some c0 =>
        rw [hc] at hq
        simp only [Option.map_some, Option.some.injEq] at hq
        obtain ⟨q1, g1, g2⟩ := hat i c0 hc
        have g3 := h2 q1 _ (wm_get0 (by rw [l_get_eq]; exact g2))
        rw [ce_r] at g3
        rw [← hq, hrn i q1 g1]
        exact g3
    have has' : as0.map (cv (fun i => ad (r_n em i))) = as.map (cv ad) := by
      rw [← has, List.map_map]
      apply List.map_congr_left
      intro v _
      exact (cv_r ad em v).symm
    have hrun := site d1 hd _ _ _ (hct D tc (fun i => ad (r_n em i))) (W_in.blind hX) (fun U hU hW => ⟨by rw [has'], by rw [hU]; exact hP0, va_K.moved hW.alike hK, hI', ((hro U hU hW).ren hX hfar).narrow hAA⟩)
    refine call_go hrun h3 hAA fun r h' H1 locs1 g1 g2 g3 g4 g5 g6 => ?_
    obtain ⟨b1, b2⟩ := w_back_get em (h'.map (r_e em)) h hnd (by rw [List.length_map, g2, hlen]) (fun i hi => by rw [h1]; exact hltN i hi)
    have hval : (r.map (cv (fun i => ad (r_n em i)))).toList = ((r_o em r).map (cv ad)).toList := by
      cases r with
      | none => rfl
      | some v => show [cv _ v] = [cv ad (r_v em v)]; rw [cv_r]
    rw [hval]
    refine kk (r_o em r) _ H1 locs1 (hgo r h' g1 g2) (by rw [b1, h1]) ?_ g6
    intro i q hq
    rw [wm_get, Nat.zero_add] at hq
    cases hc : (w_back h em (h'.map (r_e em)))[i]? with
    | none => rw [hc] at hq; simp at hq
    | some c0 =>
      rw [hc] at hq
      simp only [Option.map_some, Option.some.injEq] at hq
      rw [← hq]
      rcases b2 i c0 hc with ⟨k0, z1, z2⟩ | ⟨z1, z2⟩
      · rw [List.getElem?_map] at z2
        cases hc' : h'[k0]? with
        | none => rw [hc'] at z2; simp at z2
        | some c1 =>
          rw [hc'] at z2
          simp only [Option.map_some, Option.some.injEq] at z2
          have z3 := g3 k0 _ (wm_get0 (by rw [l_get_eq]; exact hc'))
          simp only [hrn k0 i z1] at z3
          rw [← z2, ce_r]
          exact z3
      · have z3 := h2 i _ (wm_get0 (by rw [l_get_eq]; exact z2))
        refine z3.kept (g5 _ z3.lt ?_)
        rintro ⟨i9, hi9, he9⟩
        have hi9' : i9 < em.length := by rw [hlen]; exact hi9
        have e1 := List.getElem?_eq_getElem hi9'
        simp only [hrn i9 _ e1] at he9
        have hiN : i < N := by rw [← h1]; exact (List.getElem?_eq_some_iff.mp z2).1
        have := hI _ _ hiN (hltN _ (List.mem_of_getElem? e1)) he9
        rw [this] at z1
        exact z1 (List.mem_of_getElem? e1)
end SN3

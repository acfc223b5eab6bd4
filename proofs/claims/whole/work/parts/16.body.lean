/-! bodies give contracts -/
def okc (cc : ByteArray) : List Ins → Prop
  | [] => True
  | (pc, i, n) :: t => decode cc pc = .ok (i, n) ∧ (x_sw i = true ∨ n = x_ln i) ∧ (match t with
    | [] => True
    | (q, _, _) :: _ => q = pc + n) ∧ okc cc t
def okb (cc : ByteArray) : List Ins → Bool
  | [] => true
  | (pc, i, n) :: t => decide (decode cc pc = .ok (i, n)) && (x_sw i || Nat.beq n (x_ln i)) && (match t with
    | [] => true
    | (q, _, _) :: _ => Nat.beq q (pc + n)) && okb cc t
theorem okc_of {cc : ByteArray} : ∀ {code : List Ins}, okb cc code = true → okc cc code
  | [], _ => True.intro
  | (pc, i, n) :: t, h => by
    unfold okb at h
    obtain ⟨h, h4⟩ := Bool.and_eq_true_iff.mp h
    obtain ⟨h, h3⟩ := Bool.and_eq_true_iff.mp h
    obtain ⟨h1, h2⟩ := Bool.and_eq_true_iff.mp h
    refine ⟨of_decide_eq_true h1, ?_, ?_, okc_of h4⟩
    · rcases Bool.or_eq_true_iff.mp h2 with h2 | h2
      · exact Or.inl h2
      · exact Or.inr (Nat.eq_of_beq_eq_true h2)
    · match t, h3 with
      | [], _ => exact True.intro
      | (q, _, _) :: _, h3 => exact Nat.eq_of_beq_eq_true h3
section SN6
variable {p : Program} {l : Launch} {e : Env} {R : Room} {s : State} {m : MethodId} {args : Array Value} {below : List Frame} {meth : Method} {c : Code} {cells slots : Nat} {Q : State → Prop}
variable {cl : List vw_C} {D : va_G} {tc : Nat → ClassId} {ad : Nat → Nat} {N nL : Nat} {cc : ByteArray} {own : String} {Ts TB : List Cond} {X : RoT} {P : Pool} {d : Nat} {ty : Option FieldType} {RT : RP} {mt : MT}
/-- a return is right where the walk ends so -/
def RetOK (p : Program) (l : Launch) (e : Env) (R : Room) (s : State) (m : MethodId) (args : Array Value) (below : List Frame) (meth : Method) (c : Code) (cells slots : Nat) (Q : State → Prop) (cl : List vw_C) (D : va_G) (tc : Nat → ClassId) (ad : Nat → Nat) (N : Nat) (cc : ByteArray) (ty : Option FieldType) (RT : RP) : Prop :=
  ∀ (pc : Nat) (h : List AE) (H : Heap) (locs : List Loc) (la : Array Slot), h.length = N → va_P D cl (wm tc ad 0 h) H → va_S (AA ad N) s.heap H locs →
    (∀ x, decode cc pc = .ok (.ireturn, 1) → x_ret ty x → RT (some (.int x)) h → W p l e R s m args below meth c H locs cells slots Q (F0 m pc la [.int x])) ∧
    (∀ x, decode cc pc = .ok (.lreturn, 1) → ty = some .long → RT (some (.long x)) h → W p l e R s m args below meth c H locs cells slots Q (F0 m pc la [.long x])) ∧
    (∀ x n, decode cc pc = .ok (.areturn, 1) → ty = some (.object n) → RT (some (.ref x)) h → W p l e R s m args below meth c H locs cells slots Q (F0 m pc la [.ref (ad x)])) ∧
    (decode cc pc = .ok (.return_, 1) → ty = none → RT none h → W p l e R s m args below meth c H locs cells slots Q (F0 m pc la []))
/-- what holds of the tables for a body of the name 'own' -/
def TabOK (TB : List Cond) (mt : MT) (cl : List vw_C) (X : RoT) (own : String) (P : Pool) : Prop :=
  cl.length ≤ 50 ∧ RoOK X ∧ (∀ i, 1000 ≤ i → i < 1006 → (i, "java/lang/String") ∈ X.1) ∧ TbOK TB ∧ ClsOK TB cl ∧ FldOK TB X.2.2.2.2.2 cl own P ∧ FarOK TB X own P ∧ CpOK TB mt cl own P
theorem x_sound (C0 : CX p s m args c cl D tc ad N nL cc own TB X) (T0 : TabOK TB mt cl X own P) (hRf : d ≤ R.frames) (hRl : 60 * d ≤ R.locals) (hcs : cells ≤ R.cells ∧ slots ≤ R.slots) (hret : RetOK p l e R s m args below meth c cells slots Q cl D tc ad N cc ty RT)
    {pc n : Nat} {i : Instr} {ls : LV} {st : List Value} {h : List AE} {k : KP} (hdg : decode cc pc = .ok (i, n)) (hn : x_sw i = true ∨ n = x_ln i)
    (hk : ∀ ls' st' h', k ls' st' h' → WW p l e R s m args below meth c cells slots Q cl D tc ad N nL (pc + n) ls' st' h')
    (hx : x_step P (CTof l TB mt cl X) d nL ty (WW p l e R s m args below meth c cells slots Q cl D tc ad N nL) RT pc ls st h k i) : WW p l e R s m args below meth c cells slots Q cl D tc ad N nL pc ls st h := by
  obtain ⟨hcl, hX, hstr, hTB, hCl, hFl, hFar, hCp⟩ := T0
  have hs : ∀ w ∈ TB, w ∈ TB := fun _ z => z
  cases hp : x_plain i with
  | true => exact snd_a C0 hFar hdg hn hk hp hx
  | false =>
    cases i with
    | getfield ix =>
      have z := hn.resolve_left (fun z => Bool.noConfusion (show false = true from z))
      subst z
      exact snd_getf C0 hFar hcl hCl hFl hdg hk hx
    | putfield ix =>
      have z := hn.resolve_left (fun z => Bool.noConfusion (show false = true from z))
      subst z
      exact snd_putf C0 hcl hCl hFl hdg hk hx
    | invokevirtual ix =>
      have z := hn.resolve_left (fun z => Bool.noConfusion (show false = true from z))
      subst z
      exact snd_inv C0 hcl hX hstr hTB hs hRf hRl hcs hCp (Or.inl ⟨rfl, rfl⟩) hdg hk hx
    | invokestatic ix =>
      have z := hn.resolve_left (fun z => Bool.noConfusion (show false = true from z))
      subst z
      simp only [x_step] at hx
      split at hx
      · exact snd_copy C0 hs hRf hRl hCp hdg hk hx
      · exact snd_inv C0 hcl hX hstr hTB hs hRf hRl hcs hCp (Or.inr (Or.inl ⟨rfl, rfl⟩)) hdg hk hx
    | invokespecial ix =>
      have z := hn.resolve_left (fun z => Bool.noConfusion (show false = true from z))
      subst z
      exact snd_inv C0 hcl hX hstr hTB hs hRf hRl hcs hCp (Or.inr (Or.inr ⟨rfl, rfl⟩)) hdg hk hx
    | arraylength =>
      have z := hn.resolve_left (fun z => Bool.noConfusion (show false = true from z))
      subst z
      exact snd_arr C0 hFar hdg (Or.inl rfl) hk hx
    | iaload =>
      have z := hn.resolve_left (fun z => Bool.noConfusion (show false = true from z))
      subst z
      exact snd_arr C0 hFar hdg (Or.inr (Or.inl rfl)) hk hx
    | baload =>
      have z := hn.resolve_left (fun z => Bool.noConfusion (show false = true from z))
      subst z
      exact snd_arr C0 hFar hdg (Or.inr (Or.inr (Or.inl rfl))) hk hx
    | iastore =>
      have z := hn.resolve_left (fun z => Bool.noConfusion (show false = true from z))
      subst z
      exact snd_arr C0 hFar hdg (Or.inr (Or.inr (Or.inr (Or.inl rfl)))) hk hx
    | bastore =>
      have z := hn.resolve_left (fun z => Bool.noConfusion (show false = true from z))
      subst z
      exact snd_arr C0 hFar hdg (Or.inr (Or.inr (Or.inr (Or.inr (Or.inl rfl))))) hk hx
    | aaload =>
      have z := hn.resolve_left (fun z => Bool.noConfusion (show false = true from z))
      subst z
      exact snd_arr C0 hFar hdg (Or.inr (Or.inr (Or.inr (Or.inr (Or.inr rfl))))) hk hx
    | ireturn =>
      have z := hn.resolve_left (fun z => Bool.noConfusion (show false = true from z))
      subst z
      simp only [x_step] at hx
      split at hx
      · exact fun H locs la h1 h2 h3 h4 => (hret pc h H locs la h1 h2 h3).1 _ hdg hx.1 hx.2
      · exact hx.elim
    | lreturn =>
      have z := hn.resolve_left (fun z => Bool.noConfusion (show false = true from z))
      subst z
      simp only [x_step] at hx
      split at hx
      · exact fun H locs la h1 h2 h3 h4 => (hret pc h H locs la h1 h2 h3).2.1 _ hdg hx.1 hx.2
      · exact hx.elim
    | areturn =>
      have z := hn.resolve_left (fun z => Bool.noConfusion (show false = true from z))
      subst z
      simp only [x_step] at hx
      split at hx
      · obtain ⟨⟨nm, hnm⟩, hq⟩ := hx
        exact fun H locs la h1 h2 h3 h4 => (hret pc h H locs la h1 h2 h3).2.2.1 _ nm hdg hnm hq
      · exact hx.elim
    | return_ =>
      have z := hn.resolve_left (fun z => Bool.noConfusion (show false = true from z))
      subst z
      simp only [x_step] at hx
      split at hx
      · exact fun H locs la h1 h2 h3 h4 => (hret pc h H locs la h1 h2 h3).2.2.2 hdg hx.1 hx.2
      · exact hx.elim
    | _ => exact Bool.noConfusion (show true = false from hp)
theorem xs_sound {cuts : List Nat} (C0 : CX p s m args c cl D tc ad N nL cc own TB X) (T0 : TabOK TB mt cl X own P) (hRf : d ≤ R.frames) (hRl : 60 * d ≤ R.locals) (hcs : cells ≤ R.cells ∧ slots ≤ R.slots) (hret : RetOK p l e R s m args below meth c cells slots Q cl D tc ad N cc ty RT) :
    ∀ (code : List Ins), okc cc code → ∀ (pc : Nat) (i : Instr) (n : Nat) (t : List Ins), code = (pc, i, n) :: t → ∀ ls st h, xs P (CTof l TB mt cl X) d nL ty cuts (WW p l e R s m args below meth c cells slots Q cl D tc ad N nL) RT code ls st h → WW p l e R s m args below meth c cells slots Q cl D tc ad N nL pc ls st h
  | [], _, _, _, _, _, h, _, _, _, _ => by cases h
  | (pc, i, n) :: t, hok, _, _, _, _, rfl, ls, st, h, hx => by
    obtain ⟨h1, h2, h3, h4⟩ := hok
    refine x_sound C0 T0 hRf hRl hcs hret h1 h2 (fun ls' st' h' hy => ?_) hx
    match t, h3, h4, hy with
    | [], _, _, hy => exact hy.elim
    | (q, i', n') :: t', h3, h4, hy =>
      have h3 : q = pc + n := h3
      rw [← h3]
      unfold x_next at hy
      cases hc : a_mem q cuts with
      | true =>
        simp only [hc, cond_true] at hy
        exact hy
      | false =>
      simp only [hc, cond_false] at hy
      exact xs_sound C0 T0 hRf hRl hcs hret ((q, i', n') :: t') h4 q i' n' t' rfl ls' st' h' hy
theorem seek_ok (pc : Nat) : ∀ (code : List Ins), okc cc code → okc cc (seek pc code) ∧ (seek pc code = [] ∨ ∃ i n t, seek pc code = (pc, i, n) :: t)
  | [], h => ⟨h, Or.inl rfl⟩
  | (q, i, n) :: t, h => by
    unfold seek
    cases hb : Nat.beq q pc with
    | true =>
      have hq := Nat.eq_of_beq_eq_true hb
      subst hq
      rw [cond_true]
      exact ⟨h, Or.inr ⟨i, n, t, rfl⟩⟩
    | false =>
      rw [cond_false]
      exact seek_ok pc t h.2.2.2
theorem runs_of {cuts : List Nat} (C0 : CX p s m args c cl D tc ad N nL cc own TB X) (T0 : TabOK TB mt cl X own P) (hRf : d ≤ R.frames) (hRl : 60 * d ≤ R.locals) (hcs : cells ≤ R.cells ∧ slots ≤ R.slots) (hret : RetOK p l e R s m args below meth c cells slots Q cl D tc ad N cc ty RT) {code : List Ins} (hok : okc cc code) :
    Runs P (CTof l TB mt cl X) d nL ty cuts code (WW p l e R s m args below meth c cells slots Q cl D tc ad N nL) RT := by
  intro pc ls st h hx
  obtain ⟨h1, h2 | ⟨i, n, t, h2⟩⟩ := seek_ok (cc := cc) pc code hok
  · rw [h2] at hx
    exact hx.elim
  · exact xs_sound C0 T0 hRf hRl hcs hret _ h1 pc i n t h2 ls st h hx
theorem drops_of : Drops (WW p l e R s m args below meth c cells slots Q cl D tc ad N nL) := by
  intro pc ls ks st h hj H locs la h1 h2 h3 h4
  refine hj H locs la h1 h2 h3 ⟨h4.1, h4.2.1, fun q hq => ?_⟩
  obtain ⟨q0, hq0, rfl⟩ := List.mem_map.mp hq
  obtain ⟨k, -, hk⟩ := List.mem_filterMap.mp hq0
  rw [l_get_eq] at hk
  exact h4.2.2 _ (List.mem_map.mpr ⟨q0, List.mem_of_getElem? hk, rfl⟩)
theorem args_cv (ad : Nat → Nat) : ∀ (as : List Value) (k : Nat), lv_args k (as.map (cv ad)) = lc ad (lv_args k as)
  | [], _ => rfl
  | v :: t, k => by
    rw [List.map_cons, lv_args, lv_args, cv_cat, args_cv ad t]
    rfl
theorem sl_cv (ad : Nat → Nat) : ∀ as : List Value, (lg_sl (as.map (cv ad))).length = x_cat as
  | [] => rfl
  | v :: t => by
    have e : lg_sl ((v :: t).map (cv ad)) = (if (cv ad v).category = 2 then [.val (cv ad v), .second] else [.val (cv ad v)]) ++ lg_sl (t.map (cv ad)) := rfl
    rw [e, List.length_append, sl_cv ad t, x_cat, cv_cat]
    cases v <;> rfl
/-- A BODY GIVES ITS METHOD'S CONTRACT -/
theorem CT_of {j : Nat} (cuts : List Nat) {as : List Value} {h0 : List AE} {PP : RP} {code : List Ins} {y : MethodName} {cc : ByteArray} (hmt : mt j = (y, cc, nL, ty)) (hy : plainName y.cls = true) (T0 : TabOK TB mt cl X y.cls P) (hok : okc cc code) (hin : x_cat as ≤ nL)
    (hbody : Body P (CTof l TB mt cl X) d nL ty cuts code as h0 PP) : CTof l TB mt cl X d j as h0 PP := by
  intro D tc ad
  have e1 : (mt j).1 = y := by rw [hmt]
  have e2 : cdOf mt j = Cond.code y cc nL ty := by unfold cdOf; rw [hmt]
  rw [e1, e2]
  refine Met.ofW (cc := cc) (maxL := nL) (ret := ty) hy rfl ?_
  intro p e s m args below meth c s₁ B hml hv
  obtain ⟨rfl, hP, hK, hI, hR⟩ := hv
  have hts := atoms_spec (ws := Cond.code y cc nL ty :: TB) B.pre
  have hown : s.vm.findClass y.cls = some m.cls := findClass_of_methodNamed B.named
  have hr := B.returns
  have hx := B.exec
  have hb := B.bytes
  have hlocks := B.notSynchronized
  have C0 : CX p s m (as.map (cv ad)).toArray c cl D tc ad h0.length nL cc y.cls TB X := ⟨hx, hb, hml, hown, fun w hw => hts w (List.mem_cons_of_mem _ hw), hK, hI, hR⟩
  have hret : RetOK p l e (headSpec (Cond.code y cc nL ty :: TB) (rmOf d)).room s m (as.map (cv ad)).toArray below meth c 0 0 (MQ below (Q_ct cl D tc ad h0 PP) (as.map (cv ad)).toArray s 0 0 (AA ad h0.length)) cl D tc ad h0.length cc ty PP := by
    intro pc h H locs la h1 h2 h3
    refine ⟨fun x hd ht hq => ?_, fun x hd ht hq => ?_, fun x n hd ht hq => ?_, fun hd ht hq => ?_⟩
    · have post : ∀ t : State, t.heap = H → s.WarmedH t.vm → Q_ct cl D tc ad h0 PP (as.map (cv ad)).toArray s (.returned (some (.int x))) t := fun t e9 _ => ⟨⟨some (.int x), h, rfl, hq, h1, by rw [e9]; exact h2⟩, h3.F e9⟩
      cases ty with
      | none => exact ht.elim
      | some u =>
        refine W.zret hx hb hr ?_ post h3.2.2 hd
        cases u with
        | int => rfl
        | boolean => have ht : x &&& 1 = x := ht; show Value.int (x &&& 1) = Value.int x; rw [ht]
        | _ => exact ht
    · subst ht
      exact W.lret hx hb hr (fun t e9 _ => ⟨⟨some (.long x), h, rfl, hq, h1, by rw [e9]; exact h2⟩, h3.F e9⟩) h3.2.2 hd
    · subst ht
      exact W.aret hx hb hr (Or.inl ⟨n, rfl⟩) (Or.inr ⟨_, rfl⟩) (fun t e9 _ => ⟨⟨some (.ref x), h, rfl, hq, h1, by rw [e9]; exact h2⟩, h3.F e9⟩) h3.2.2 hd
    · subst ht
      exact W.vret hx hb hr (fun t e9 _ => ⟨⟨none, h, rfl, hq, h1, by rw [e9]; exact h2⟩, h3.F e9⟩) h3.2.2 hd
  have hl := lv_entry (as.map (cv ad)) (n := nL) (by rw [sl_cv]; exact hin)
  rw [args_cv] at hl
  rw [lg_entry_eq]
  exact hbody _ (runs_of C0 T0 (Nat.le_refl d) (Nat.le_refl _) ⟨Nat.le_refl 0, Nat.le_refl 0⟩ hret hok) drops_of s.heap [] _ rfl hP va_S.rf hl
end SN6

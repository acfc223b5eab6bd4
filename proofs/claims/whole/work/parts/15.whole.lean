/-! the abstract machine is right: every instruction; bodies give contracts -/
section SN5
variable {p : Program} {l : Launch} {e : Env} {R : Room} {s : State} {m : MethodId} {args : Array Value} {below : List Frame} {meth : Method} {c : Code} {cells slots : Nat} {Q : State → Prop}
variable {cl : List vw_C} {D : va_G} {tc : Nat → ClassId} {ad : Nat → Nat} {N nL : Nat} {cc : ByteArray} {own : String} {Ts TB : List Cond} {X : RoT} {P : Pool} {d : Nat} {ty : Option FieldType} {RT : RP} {mt : MT}
theorem cat_cv (ad : Nat → Nat) : ∀ l : List Value, ((l.map (cv ad)).map fun v => v.category).sum = x_cat l
  | [] => rfl
  | v :: t => by
    rw [List.map_cons, List.map_cons, List.sum_cons, cat_cv ad t, x_cat, cv_cat]
    cases v <;> rfl
theorem push_cv (ad : Nat → Nat) (r : Option Value) (rest : List Value) : (x_push r rest).map (cv ad) = (r.map (cv ad)).toList ++ rest.map (cv ad) := by cases r <;> rfl
theorem snd_inv (C0 : CX p s m args c cl D tc ad N nL cc own Ts X) (hcl : cl.length ≤ 50) (hX : RoOK X) (hstr : ∀ i, 1000 ≤ i → i < 1006 → (i, "java/lang/String") ∈ X.1) (hTB : TbOK TB) (hs : ∀ w ∈ TB, w ∈ Ts) (hRf : d ≤ R.frames) (hRl : 60 * d ≤ R.locals) (hcs : cells ≤ R.cells ∧ slots ≤ R.slots) (hCp : CpOK TB mt cl own P)
    {pc ix kd : Nat} {i : Instr} {ls : LV} {st : List Value} {h : List AE} {k : KP} (hi : (kd = 0 ∧ i = .invokevirtual ix) ∨ (kd = 1 ∧ i = .invokestatic ix) ∨ (kd = 2 ∧ i = .invokespecial ix)) (hdg : decode cc pc = .ok (i, 3))
    (hk : ∀ ls' st' h', k ls' st' h' → WW p l e R s m args below meth c cells slots Q cl D tc ad N nL (pc + 3) ls' st' h')
    (hx : x_inv P (CTof l TB mt cl X) d kd ix ls st h k) : WW p l e R s m args below meth c cells slots Q cl D tc ad N nL pc ls st h := by
  obtain ⟨hxe, hb, hml, hown, hts, hK, hI, hR⟩ := C0
  intro H locs la h1 h2 h3 h4
  unfold x_inv at hx
  split at hx
  · next kd' na tg hl =>
    have hmem := a_look_mem hl
    cases hkd : Nat.beq kd' kd with
    | false => rw [hkd] at hx; exact hx.elim
    | true =>
      rw [hkd] at hx
      simp only [cond_true] at hx
      have hkk := Nat.eq_of_beq_eq_true hkd
      subst hkk
      split at hx
      · next as rest hp =>
        obtain ⟨a1, e1, e2, e3⟩ := x_pop_eq _ _ _ _ _ hp
        rw [List.append_nil] at e1
        subst e1
        subst e2
        cases hk1 : Nat.beq kd' 1 with
        | true =>
          rw [hk1] at hx
          simp only [cond_true] at hx
          have hkk := Nat.eq_of_beq_eq_true hk1
          subst hkk
          obtain ⟨z, -⟩ | ⟨-, rfl⟩ | ⟨z, -⟩ := hi
          · omega
          · split at hx
            · next j hj =>
              cases hcat : Nat.ble (x_cat rest) 8 with
              | false => rw [hcat] at hx; exact hx.elim
              | true =>
                rw [hcat] at hx
                simp only [cond_true] at hx
                rcases hCp _ hmem with ⟨z, -⟩ | ⟨-, hT⟩ | ⟨z, -⟩ | ⟨z, -⟩
                · have z : (1 : Nat) = 0 := z
                  omega
                · obtain ⟨hm, hv⟩ := hT _ (a_look_mem hj)
                  have site := siteS (p := p) (l := l) (e := e) (R := R) (below := below) (meth := meth) (pc := pc) (H := H) (locs := locs) (la := la) (as := as.map (cv ad)) (rest := rest.map (cv ad)) hxe hb hml hown hts hTB hs hRf hRl hcs hm hv (by rw [List.length_map]; exact e3) h4.1 (by rw [cat_cv]; exact Nat.le_of_ble_eq_true hcat) hdg
                  have e9 : (as.reverse ++ rest).map (cv ad) = (as.map (cv ad)).reverse ++ rest.map (cv ad) := by rw [List.map_append, List.map_reverse]
                  rw [e9]
                  exact call_any hX hK hI hR site hx h1 h2 h3 fun r h' H1 locs1 g1 g2 g3 g4 => by
                    rw [← push_cv]
                    exact hk _ _ _ g1 H1 locs1 la g2 g3 g4 h4
                · have z : (1 : Nat) = 2 := z
                  omega
                · have z : (1 : Nat) = 5 := z
                  omega
            · exact hx.elim
          · omega
        | false =>
          rw [hk1] at hx
          simp only [cond_false] at hx
          split at hx
          · next b rest' =>
            split at hx
            · next ci hci =>
              split at hx
              · next j hj =>
                cases hcat : Nat.ble (x_cat rest') 8 with
                | false => rw [hcat] at hx; exact hx.elim
                | true =>
                  rw [hcat] at hx
                  simp only [cond_true] at hx
                  have e9 : (as.reverse ++ .ref b :: rest').map (cv ad) = (as.map (cv ad)).reverse ++ .ref (ad b) :: rest'.map (cv ad) := by rw [List.map_append, List.map_reverse]; rfl
                  rw [e9]
                  rcases hCp _ hmem with ⟨z, hT⟩ | ⟨z, -⟩ | ⟨z, hT⟩ | ⟨z, -⟩
                  · have z : kd' = 0 := z
                    subst z
                    obtain ⟨-, rfl⟩ | ⟨z, -⟩ | ⟨z, -⟩ := hi
                    · obtain ⟨hm, C, hC, hv⟩ := hT _ (a_look_mem hj)
                      have hrc := recv_ok hK hR hstr hcl hci hC h2 h3
                      have site := siteV (p := p) (l := l) (e := e) (R := R) (below := below) (meth := meth) (pc := pc) (H := H) (locs := locs) (la := la) (as := as.map (cv ad)) (rest := rest'.map (cv ad)) (b := ad b) hxe hb hml hown hts hTB hs hRf hRl hcs hm hv (by rw [List.length_map]; exact e3) h4.1 (by rw [cat_cv]; exact Nat.le_of_ble_eq_true hcat) hdg hrc
                      exact call_any (as := .ref b :: as) hX hK hI hR site hx h1 h2 h3 fun r h' H1 locs1 g1 g2 g3 g4 => by
                        rw [← push_cv]
                        exact hk _ _ _ g1 H1 locs1 la g2 g3 g4 h4
                    · omega
                    · omega
                  · have z : kd' = 1 := z
                    subst z
                    cases hk1
                  · have z : kd' = 2 := z
                    subst z
                    obtain ⟨z, -⟩ | ⟨z, -⟩ | ⟨-, rfl⟩ := hi
                    · omega
                    · omega
                    · obtain ⟨hm, ⟨C, T, Nf, hC⟩, hv⟩ := hT _ (a_look_mem hj)
                      have hrc := recv_ok hK hR hstr hcl hci (Or.inr ⟨T, Nf, hC⟩) h2 h3
                      have hat := (hK.1 _ _ hC).2
                      have site := siteU (p := p) (l := l) (e := e) (R := R) (below := below) (meth := meth) (pc := pc) (H := H) (locs := locs) (la := la) (as := as.map (cv ad)) (rest := rest'.map (cv ad)) (b := ad b) hxe hb hml hown hts hTB hs hRf hRl hcs hat hm hv (by rw [List.length_map]; exact e3) h4.1 (by rw [cat_cv]; exact Nat.le_of_ble_eq_true hcat) hdg hrc
                      exact call_any (as := .ref b :: as) hX hK hI hR site hx h1 h2 h3 fun r h' H1 locs1 g1 g2 g3 g4 => by
                        rw [← push_cv]
                        exact hk _ _ _ g1 H1 locs1 la g2 g3 g4 h4
                  · have z : kd' = 5 := z
                    subst z
                    obtain ⟨z, -⟩ | ⟨z, -⟩ | ⟨z, -⟩ := hi <;> omega
              · exact hx.elim
            · exact hx.elim
          · exact hx.elim
      · exact hx.elim
  · exact hx.elim
theorem snd_copy (C0 : CX p s m args c cl D tc ad N nL cc own Ts X) (hs : ∀ w ∈ TB, w ∈ Ts) (hRf : d ≤ R.frames) (hRl : 60 * d ≤ R.locals) (hCp : CpOK TB mt cl own P)
    {pc ix : Nat} {ls : LV} {st : List Value} {h : List AE} {k : KP} (hdg : decode cc pc = .ok (.invokestatic ix, 3))
    (hk : ∀ ls' st' h', k ls' st' h' → WW p l e R s m args below meth c cells slots Q cl D tc ad N nL (pc + 3) ls' st' h')
    (hx : x_copy P d ix ls st h k) : WW p l e R s m args below meth c cells slots Q cl D tc ad N nL pc ls st h := by
  obtain ⟨hxe, hb, hml, hown, hts, hK, hI, hR⟩ := C0
  unfold x_copy at hx
  split at hx
  · next kd na tg hl =>
    have hmem := a_look_mem hl
    cases hkd : Nat.beq kd 5 with
    | false => rw [hkd] at hx; exact hx.elim
    | true =>
      rw [hkd] at hx
      simp only [cond_true] at hx
      have hkk := Nat.eq_of_beq_eq_true hkd
      subst hkk
      have hw : Cond.methodLink own ix arraycopyName ∈ TB ∧ Cond.native arraycopyName ∈ TB ∧ Cond.static arraycopyName ∈ TB ∧ Cond.initialized "java/lang/System" ∈ TB := by
        rcases hCp _ hmem with ⟨z, -⟩ | ⟨z, -⟩ | ⟨z, -⟩ | ⟨-, z⟩
        · have z : (5 : Nat) = 0 := z
          omega
        · have z : (5 : Nat) = 1 := z
          omega
        · have z : (5 : Nat) = 2 := z
          omega
        · exact z
      split at hx
      · next n dp a sp b rest =>
        split at hx
        · next t0 n0 f t1 n1 g hc0 hc1 =>
          cases hg : (Nat.beq t0 t1 && Nat.blt t0 2 && Nat.ble (x_cat rest) 8 && Nat.ble 1 d) with
          | false => rw [hg] at hx; exact hx.elim
          | true =>
            rw [hg] at hx
            simp only [cond_true] at hx
            obtain ⟨hg, g4⟩ := Bool.and_eq_true_iff.mp hg
            obtain ⟨hg, g3⟩ := Bool.and_eq_true_iff.mp hg
            obtain ⟨g1, g2⟩ := Bool.and_eq_true_iff.mp hg
            have g1 := Nat.eq_of_beq_eq_true g1
            subst g1
            have g2 : t0 < 2 := by simpa using g2
            have g3 := Nat.le_of_ble_eq_true g3
            have g4 := Nat.le_of_ble_eq_true g4
            obtain ⟨c1, c2, c3, c4, c5, c6, c7⟩ := hx
            intro H locs la h1 h2 h3 h4
            have hloc : ((rest.map (cv ad)).map fun v => v.category).sum + (nativeFrameWords "java/lang/System" "arraycopy" 5 + 11) ≤ R.locals := by
              rw [cat_cv]
              have : nativeFrameWords "java/lang/System" "arraycopy" 5 = 7 := by decide +kernel
              rw [this]
              omega
            match t0, g2 with
            | 0, _ =>
              refine va_copyi hxe hb (hml.trans h4.1.symm) hown (hts _ (hs _ hw.1)) (hts _ (hs _ hw.2.1)) (hts _ (hs _ hw.2.2.1)) (hts _ (hs _ hw.2.2.2)) hK h2 (wm_D h1 hI) h3 b a 0 0 (wm_get0 hc0) (wm_get0 hc1) rfl rfl rfl c1 c2 c3 c4 c5 c6 (by omega) hloc hdg fun H1 locs1 hP1 hD1 hS1 => ?_
              have hP1 : va_P D cl ((wm tc ad 0 h).set a (ad a, ce tc ad (.inl (0, n1, .inl (va_cpy f g sp.toNatClampNeg dp.toNatClampNeg n.toNatClampNeg))))) H1 := hP1
              rw [wm_set0] at hP1
              exact hk _ _ _ (l_put_eq _ _ _ _ c7) H1 locs1 la (by rw [List.length_set]; exact h1) hP1 hS1 h4
            | 1, _ =>
              refine va_copyi hxe hb (hml.trans h4.1.symm) hown (hts _ (hs _ hw.1)) (hts _ (hs _ hw.2.1)) (hts _ (hs _ hw.2.2.1)) (hts _ (hs _ hw.2.2.2)) hK h2 (wm_D h1 hI) h3 b a 1 1 (wm_get0 hc0) (wm_get0 hc1) rfl rfl rfl c1 c2 c3 c4 c5 c6 (by omega) hloc hdg fun H1 locs1 hP1 hD1 hS1 => ?_
              have hP1 : va_P D cl ((wm tc ad 0 h).set a (ad a, ce tc ad (.inl (1, n1, .inl (va_cpy f g sp.toNatClampNeg dp.toNatClampNeg n.toNatClampNeg))))) H1 := hP1
              rw [wm_set0] at hP1
              exact hk _ _ _ (l_put_eq _ _ _ _ c7) H1 locs1 la (by rw [List.length_set]; exact h1) hP1 hS1 h4
        · exact hx.elim
      · exact hx.elim
  · exact hx.elim
end SN5

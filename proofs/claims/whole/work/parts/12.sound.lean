/-! the abstract machine is right: cells, arrays, returns, calls -/
section SN2
variable {p : Program} {l : Launch} {e : Env} {R : Room} {s : State} {m : MethodId} {args : Array Value} {below : List Frame} {meth : Method} {c : Code} {cells slots : Nat} {Q : State → Prop}
variable {cl : List vw_C} {D : va_G} {tc : Nat → ClassId} {ad : Nat → Nat} {N nL : Nat} {cc : ByteArray} {own : String} {Ts : List Cond} {X : RoT} {P : Pool} {CT : CTP} {d : Nat} {ty : Option FieldType} {RT : RP}
theorem hsame_of {ref : String} {T : u_T} {k : Nat} (hts : ∀ w ∈ Ts, w.before args s = true) (h : ref = (T k).1 ∨ Cond.sameField ref (T k).1 (T k).2.1 (T k).2.2.1 ∈ Ts) : ∀ x, s.fieldFound? (T k).1 (T k).2.1 (T k).2.2.1 = some x → s.fieldFound? ref (T k).2.1 (T k).2.2.1 = some x := by
  rcases h with h | h
  · rw [h]; exact fun _ z => z
  · exact u_same (hts _ h)
theorem l_get_map {as : List Value} {k : Nat} {v : Value} (h : l_get as k = some v) (ad : Nat → Nat) : (as.map (cv ad))[k]? = some (cv ad v) := by
  rw [l_get_eq] at h
  rw [List.getElem?_map, h]
  rfl
theorem snd_getf (C0 : CX p s m args c cl D tc ad N nL cc own Ts X) (hF : FarOK Ts X own P) (hcl : cl.length ≤ 50) (hCl : ClsOK Ts cl) (hFl : FldOK Ts X.2.2.2.2.2 cl own P) {pc ix : Nat} {ls : LV} {st : List Value} {h : List AE} {k : KP} (hdg : decode cc pc = .ok (.getfield ix, 3))
    (hk : ∀ ls' st' h', k ls' st' h' → WW p l e R s m args below meth c cells slots Q cl D tc ad N nL (pc + 3) ls' st' h')
    (hx : x_step P CT d nL ty (WW p l e R s m args below meth c cells slots Q cl D tc ad N nL) RT pc ls st h k (.getfield ix)) : WW p l e R s m args below meth c cells slots Q cl D tc ad N nL pc ls st h := by
  obtain ⟨hxe, hb, hml, hown, hts, hK, hI, hR⟩ := C0
  simp only [x_step] at hx
  split at hx
  · next a r =>
    split at hx
    · next v hv =>
      intro H locs la h1 h2 h3 h4
      unfold x_fld at hv
      split at hv
      · next kk t cis hl =>
        have hmem := a_look_mem hl
        split at hv
        · next ci fs hc =>
          cases hm : a_mem ci cis with
          | false => rw [hm] at hv; cases hv
          | true =>
            rw [hm] at hv
            have hv : l_get fs kk = some v := hv
            rcases hFl _ hmem ci (a_mem_mem hm) with z | ⟨C, T, Nf, g1, g2, ⟨ref, g3, g4⟩, -⟩
            · subst z
              obtain ⟨r9, z9, -⟩ := h2 a _ (wm_get0 hc)
              have := (List.getElem?_eq_some_iff.mp z9).1
              omega
            · have hin := (hCl ci C T Nf g1).1
              rcases g3 with g3 | ⟨host, g3⟩
              · exact va_get hxe hb hts hin hown hK h2 a (wm_get0 hc) g1 kk g2 (hts _ g3) (hsame_of hts g4) (l_get_map hv ad) hdg (hk _ _ _ hx H locs la h1 h2 h3 h4)
              · exact va_getN hxe hb hts hin hown hK h2 a (wm_get0 hc) g1 kk g2 (va_Nw.use rfl (hR.2.2.2.2.2 _ g3)) (hsame_of hts g4) (l_get_map hv ad) hdg (hk _ _ _ hx H locs la h1 h2 h3 h4)
        · cases hv
        · next hc =>
          cases hm : a_mem 50 cis with
          | false => rw [hm] at hv; cases hv
          | true =>
            rw [hm] at hv
            have hv : a_look P.2.2.2.2.1 (16 * a + kk) = some v := hv
            obtain ⟨o, n, ds, g1, g2⟩ := hF.1 _ hmem a v (a_mem_mem hm) (a_look_mem hv)
            exact vk_getf hxe hb (hR.2.1 _ g1) h3 hown (hts _ g2) (fun _ z => z) hdg (hk _ _ _ hx H locs la h1 h2 h3 h4)
      · cases hv
    · exact hx.elim
  · exact hx.elim
theorem fs_set (fs : List Value) (ad : Nat → Nat) (k : Nat) (v : Value) : (fs.map (cv ad)).set k (cv ad v) = (fs.set k v).map (cv ad) := by rw [List.map_set]
theorem snd_putf (C0 : CX p s m args c cl D tc ad N nL cc own Ts X) (hcl : cl.length ≤ 50) (hCl : ClsOK Ts cl) (hFl : FldOK Ts X.2.2.2.2.2 cl own P) {pc ix : Nat} {ls : LV} {st : List Value} {h : List AE} {k : KP} (hdg : decode cc pc = .ok (.putfield ix, 3))
    (hk : ∀ ls' st' h', k ls' st' h' → WW p l e R s m args below meth c cells slots Q cl D tc ad N nL (pc + 3) ls' st' h')
    (hx : x_step P CT d nL ty (WW p l e R s m args below meth c cells slots Q cl D tc ad N nL) RT pc ls st h k (.putfield ix)) : WW p l e R s m args below meth c cells slots Q cl D tc ad N nL pc ls st h := by
  obtain ⟨hxe, hb, hml, hown, hts, hK, hI, hR⟩ := C0
  simp only [x_step] at hx
  split at hx
  · next v a r =>
    intro H locs la h1 h2 h3 h4
    unfold x_put at hx
    split at hx
    · next kk t cis hl =>
      have hmem := a_look_mem hl
      split at hx
      · next ci fs hc =>
        cases hm : a_mem ci cis && Nat.blt kk fs.length with
        | false => rw [hm] at hx; exact hx.elim
        | true =>
          rw [hm] at hx
          have hm1 : a_mem ci cis = true := (Bool.and_eq_true_iff.mp hm).1
          have hm2 : kk < fs.length := by have := (Bool.and_eq_true_iff.mp hm).2; simpa using this
          rcases hFl _ hmem ci (a_mem_mem hm1) with z | ⟨C, T, Nf, g1, g2, ⟨ref, g3, g4⟩, g5⟩
          · subst z
            obtain ⟨r9, z9, -⟩ := h2 a _ (wm_get0 hc)
            have := (List.getElem?_eq_some_iff.mp z9).1
            omega
          · obtain ⟨hin, ty0, q1, q2⟩ := hCl ci C T Nf g1
            have main : ∀ (u : FieldType) (v : Value), (T kk).2.2.2 = false → parseFieldDescriptor (T kk).2.2.1 = some u → narrow u (cv ad v) = cv ad v → fits u (cv ad v) = true → k ls r (h.set a (.inr (ci, fs.set kk v))) →
                W p l e R s m args below meth c H locs cells slots Q (F0 m pc la ((v :: .ref a :: r).map (cv ad))) := by
              intro u v w1 w2 w3 w4 w5
              have hlen : (h.set a (.inr (ci, fs.set kk v))).length = N := by rw [List.length_set]; exact h1
              rcases g3 with g3 | ⟨host, g3⟩
              · refine va_put hxe hb hts hin ty0 q1 q2 hown hK h2 (wm_D h1 hI) h3 a (wm_get0 hc) g1 kk g2 (hts _ g3) (hsame_of hts g4) w1 w2 w3 w4 (by rw [List.length_map]; exact hm2) hdg fun H1 locs1 hP1 hD1 hS1 => ?_
                rw [fs_set] at hP1
                have hP1 : va_P D cl ((wm tc ad 0 h).set a (ad a, ce tc ad (.inr (ci, fs.set kk v)))) H1 := hP1
                rw [wm_set0] at hP1
                exact hk _ _ _ w5 H1 locs1 la hlen hP1 hS1 h4
              · refine va_putN hxe hb hts hin ty0 q1 q2 hown hK h2 (wm_D h1 hI) h3 a (wm_get0 hc) g1 kk g2 (va_Nw.use rfl (hR.2.2.2.2.2 _ g3)) (hsame_of hts g4) w1 w2 w3 w4 (by rw [List.length_map]; exact hm2) hdg fun H1 locs1 hP1 hD1 hS1 => ?_
                rw [fs_set] at hP1
                have hP1 : va_P D cl ((wm tc ad 0 h).set a (ad a, ce tc ad (.inr (ci, fs.set kk v)))) H1 := hP1
                rw [wm_set0] at hP1
                exact hk _ _ _ w5 H1 locs1 la hlen hP1 hS1 h4
            have nf : t = 0 ∨ t = 1 ∨ t = 2 → (T kk).2.2.2 = false ∧ ∃ u, parseFieldDescriptor (T kk).2.2.1 = some u ∧ f_kind t u := by
              intro ht
              rcases g5 with g5 | g5
              · have g5 : t = 9 := g5
                omega
              · exact g5
            have rr : ∀ (v : Value), (∃ q, v = .ref q) ∨ v = .null → (bif Nat.beq t 2 then l_put fs kk v (fun fs' => l_put h a (.inr (ci, fs')) (fun h' => k ls r h')) else False) → W p l e R s m args below meth c H locs cells slots Q (F0 m pc la ((v :: .ref a :: r).map (cv ad))) := by
              intro v hv hy
              cases hb2 : Nat.beq t 2 with
              | false => rw [hb2] at hy; exact hy.elim
              | true =>
                rw [hb2] at hy
                have hy := l_put_eq _ _ _ _ (l_put_eq _ _ _ _ hy)
                have ht := Nat.eq_of_beq_eq_true hb2
                subst ht
                obtain ⟨n1, u, n2, n3⟩ := nf (Or.inr (Or.inr rfl))
                refine main u v n1 n2 ?_ ?_ hy
                · rcases n3 with ⟨n, rfl⟩ | ⟨w, rfl⟩ <;> rcases hv with ⟨q, rfl⟩ | rfl <;> rfl
                · rcases n3 with ⟨n, rfl⟩ | ⟨w, rfl⟩ <;> rcases hv with ⟨q, rfl⟩ | rfl <;> rfl
            simp only [cond_true] at hx
            cases v with
            | int x =>
              obtain ⟨x1, x2⟩ := hx
              have x2 := l_put_eq _ _ _ _ (l_put_eq _ _ _ _ x2)
              cases b0 : Nat.beq t 0 with
              | true =>
                have ht := Nat.eq_of_beq_eq_true b0
                subst ht
                obtain ⟨n1, u, n2, n3⟩ := nf (Or.inl rfl)
                have n3 : u = .int := n3
                subst n3
                exact main .int (.int x) n1 n2 rfl rfl x2
              | false =>
                cases b1 : Nat.beq t 1 with
                | false => rw [b0, b1] at x1; exact x1.elim
                | true =>
                  rw [b0, b1] at x1
                  have x1 : x = 0 ∨ x = 1 := x1
                  have ht := Nat.eq_of_beq_eq_true b1
                  subst ht
                  obtain ⟨n1, u, n2, n3⟩ := nf (Or.inr (Or.inl rfl))
                  have n3 : u = .boolean := n3
                  subst n3
                  exact main .boolean (.int x) n1 n2 (by rcases x1 with rfl | rfl <;> rfl) (by rcases x1 with rfl | rfl <;> rfl) x2
            | ref q => exact rr (.ref q) (Or.inl ⟨q, rfl⟩) hx
            | null => exact rr .null (Or.inr rfl) hx
            | _ => exact hx.elim
      · exact hx.elim
    · exact hx.elim
  · exact hx.elim
theorem x_own_eq {h : List AE} {i t n : Nat} {f : Nat → Int32} (hx : x_own h i t = some (n, f)) : l_get h i = some (.inl (t, n, .inl f)) := by
  unfold x_own at hx
  split at hx
  · next t' n' f' hc =>
    cases hb : Nat.beq t' t with
    | false => rw [hb] at hx; cases hx
    | true =>
      rw [hb] at hx
      cases hx
      rw [Nat.eq_of_beq_eq_true hb] at hc
      exact hc
  · cases hx
theorem x_ints_eq {h : List AE} {i t n : Nat} {f : Nat → Int32} (hx : x_ints P h i t = some (n, f)) : l_get h i = some (.inl (t, n, .inl f)) ∨ (i, t, n, f) ∈ P.2.2.2.2.2 := by
  unfold x_ints at hx
  split at hx
  · next t' n' f' hc =>
    cases hb : Nat.beq t' t with
    | false => rw [hb] at hx; cases hx
    | true =>
      rw [hb] at hx
      cases hx
      rw [Nat.eq_of_beq_eq_true hb] at hc
      exact Or.inl hc
  · cases hx
  · split at hx
    · next t' n' f' hc =>
      cases hb : Nat.beq t' t with
      | false => rw [hb] at hx; cases hx
      | true =>
        rw [hb] at hx
        cases hx
        rw [Nat.eq_of_beq_eq_true hb] at hc
        exact Or.inr (a_look_mem hc)
    · cases hx
theorem x_refs_eq {h : List AE} {i t n : Nat} {f : Nat → Option Nat} (hx : x_refs h i = some (t, n, f)) : l_get h i = some (.inl (t, n, .inr (.inr (.inr (.inr f))))) := by
  unfold x_refs at hx
  split at hx
  · next t' n' f' hc => cases hx; exact hc
  · cases hx
theorem x_len_eq {h : List AE} {i n : Nat} (hx : x_len P h i = some n) : (∃ t x, t < 5 ∧ l_get h i = some (.inl (t, n, x))) ∨ ∃ t f, (i, t, n, f) ∈ P.2.2.2.2.2 := by
  unfold x_len at hx
  split at hx
  · next t' n' x' hc =>
    cases hb : Nat.blt t' 5 with
    | false => rw [hb] at hx; cases hx
    | true => rw [hb] at hx; cases hx; exact Or.inl ⟨_, _, by simpa using hb, hc⟩
  · cases hx
  · split at hx
    · next t' n' f' hc => cases hx; exact Or.inr ⟨_, _, a_look_mem hc⟩
    · cases hx
theorem t_lt {t : Nat} {tc : Nat → ClassId} (h : t < 5) : ∃ u, (TY tc)[t]? = some (tc t, u) := by
  match t, h with
  | 0, _ => exact ⟨_, rfl⟩
  | 1, _ => exact ⟨_, rfl⟩
  | 2, _ => exact ⟨_, rfl⟩
  | 3, _ => exact ⟨_, rfl⟩
  | 4, _ => exact ⟨_, rfl⟩
theorem ce_fst (tc : Nat → ClassId) (ad : Nat → Nat) (t n : Nat) (x) : ∃ y, ce tc ad (.inl (t, n, x)) = .inl (tc t, n, y) := by
  match x with
  | .inl f => exact ⟨_, rfl⟩
  | .inr (.inl f) => exact ⟨_, rfl⟩
  | .inr (.inr (.inl f)) => exact ⟨_, rfl⟩
  | .inr (.inr (.inr (.inl f))) => exact ⟨_, rfl⟩
  | .inr (.inr (.inr (.inr f))) => exact ⟨_, rfl⟩
theorem snd_arr (C0 : CX p s m args c cl D tc ad N nL cc own Ts X) (hF : FarOK Ts X own P) {pc : Nat} {i : Instr} {ls : LV} {st : List Value} {h : List AE} {k : KP} (hdg : decode cc pc = .ok (i, 1))
    (hi : i = .arraylength ∨ i = .iaload ∨ i = .baload ∨ i = .iastore ∨ i = .bastore ∨ i = .aaload)
    (hk : ∀ ls' st' h', k ls' st' h' → WW p l e R s m args below meth c cells slots Q cl D tc ad N nL (pc + 1) ls' st' h')
    (hx : x_step P CT d nL ty (WW p l e R s m args below meth c cells slots Q cl D tc ad N nL) RT pc ls st h k i) : WW p l e R s m args below meth c cells slots Q cl D tc ad N nL pc ls st h := by
  obtain ⟨hxe, hb, hml, hown, hts, hK, hI, hR⟩ := C0
  rcases hi with rfl | rfl | rfl | rfl | rfl | rfl
  · simp only [x_step] at hx
    split at hx
    · next a r =>
      split at hx
      · next n hn =>
        intro H locs la h1 h2 h3 h4
        rcases x_len_eq hn with ⟨t, x, ht, hc⟩ | ⟨t, f, hc⟩
        · obtain ⟨y, hy⟩ := ce_fst tc ad t n x
          have hw := wm_get0 (tc := tc) (ad := ad) hc
          rw [hy] at hw
          obtain ⟨u, hu⟩ := t_lt (tc := tc) ht
          exact va_alen hxe hb hK h2 a t hw hu rfl hdg (hk _ _ _ hx H locs la h1 h2 h3 h4)
        · rcases hF.2.1 _ hc with ⟨-, g⟩ | ⟨-, g⟩
          · exact va_tlen hxe hb (hR.2.2.1 _ g) h3 rfl hdg (hk _ _ _ hx H locs la h1 h2 h3 h4)
          · exact va_tlen hxe hb (hR.2.2.1 _ g) h3 rfl hdg (hk _ _ _ hx H locs la h1 h2 h3 h4)
      · exact hx.elim
    · exact hx.elim
  · simp only [x_step] at hx
    split at hx
    · next i a r =>
      split at hx
      · next n f hn =>
        intro H locs la h1 h2 h3 h4
        rcases x_ints_eq hn with hc | hc
        · exact va_iald hxe hb hK h2 a 0 (wm_get0 hc) rfl hx.1 hdg (hk _ _ _ hx.2 H locs la h1 h2 h3 h4)
        · rcases hF.2.1 _ hc with ⟨-, g⟩ | ⟨z, -⟩
          · exact va_ti hxe hb (hR.2.2.1 _ g) h3 hx.1 rfl hdg (hk _ _ _ hx.2 H locs la h1 h2 h3 h4)
          · cases z
      · exact hx.elim
    · exact hx.elim
  · simp only [x_step] at hx
    split at hx
    · next i a r =>
      split at hx
      · next n f hn =>
        intro H locs la h1 h2 h3 h4
        rcases x_ints_eq hn with hc | hc
        · exact va_bald hxe hb hK h2 a 1 (wm_get0 hc) rfl hx.1 hdg (hk _ _ _ hx.2 H locs la h1 h2 h3 h4)
        · rcases hF.2.1 _ hc with ⟨z, -⟩ | ⟨-, g⟩
          · cases z
          · exact va_tb hxe hb (hR.2.2.1 _ g) h3 hx.1 rfl hdg (hk _ _ _ hx.2 H locs la h1 h2 h3 h4)
      · split at hx
        · next n f hn =>
          intro H locs la h1 h2 h3 h4
          exact va_zald hxe hb hK h2 a 2 (wm_get0 (x_own_eq hn)) rfl hx.1 hdg (hk _ _ _ hx.2 H locs la h1 h2 h3 h4)
        · exact hx.elim
    · exact hx.elim
  · simp only [x_step] at hx
    split at hx
    · next x i a r =>
      split at hx
      · next n f hn =>
        intro H locs la h1 h2 h3 h4
        refine va_iast hxe hb hK h2 (wm_D h1 hI) h3 a 0 (wm_get0 (x_own_eq hn)) rfl hx.1 hdg fun H1 locs1 hP1 hD1 hS1 => ?_
        have hP1 : va_P D cl ((wm tc ad 0 h).set a (ad a, ce tc ad (.inl (0, n, .inl (upd f i.toNatClampNeg x))))) H1 := hP1
        rw [wm_set0] at hP1
        exact hk _ _ _ (l_put_eq _ _ _ _ hx.2) H1 locs1 la (by rw [List.length_set]; exact h1) hP1 hS1 h4
      · exact hx.elim
    · exact hx.elim
  · simp only [x_step] at hx
    split at hx
    · next x i a r =>
      split at hx
      · next n f hn =>
        intro H locs la h1 h2 h3 h4
        refine va_bast hxe hb hK h2 (wm_D h1 hI) h3 a 1 (wm_get0 (x_own_eq hn)) rfl hx.1 hdg fun H1 locs1 hP1 hD1 hS1 => ?_
        have hP1 : va_P D cl ((wm tc ad 0 h).set a (ad a, ce tc ad (.inl (1, n, .inl (upd f i.toNatClampNeg (vp_nar .byte x)))))) H1 := hP1
        rw [wm_set0] at hP1
        exact hk _ _ _ (l_put_eq _ _ _ _ hx.2) H1 locs1 la (by rw [List.length_set]; exact h1) hP1 hS1 h4
      · split at hx
        · next n f hn =>
          intro H locs la h1 h2 h3 h4
          refine va_zast hxe hb hK h2 (wm_D h1 hI) h3 a 2 (wm_get0 (x_own_eq hn)) rfl hx.1 hdg fun H1 locs1 hP1 hD1 hS1 => ?_
          have hP1 : va_P D cl ((wm tc ad 0 h).set a (ad a, ce tc ad (.inl (2, n, .inl (upd f i.toNatClampNeg (vp_nar .boolean x)))))) H1 := hP1
          rw [wm_set0] at hP1
          exact hk _ _ _ (l_put_eq _ _ _ _ hx.2) H1 locs1 la (by rw [List.length_set]; exact h1) hP1 hS1 h4
        · exact hx.elim
    · exact hx.elim
  · simp only [x_step] at hx
    split at hx
    · next i a r =>
      split at hx
      · next t n f hn =>
        obtain ⟨g1, g2, q, g3, g4⟩ := hx
        intro H locs la h1 h2 h3 h4
        have hf : va_rf ((f i.toNatClampNeg).map ad) = cv ad (.ref q) := by rw [g3]; rfl
        rcases g1 with rfl | rfl
        · refine va_aldq hxe hb hK h2 a 3 (wm_get0 (x_refs_eq hn)) rfl g2 hdg ?_
          rw [hf]
          exact hk _ _ _ g4 H locs la h1 h2 h3 h4
        · refine va_aldq hxe hb hK h2 a 4 (wm_get0 (x_refs_eq hn)) rfl g2 hdg ?_
          rw [hf]
          exact hk _ _ _ g4 H locs la h1 h2 h3 h4
      · exact hx.elim
    · exact hx.elim
end SN2

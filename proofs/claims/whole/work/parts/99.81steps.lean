/-! a constructor's walk, instruction by instruction -/
theorem wm_len (tc : Nat → ClassId) (ad : Nat → Nat) : ∀ (h : List AE) (k : Nat), (wm tc ad k h).length = h.length
  | [], _ => rfl
  | _ :: t, k => by show (wm tc ad (k + 1) t).length + 1 = t.length + 1; rw [wm_len tc ad t]
theorem cat_le {b : Nat} {st : List Value} (h : Nat.ble (x_cat st) 8 = true) : ((st.map (cv (sg b))).map fun v => v.category).sum ≤ 8 := by
  have e : (st.map (cv (sg b))).map (fun v => v.category) = st.map fun v => v.category := by
    rw [List.map_map]
    exact List.map_congr_left fun v _ => cv_cat _ v
  rw [e, ← x_cat_eq]
  exact Nat.le_of_ble_eq_true h
theorem seg_new {D : va_G} {tc : Nat → ClassId} {b n : Nat} {h : List AE} {q : Nat} {c9 : va_E} {H1 : Heap} (hP : va_P D vwCl (wm tc (sg b) 0 h ++ [(q, c9)]) H1) (hD : va_D (fun q => b ≤ q) (wm tc (sg b) 0 h ++ [(q, c9)])) (hn : n ≤ b + h.length) (hz : H1.size ≤ n + 1) : q = b + h.length := by
  have e0 : (wm tc (sg b) 0 h ++ [(q, c9)])[h.length]? = some (q, c9) := by
    rw [List.getElem?_append_right (by rw [wm_len]; exact Nat.le_refl _), wm_len, Nat.sub_self]
    rfl
  have h1 := (hP _ _ e0).lt
  have h2 : b ≤ q := hD.2 _ _ e0
  have h1 : q < H1.size := h1
  rcases Nat.lt_or_ge q (b + h.length) with z | z
  · have e1 : (wm tc (sg b) 0 h ++ [(q, c9)])[q - b]? = some (b + (q - b), ce tc (sg b) (h[q - b]'(by omega))) := by
      rw [List.getElem?_append_left (by rw [wm_len]; omega), wm_get, List.getElem?_eq_getElem (by omega), Nat.zero_add]
      rfl
    have := hD.1 _ _ _ _ e0 e1 (by show q = b + (q - b); omega)
    omega
  · omega
section GS
variable {p : Program} {l : Launch} {e : Env} {R : Room} {s : State} {m : MethodId} {args : Array Value} {below : List Frame} {meth : Method} {c : Code} {Q : State → Prop}
variable {D : va_G} {tc : Nat → ClassId} {b w0 nL d mc ms : Nat} {cc : ByteArray} {own : String} {h1 : List AE} {pc : Nat} {ls : LV} {st : List Value} {h : List AE}
theorem g_al (G : GC p l e R s m args below meth c Q D tc cc own b w0 nL d mc ms h1) {k : Fin 4} {i : Nat} (hdg : decode cc pc = .ok (.aload_n k, 1)) (hv : a_look ls k.val = some (.ref i)) (kk : GW p l e R s m args below meth c Q D tc b w0 nL (pc + 1) ls (.ref i :: st) h) : GW p l e R s m args below meth c Q D tc b w0 nL pc ls st h := fun H locs la a1 a2 a3 a4 a5 => lv_aload_n G.1.1 G.1.2.1 hdg rfl (lc_at a5 hv) (kk H locs la a1 a2 a3 a4 a5)
theorem g_il (G : GC p l e R s m args below meth c Q D tc cc own b w0 nL d mc ms h1) {k : Fin 4} {x : Int32} (hdg : decode cc pc = .ok (.iload_n k, 1)) (hv : a_look ls k.val = some (.int x)) (kk : GW p l e R s m args below meth c Q D tc b w0 nL (pc + 1) ls (.int x :: st) h) : GW p l e R s m args below meth c Q D tc b w0 nL pc ls st h := fun H locs la a1 a2 a3 a4 a5 => lv_iload_n G.1.1 G.1.2.1 hdg rfl (lc_at a5 hv) (kk H locs la a1 a2 a3 a4 a5)
theorem g_ic (G : GC p l e R s m args below meth c Q D tc cc own b w0 nL d mc ms h1) {n : Int} (v : Int32) (hdg : decode cc pc = .ok (.iconst n, 1)) (hv : Int32.ofInt n = v) (kk : GW p l e R s m args below meth c Q D tc b w0 nL (pc + 1) ls (.int v :: st) h) : GW p l e R s m args below meth c Q D tc b w0 nL pc ls st h := fun H locs la a1 a2 a3 a4 a5 => lv_iconst G.1.1 G.1.2.1 hdg hv (kk H locs la a1 a2 a3 a4 a5)
theorem g_bi (G : GC p l e R s m args below meth c Q D tc cc own b w0 nL d mc ms h1) {n : Int} (v : Int32) (hdg : decode cc pc = .ok (.bipush n, 2)) (hv : (Int8.ofInt n).toInt32 = v) (kk : GW p l e R s m args below meth c Q D tc b w0 nL (pc + 2) ls (.int v :: st) h) : GW p l e R s m args below meth c Q D tc b w0 nL pc ls st h := fun H locs la a1 a2 a3 a4 a5 => lv_bipush G.1.1 G.1.2.1 hdg hv (kk H locs la a1 a2 a3 a4 a5)
theorem g_si (G : GC p l e R s m args below meth c Q D tc cc own b w0 nL d mc ms h1) {n : Int} (v : Int32) (hdg : decode cc pc = .ok (.sipush n, 3)) (hv : (Int16.ofInt n).toInt32 = v) (kk : GW p l e R s m args below meth c Q D tc b w0 nL (pc + 3) ls (.int v :: st) h) : GW p l e R s m args below meth c Q D tc b w0 nL pc ls st h := fun H locs la a1 a2 a3 a4 a5 => lv_sipush G.1.1 G.1.2.1 hdg hv (kk H locs la a1 a2 a3 a4 a5)
theorem g_du (G : GC p l e R s m args below meth c Q D tc cc own b w0 nL d mc ms h1) {v : Value} (hdg : decode cc pc = .ok (.dup, 1)) (hv : v_two v = false) (kk : GW p l e R s m args below meth c Q D tc b w0 nL (pc + 1) ls (v :: v :: st) h) : GW p l e R s m args below meth c Q D tc b w0 nL pc ls (v :: st) h := fun H locs la a1 a2 a3 a4 a5 => lv_dup G.1.1 G.1.2.1 hdg (v_one hv _) (kk H locs la a1 a2 a3 a4 a5)
theorem g_ad (G : GC p l e R s m args below meth c Q D tc cc own b w0 nL d mc ms h1) {x y : Int32} (hdg : decode cc pc = .ok (.iadd, 1)) (kk : GW p l e R s m args below meth c Q D tc b w0 nL (pc + 1) ls (.int (x + y) :: st) h) : GW p l e R s m args below meth c Q D tc b w0 nL pc ls (.int y :: .int x :: st) h := fun H locs la a1 a2 a3 a4 a5 => lv_iadd G.1.1 G.1.2.1 hdg (kk H locs la a1 a2 a3 a4 a5)
theorem g_is (G : GC p l e R s m args below meth c Q D tc cc own b w0 nL d mc ms h1) {k : Fin 4} {x : Int32} {ls1 : LV} (hdg : decode cc pc = .ok (.istore_n k, 1)) (hk : k.val < nL) (hl : (k.val, Value.int x) :: ls.filter (fun q => !(q.1 == k.val) && !(q.1 + 1 == k.val && q.2.category == 2)) = ls1) (kk : GW p l e R s m args below meth c Q D tc b w0 nL (pc + 1) ls1 st h) : GW p l e R s m args below meth c Q D tc b w0 nL pc ls (.int x :: st) h := fun H locs la a1 a2 a3 a4 a5 => lv_istore_n G.1.1 G.1.2.1 hdg rfl a5 hk (by rw [lc_f1]) (fun la1 a6 => kk H locs la1 a1 a2 a3 a4 (by rw [← hl]; exact a6))
theorem g_in (G : GC p l e R s m args below meth c Q D tc cc own b w0 nL d mc ms h1) {i k : Nat} {n : Int} {x v : Int32} {ls1 : LV} (hdg : decode cc pc = .ok (.iinc i n, 3)) (hq : ls[k]? = some (i, .int x)) (hv : x + Int32.ofInt n = v) (hk : i < nL) (hl : (i, Value.int v) :: ls.filter (fun q => !(q.1 == i) && !(q.1 + 1 == i && q.2.category == 2)) = ls1) (kk : GW p l e R s m args below meth c Q D tc b w0 nL (pc + 3) ls1 st h) : GW p l e R s m args below meth c Q D tc b w0 nL pc ls st h := fun H locs la a1 a2 a3 a4 a5 => lv_iinc (k := k) G.1.1 G.1.2.1 hdg a5 (by unfold lc; rw [List.getElem?_map, hq]; rfl) hv hk (by rw [lc_f1]) (fun la1 a6 => kk H locs la1 a1 a2 a3 a4 (by rw [← hl]; exact a6))
theorem g_go (G : GC p l e R s m args below meth c Q D tc cc own b w0 nL d mc ms h1) {off : Int} (tgt : Nat) (hdg : decode cc pc = .ok (.goto off, 3)) (ht : (pc : Int) + off = (tgt : Int)) (kk : GW p l e R s m args below meth c Q D tc b w0 nL tgt ls st h) : GW p l e R s m args below meth c Q D tc b w0 nL pc ls st h := fun H locs la a1 a2 a3 a4 a5 => lv_goto G.1.1 G.1.2.1 hdg ht (kk H locs la a1 a2 a3 a4 a5)
theorem g_ge (G : GC p l e R s m args below meth c Q D tc cc own b w0 nL d mc ms h1) {x y : Int32} {off : Int} (tgt : Nat) (hdg : decode cc pc = .ok (.if_icmp .ge off, 3)) (ht : (pc : Int) + off = (tgt : Int)) (kt : y ≤ x → GW p l e R s m args below meth c Q D tc b w0 nL tgt ls st h) (kf : ¬ y ≤ x → GW p l e R s m args below meth c Q D tc b w0 nL (pc + 3) ls st h) : GW p l e R s m args below meth c Q D tc b w0 nL pc ls (.int y :: .int x :: st) h := fun H locs la a1 a2 a3 a4 a5 => lv_icmp_ge G.1.1 G.1.2.1 hdg ht (fun z => kt z H locs la a1 a2 a3 a4 a5) (fun z => kf z H locs la a1 a2 a3 a4 a5)
theorem g_rt (G : GC p l e R s m args below meth c Q D tc cc own b w0 nL d mc ms h1) (hdg : decode cc pc = .ok (.return_, 1)) (hh : h = h1) : GW p l e R s m args below meth c Q D tc b w0 nL pc ls [] h := by
  subst hh
  exact fun H locs la a1 a2 a3 a4 a5 => G.2.2.2.2 pc la H locs hdg a3 a4
theorem g_oi (G : GC p l e R s m args below meth c Q D tc cc own b w0 nL d mc ms h1) {ix i : Nat} (hdg : decode cc pc = .ok (.invokespecial ix, 3)) (w1 : Cond.methodLink own ix Lib.objectInit ∈ TB) (w2 : Cond.instanceMethod Lib.objectInit ∈ TB) (w3 : Cond.code Lib.objectInit ⟨#[0xb1]⟩ 1 none ∈ TB) (hst : st = []) (hd : 1 ≤ d) (kk : GW p l e R s m args below meth c Q D tc b w0 nL (pc + 3) ls st h) : GW p l e R s m args below meth c Q D tc b w0 nL pc ls (.ref i :: st) h := by
  subst hst
  intro H locs la a1 a2 a3 a4 a5
  obtain ⟨⟨hx, hb, hml, hown, hts, hK, hXW⟩, hin, hbs, ⟨r1, r2, r3, r4⟩, hret⟩ := G
  refine W.objInit hx hb hown (hts _ w1) (hts _ w2) (hts _ w3) rfl (by rw [hml]; exact a5.1) rfl hdg (by omega) (by show 2 * 0 + 0 + 12 ≤ _; omega) ?_
  exact kk H locs la a1 a2 a3 a4 a5
theorem g_pu (G : GC p l e R s m args below meth c Q D tc cc own b w0 nL d mc ms h1) {q0 ci k Nf ix : Nat} {C : String} {F : u_T} {fs : List Value} {v : Value} {ty : FieldType} (h9 : List AE) (hdg : decode cc pc = .ok (.putfield ix, 3)) (hc : vwCl[ci]? = some (C, F, Nf)) (hh : l_get h q0 = some (.inr (ci, fs))) (hk : k < Nf) (hlen : k < fs.length) (w1 : Cond.fieldLink own ix (F k).1 (F k).2.1 (F k).2.2.1 ∈ TB) (hd : parseFieldDescriptor (F k).2.2.1 = some ty) (hn : ∀ f, narrow ty (cv f v) = cv f v ∧ fits ty (cv f v) = true) (hf : (F k).2.2.2 = false ∨ ((F k).2.2.2 = true ∧ (F k).1 = own)) (h9e : h.set q0 (.inr (ci, fs.set k v)) = h9) (kk : GW p l e R s m args below meth c Q D tc b w0 nL (pc + 3) ls st h9) : GW p l e R s m args below meth c Q D tc b w0 nL pc ls (v :: .ref q0 :: st) h := by
  intro H locs la a1 a2 a3 a4 a5
  obtain ⟨⟨hx, hb, hml, hown, hts, hK, hXW⟩, hin, hbs, ⟨r1, r2, r3, r4⟩, hret⟩ := G
  obtain ⟨cl1, ty0, cl2, cl3⟩ := cls_ok ci C F Nf hc
  have hh' : h[q0]? = some (.inr (ci, fs)) := by rw [← l_get_eq]; exact hh
  have hw : wsz h9 = wsz h := by rw [← h9e]; exact wsz_set h q0 _ _ hh' (by show (fs.set k v).length = fs.length; rw [List.length_set])
  have hl9 : h9.length = h.length := by rw [← h9e, List.length_set]
  have go : ∀ (H1 : Heap) (locs1 : List Loc), va_P D vwCl ((wm tc (sg b) 0 h).set q0 (sg b q0, .inr (ci, (fs.map (cv (sg b))).set k (cv (sg b) v)))) H1 → va_S (fun q => b ≤ q) s.heap H1 locs1 → W p l e R s m args below meth c H1 locs1 (h.length - 1) (wsz h - w0) Q (F0 m (pc + 3) la (st.map (cv (sg b)))) := by
    intro H1 locs1 hP1 hS1
    rw [fs_set] at hP1
    have hP1 : va_P D vwCl ((wm tc (sg b) 0 h).set q0 (sg b q0, ce tc (sg b) (.inr (ci, fs.set k v)))) H1 := hP1
    rw [wm_set0, h9e] at hP1
    have z := kk H1 locs1 la (by omega) (by omega) hP1 hS1 a5
    rw [hw, hl9] at z
    exact z
  rcases hf with hf | ⟨hf, hdecl⟩
  · exact va_put hx hb hts cl1 ty0 cl2 cl3 hown hK a3 seg_D a4 q0 (wm_get0 hh) hc k hk (hts _ w1) (fun _ z => z) hf hd (hn _).1 (hn _).2 (by rw [List.length_map]; exact hlen) hdg fun H1 locs1 hP1 hD1 hS1 => go H1 locs1 hP1 hS1
  · exact va_putF hx hb hts cl1 ty0 cl2 cl3 hown hK a3 seg_D a4 q0 (wm_get0 hh) hc k hk (hts _ w1) (fun _ z => z) hf hin hdecl hd (hn _).1 (hn _).2 (by rw [List.length_map]; exact hlen) hdg fun H1 locs1 hP1 hD1 hS1 => go H1 locs1 hP1 hS1
theorem g_ge_f (G : GC p l e R s m args below meth c Q D tc cc own b w0 nL d mc ms h1) {q0 ci k Nf ix : Nat} {C : String} {F : u_T} {fs : List Value} {v : Value} (hdg : decode cc pc = .ok (.getfield ix, 3)) (hc : vwCl[ci]? = some (C, F, Nf)) (hh : l_get h q0 = some (.inr (ci, fs))) (hk : k < Nf) (w1 : Cond.fieldLink own ix (F k).1 (F k).2.1 (F k).2.2.1 ∈ TB) (hv : l_get fs k = some v) (kk : GW p l e R s m args below meth c Q D tc b w0 nL (pc + 3) ls (v :: st) h) : GW p l e R s m args below meth c Q D tc b w0 nL pc ls (.ref q0 :: st) h := by
  intro H locs la a1 a2 a3 a4 a5
  obtain ⟨⟨hx, hb, hml, hown, hts, hK, hXW⟩, hin, hbs, ⟨r1, r2, r3, r4⟩, hret⟩ := G
  exact va_get hx hb hts (cls_ok ci C F Nf hc).1 hown hK a3 q0 (wm_get0 hh) hc k hk (hts _ w1) (fun _ z => z) (l_get_map hv _) hdg (kk H locs la a1 a2 a3 a4 a5)
theorem g_nw (G : GC p l e R s m args below meth c Q D tc cc own b w0 nL d mc ms h1) {ci Nf ix : Nat} {C : String} {F : u_T} {fs : List Value} (ty : Nat → FieldType) (h9 : List AE) (hdg : decode cc pc = .ok (.new ix, 3)) (hc : vwCl[ci]? = some (C, F, Nf)) (hty : ∀ k, k < Nf → parseFieldDescriptor (F k).2.2.1 = some (ty k)) (w1 : Cond.classLink own ix C ∈ TB) (w2 : Cond.instantiable C Nf ∈ TB) (w3 : Cond.initialized C ∈ TB) (hcv : ∀ f, fs.map (cv f) = fs) (hlen : fs.length = Nf) (hfs : ∀ j, j < Nf → defaultValue (ty j) = vp_V fs j) (g1 : Nat.ble h.length mc = true) (g2 : Nat.ble (wsz h + Nf) (ms + w0) = true) (h9e : h ++ [.inr (ci, fs)] = h9) (kk : GW p l e R s m args below meth c Q D tc b w0 nL (pc + 3) ls (.ref h.length :: st) h9) : GW p l e R s m args below meth c Q D tc b w0 nL pc ls st h := by
  intro H locs la a1 a2 a3 a4 a5
  have g1 := Nat.le_of_ble_eq_true g1
  have g2 := Nat.le_of_ble_eq_true g2
  obtain ⟨⟨hx, hb, hml, hown, hts, hK, hXW⟩, hin, hbs, ⟨r1, r2, r3, r4⟩, hret⟩ := G
  refine va_new hx hb hts (cls_ok ci C F Nf hc).1 ty hty hown (hts _ w1) (hts _ w2) (hts _ w3) hK a3 seg_D a4 (fun q z => by show b ≤ q; omega) hc hfs (by omega) (by omega) hdg fun q H1 hP1 hD1 hS1 => ?_
  refine W_sz fun hz => ?_
  have hq := seg_new (n := s.heap.size + (h.length - 1)) hP1 hD1 (by omega) (by omega)
  subst hq
  have e1 : wm tc (sg b) 0 h ++ [(b + h.length, Sum.inr (ci, fs))] = wm tc (sg b) 0 h9 := by
    rw [← h9e, wm_app, Nat.zero_add]
    show _ = _ ++ [(b + h.length, Sum.inr (ci, fs.map (cv (sg b))))]
    rw [hcv]
  rw [e1] at hP1
  have z1 : h9.length = h.length + 1 := by rw [← h9e, List.length_append]; rfl
  have z2 : wsz h9 = wsz h + Nf := by rw [← h9e, wsz_app]; show wsz h + (fs.length + 0) = _; omega
  have z := kk H1 locs la (by omega) (by omega) hP1 hS1 a5
  rw [show h9.length - 1 = h.length - 1 + 1 by omega, show wsz h9 - w0 = wsz h - w0 + Nf by omega] at z
  exact z
theorem g_na (G : GC p l e R s m args below meth c Q D tc cc own b w0 nL d mc ms h1) {at0 : ArrayType} {n : Int32} (N t : Nat) (ty : FieldType) (h9 : List AE) (hdg : decode cc pc = .ok (.newarray at0, 2)) (hty : newarray.typeOf at0 = ty) (ht : (TY tc)[t]? = some (tc t, ty)) (hdv : defaultValue ty = .int 0) (hobj : ∀ cA, va_RA s cA ty → s.vm.findClass ("[" ++ ty.toString) = some cA) (w1 : Cond.arrayClass ty ∈ TB) (hn : ¬ n < 0) (hN : n.toNatClampNeg = N) (hby : Nat.ble (N * componentBytes ty) 536870912 = true) (g1 : Nat.ble h.length mc = true) (g2 : Nat.ble (wsz h + N) (ms + w0) = true) (h9e : h ++ [.inl (t, N, .inl (fun _ => 0))] = h9) (kk : GW p l e R s m args below meth c Q D tc b w0 nL (pc + 2) ls (.ref h.length :: st) h9) : GW p l e R s m args below meth c Q D tc b w0 nL pc ls (.int n :: st) h := by
  intro H locs la a1 a2 a3 a4 a5
  have g1 := Nat.le_of_ble_eq_true g1
  have g2 := Nat.le_of_ble_eq_true g2
  obtain ⟨⟨hx, hb, hml, hown, hts, hK, hXW⟩, hin, hbs, ⟨r1, r2, r3, r4⟩, hret⟩ := G
  refine va_newa (atype := at0) (a0 := (N, .inl (fun _ => 0))) hx hb (by rw [hty]; exact hts _ w1) hty hK a3 seg_D a4 (fun q z => by show b ≤ q; omega) (fun cA => by rw [vp_cell_i, hdv]) hn hN (Nat.le_of_ble_eq_true hby) (by omega) (by omega) hdg fun q cA H1 hK1 hP1 hD1 hS1 => ?_
  refine W_sz fun hz => ?_
  have hq := seg_new (n := s.heap.size + (h.length - 1)) hP1 hD1 (by omega) (by omega)
  subst hq
  have hcA : cA = tc t := by
    have k1 := hobj _ (hK1.2 5 _ rfl).2
    have k2 := hobj _ (hK.2 t _ ht).2
    exact Option.some.inj (k1.symm.trans k2)
  subst hcA
  have e1 : wm tc (sg b) 0 h ++ [(b + h.length, Sum.inl (tc t, (N, Sum.inl (fun _ => 0))))] = wm tc (sg b) 0 h9 := by
    rw [← h9e, wm_app, Nat.zero_add]
    rfl
  rw [e1] at hP1
  have z1 : h9.length = h.length + 1 := by rw [← h9e, List.length_append]; rfl
  have z2 : wsz h9 = wsz h + N := by rw [← h9e, wsz_app]; rfl
  have z := kk H1 locs la (by omega) (by omega) hP1 hS1 a5
  rw [show h9.length - 1 = h.length - 1 + 1 by omega, show wsz h9 - w0 = wsz h - w0 + N by omega] at z
  exact z
theorem g_aa (G : GC p l e R s m args below meth c Q D tc cc own b w0 nL d mc ms h1) {ix : Nat} {n : Int32} (N t : Nat) (C : String) (h9 : List AE) (hdg : decode cc pc = .ok (.anewarray ix, 3)) (ht : (TY tc)[t]? = some (tc t, .object C)) (hao : va_AO C s) (w1 : Cond.classLink own ix C ∈ TB) (hn : ¬ n < 0) (hN : n.toNatClampNeg = N) (hby : Nat.ble (N * 4) 536870912 = true) (g1 : Nat.ble h.length mc = true) (g2 : Nat.ble (wsz h + N) (ms + w0) = true) (h9e : h ++ [.inl (t, N, .inr (.inr (.inr (.inr (fun _ => none)))))] = h9) (kk : GW p l e R s m args below meth c Q D tc b w0 nL (pc + 3) ls (.ref h.length :: st) h9) : GW p l e R s m args below meth c Q D tc b w0 nL pc ls (.int n :: st) h := by
  intro H locs la a1 a2 a3 a4 a5
  have g1 := Nat.le_of_ble_eq_true g1
  have g2 := Nat.le_of_ble_eq_true g2
  obtain ⟨⟨hx, hb, hml, hown, hts, hK, hXW⟩, hin, hbs, ⟨r1, r2, r3, r4⟩, hret⟩ := G
  refine va_newq hx hb hown (hts _ w1) hao hK a3 seg_D a4 (fun q z => by show b ≤ q; omega) hn hN (Nat.le_of_ble_eq_true hby) (by omega) (by omega) hdg fun q cA H1 hK1 hP1 hD1 hS1 => ?_
  refine W_sz fun hz => ?_
  have hq := seg_new (n := s.heap.size + (h.length - 1)) hP1 hD1 (by omega) (by omega)
  subst hq
  have hcA : cA = tc t := by
    obtain ⟨_, _, _, _, _, k1⟩ := (hK1.2 5 _ rfl).2
    obtain ⟨_, _, _, _, _, k2⟩ := (hK.2 t _ ht).2
    exact Option.some.inj (k1.symm.trans k2)
  subst hcA
  have e1 : wm tc (sg b) 0 h ++ [(b + h.length, Sum.inl (tc t, (N, Sum.inr (Sum.inr (Sum.inr (Sum.inr (fun _ => none)))))))] = wm tc (sg b) 0 h9 := by
    rw [← h9e, wm_app, Nat.zero_add]
    rfl
  rw [e1] at hP1
  have z1 : h9.length = h.length + 1 := by rw [← h9e, List.length_append]; rfl
  have z2 : wsz h9 = wsz h + N := by rw [← h9e, wsz_app]; rfl
  have z := kk H1 locs la (by omega) (by omega) hP1 hS1 a5
  rw [show h9.length - 1 = h.length - 1 + 1 by omega, show wsz h9 - w0 = wsz h - w0 + N by omega] at z
  exact z
theorem g_si_a (G : GC p l e R s m args below meth c Q D tc cc own b w0 nL d mc ms h1) {q0 n : Nat} {i x : Int32} {f : Nat → Int32} (h9 : List AE) (hdg : decode cc pc = .ok (.iastore, 1)) (hh : l_get h q0 = some (.inl (0, n, .inl f))) (hin : vp_in i n) (h9e : h.set q0 (.inl (0, n, .inl (upd f i.toNatClampNeg x))) = h9) (kk : GW p l e R s m args below meth c Q D tc b w0 nL (pc + 1) ls st h9) : GW p l e R s m args below meth c Q D tc b w0 nL pc ls (.int x :: .int i :: .ref q0 :: st) h := by
  intro H locs la a1 a2 a3 a4 a5
  obtain ⟨⟨hx, hb, hml, hown, hts, hK, hXW⟩, hin9, hbs, ⟨r1, r2, r3, r4⟩, hret⟩ := G
  have hh' : h[q0]? = some (.inl (0, n, .inl f)) := by rw [← l_get_eq]; exact hh
  have hw : wsz h9 = wsz h := by rw [← h9e]; exact wsz_set h q0 _ _ hh' rfl
  have hl9 : h9.length = h.length := by rw [← h9e, List.length_set]
  refine va_iast hx hb hK a3 seg_D a4 q0 0 (wm_get0 hh) rfl hin hdg fun H1 locs1 hP1 hD1 hS1 => ?_
  have hP1 : va_P D vwCl ((wm tc (sg b) 0 h).set q0 (sg b q0, ce tc (sg b) (.inl (0, n, .inl (upd f i.toNatClampNeg x))))) H1 := hP1
  rw [wm_set0, h9e] at hP1
  have z := kk H1 locs1 la (by omega) (by omega) hP1 hS1 a5
  rw [hw, hl9] at z
  exact z
theorem g_as (G : GC p l e R s m args below meth c Q D tc cc own b w0 nL d mc ms h1) {q0 qk n ci t Nf : Nat} {i : Int32} {vs : List Value} {C : String} {F : u_T} {f : Nat → Option Nat} (E : String) (h9 : List AE) (hdg : decode cc pc = .ok (.aastore, 1)) (hh : l_get h q0 = some (.inl (t, n, .inr (.inr (.inr (.inr f)))))) (hq : l_get h qk = some (.inr (ci, vs))) (hc : vwCl[ci]? = some (C, F, Nf)) (ht : (TY tc)[t]? = some (tc t, .object E)) (hca : C = E ∨ va_Nw (.castable C E) s) (hin : vp_in i n) (h9e : h.set q0 (.inl (t, n, .inr (.inr (.inr (.inr (va_up f i.toNatClampNeg (some qk))))))) = h9) (kk : GW p l e R s m args below meth c Q D tc b w0 nL (pc + 1) ls st h9) : GW p l e R s m args below meth c Q D tc b w0 nL pc ls (.ref qk :: .int i :: .ref q0 :: st) h := by
  intro H locs la a1 a2 a3 a4 a5
  obtain ⟨⟨hx, hb, hml, hown, hts, hK, hXW⟩, hin9, hbs, ⟨r1, r2, r3, r4⟩, hret⟩ := G
  have hh' : h[q0]? = some (.inl (t, n, .inr (.inr (.inr (.inr f))))) := by rw [← l_get_eq]; exact hh
  have hw : wsz h9 = wsz h := by rw [← h9e]; exact wsz_set h q0 _ _ hh' rfl
  have hl9 : h9.length = h.length := by rw [← h9e, List.length_set]
  have ef : va_up (fun j => (f j).map (sg b)) i.toNatClampNeg (some (sg b qk)) = fun j => ((va_up f i.toNatClampNeg (some qk)) j).map (sg b) := by
    funext j
    unfold va_up
    split <;> rfl
  have go : ∀ (H1 : Heap) (locs1 : List Loc), va_P D vwCl ((wm tc (sg b) 0 h).set q0 (sg b q0, .inl (tc t, n, .inr (.inr (.inr (.inr (va_up (fun j => (f j).map (sg b)) i.toNatClampNeg (some (sg b qk)))))))) ) H1 → va_S (fun q => b ≤ q) s.heap H1 locs1 → W p l e R s m args below meth c H1 locs1 (h.length - 1) (wsz h - w0) Q (F0 m (pc + 1) la (st.map (cv (sg b)))) := by
    intro H1 locs1 hP1 hS1
    rw [ef] at hP1
    have hP1 : va_P D vwCl ((wm tc (sg b) 0 h).set q0 (sg b q0, ce tc (sg b) (.inl (t, n, .inr (.inr (.inr (.inr (va_up f i.toNatClampNeg (some qk))))))))) H1 := hP1
    rw [wm_set0, h9e] at hP1
    have z := kk H1 locs1 la (by omega) (by omega) hP1 hS1 a5
    rw [hw, hl9] at z
    exact z
  rcases hca with rfl | hca
  · exact va_astq (r := (C, F, Nf)) hx hb hK a3 seg_D a4 q0 t qk ci (wm_get0 hh) ht (wm_get0 hq) hc hin hdg fun H1 locs1 hP1 hD1 hS1 => go H1 locs1 hP1 hS1
  · exact va_astqO (r := (C, F, Nf)) hx hb hK a3 seg_D a4 q0 t qk ci (wm_get0 hh) ht hca (wm_get0 hq) hc hin hdg fun H1 locs1 hP1 hD1 hS1 => go H1 locs1 hP1 hS1
theorem g_mn (G : GC p l e R s m args below meth c Q D tc cc own b w0 nL d mc ms h1) {ix : Nat} {x y : Int32} (hdg : decode cc pc = .ok (.invokestatic ix, 3)) (w1 : Cond.methodLink own ix Lib.Math.min.name ∈ TB) (w2 : Cond.static Lib.Math.min.name ∈ TB) (w3 : Cond.initialized "java/lang/Math" ∈ TB) (w4 : Cond.code Lib.Math.min.name Lib.Math.min.code 2 (some .int) ∈ TB) (hcat : Nat.ble (x_cat st) 8 = true) (hd : 1 ≤ d) (g1 : Nat.ble h.length (mc + 1) = true) (g2 : Nat.ble (wsz h) (ms + w0) = true) (kk : GW p l e R s m args below meth c Q D tc b w0 nL (pc + 3) ls (.int (if y < x then y else x) :: st) h) : GW p l e R s m args below meth c Q D tc b w0 nL pc ls (.int y :: .int x :: st) h := by
  intro H locs la a1 a2 a3 a4 a5
  have g1 := Nat.le_of_ble_eq_true g1
  have g2 := Nat.le_of_ble_eq_true g2
  have hcat := cat_le (b := b) hcat
  obtain ⟨⟨hx, hb, hml, hown, hts, hK, hXW⟩, hin, hbs, ⟨r1, r2, r3, r4⟩, hret⟩ := G
  exact va_mmin hx hb (hml.trans a5.1.symm) hown (hts _ w1) (hts _ w2) (hts _ w3) (hts _ w4) (by omega) (by omega) (by omega) (by omega) hdg (kk H locs la a1 a2 a3 a4 a5)
theorem g_ct (G : GC p l e R s m args below meth c Q D tc cc own b w0 nL d mc ms h1) {j d1 ix maxL : Nat} {ias : List Value} {pre : List AE} {st0 : List Value} {c0 : AE} {h2 : List AE} {y : MethodName} {bytes : ByteArray} (n : Nat) (h9 : List AE) (hdg : decode cc pc = .ok (.invokespecial ix, 3)) (hN : NC l j ias c0 h2 d1) (hmt : mt j = (y, bytes, maxL, none)) (hm : Cond.code y bytes maxL none ∈ TB) (hy : y.name = "<init>") (hinst : Cond.instanceMethod y ∈ TB) (hini : Cond.initialized y.cls ∈ TB) (hmh : notMH y.cls) (har : arOK ias.length y) (hlk : Cond.methodLink own ix y ∈ TB ∨ ∃ host, Cond.methodLinkNest own ix y host ∈ nestW) (hd : d1 < d) (hmx : maxL ≤ 41) (hi : ∀ f, ias.map (cv f) = ias) (hc0 : shc n c0 = c0) (hh : h = pre ++ [c0]) (hpn : pre.length = n) (hst : st0 = ias.reverse ++ .ref n :: st) (hcat : Nat.ble (x_cat st) 8 = true) (hl2 : Nat.ble 1 h2.length = true) (hw2 : Nat.ble (csz c0) (wsz h2) = true) (g1 : Nat.ble (pre.length + h2.length) (mc + 1) = true) (g2 : Nat.ble (wsz pre + wsz h2) (ms + w0) = true) (h9e : pre ++ h2.map (shc n) = h9) (kk : GW p l e R s m args below meth c Q D tc b w0 nL (pc + 3) ls st h9) : GW p l e R s m args below meth c Q D tc b w0 nL pc ls st0 h := by
  intro H locs la a1 a2 a3 a4 a5
  have g1 := Nat.le_of_ble_eq_true g1
  have g2 := Nat.le_of_ble_eq_true g2
  have hl2 := Nat.le_of_ble_eq_true hl2
  have hw2 := Nat.le_of_ble_eq_true hw2
  have hcat := cat_le (b := b) hcat
  obtain ⟨⟨hx, hb, hml, hown, hts, hK, hXW⟩, hin, hbs, ⟨r1, r2, r3, r4⟩, hret⟩ := G
  subst hh hst hpn
  have lpre : (pre ++ [c0]).length = pre.length + 1 := by rw [List.length_append]; rfl
  have wpre : wsz (pre ++ [c0]) = wsz pre + csz c0 := by rw [wsz_app]; rfl
  rw [lpre, wpre]
  rw [wpre] at a2
  rw [wm_app, Nat.zero_add] at a3
  have hlast : va_P D vwCl [(b + pre.length, ce tc (sg b) c0)] H := fun k q hq => a3 (pre.length + k) q (by
    rw [List.getElem?_append_right (by rw [wm_len]; omega), wm_len, Nat.add_sub_cancel_left]
    exact hq)
  have hpre : va_P D vwCl (wm tc (sg b) 0 pre) H := fun k q hq => a3 k q (by
    rw [List.getElem?_append_left (List.getElem?_eq_some_iff.mp hq).1]
    exact hq)
  have ece : ce tc (sg b) c0 = ce tc (sg (b + pre.length)) c0 := by
    have := ce_sh tc b pre.length c0
    rw [hc0] at this
    exact this
  rw [ece] at hlast
  refine W_sz fun hz => ?_
  have hlt : b + pre.length < H.size := (hlast 0 _ rfl).lt
  have est : (ias.reverse ++ .ref pre.length :: st).map (cv (sg b)) = ias.reverse ++ .ref (b + pre.length) :: st.map (cv (sg b)) := by
    rw [List.map_append, List.map_reverse, hi]
    rfl
  rw [est]
  refine ctor_W hx hb hml hown hts hK hXW hN hmt hm hy hinst hini hmh har hlk ⟨by omega, by omega⟩ ⟨by omega, by omega⟩ a5.1 hcat hdg hlast (by omega) fun H1 L hP1 hz1 hk1 hL => ?_
  have hP9 : va_P D vwCl (wm tc (sg b) 0 h9) H1 := by
    have e5 := wm_sh tc b pre.length h2 0
    rw [Nat.add_zero] at e5
    rw [← h9e, wm_app, Nat.zero_add, e5]
    refine va_P.app (fun k q hq => ?_) hP1
    refine (hpre k q hq).kept (hk1 _ ?_)
    rw [wm_get] at hq
    cases hc9 : pre[k]? with
    | none => rw [hc9] at hq; simp at hq
    | some c9 =>
      rw [hc9] at hq
      have hlt9 := (List.getElem?_eq_some_iff.mp hc9).1
      simp only [Option.map_some, Option.some.injEq] at hq
      rw [← hq]
      show b + (0 + k) < b + pre.length
      omega
  have z1 : h9.length = pre.length + h2.length := by rw [← h9e, List.length_append, List.length_map]
  have z2 : wsz h9 = wsz pre + wsz h2 := by rw [← h9e, wsz_app, wsz_sh]
  have hS9 : va_S (fun q => b ≤ q) s.heap H1 (locs ++ L) := ⟨Nat.le_trans a4.1 hz1, fun q q1 q2 => by rw [hk1 q (by have q2 : ¬ b ≤ q := q2; omega)]; exact a4.2.1 q q1 q2, fun q hq => by
    rcases List.mem_append.mp hq with g | g
    · exact a4.2.2 q g
    · have := hL q g
      show b ≤ q.base
      omega⟩
  have z := kk H1 (locs ++ L) la (by omega) (by omega) hP9 hS9 a5
  rw [show h9.length - 1 = pre.length + 1 - 1 + (h2.length - 1) by omega, show wsz h9 - w0 = wsz pre + csz c0 - w0 + (wsz h2 - csz c0) by omega] at z
  exact z
end GS

/-! what the start holds: the classes, the arrays' classes, the texts, the statics -/
def flG : List Cond := flatC (Jvm.Cond.and given_1 narrow_1)
theorem tl_1 {w : Cond} {i : Nat} (h : tables_1_1[i]? = some w) : w ∈ lw_tbl := List.mem_append_right _ (List.mem_append_left _ (List.mem_of_getElem? h))
theorem tl_2 {w : Cond} {i : Nat} (h : tables_1_2[i]? = some w) : w ∈ lw_tbl := List.mem_append_right _ (List.mem_append_right _ (List.mem_append_left _ (List.mem_of_getElem? h)))
theorem tl_3 {w : Cond} {i : Nat} (h : tables_1_3[i]? = some w) : w ∈ lw_tbl := List.mem_append_right _ (List.mem_append_right _ (List.mem_append_right _ (List.mem_append_left _ (List.mem_of_getElem? h))))
theorem tl_4 {w : Cond} {i : Nat} (h : tables_1_4[i]? = some w) : w ∈ lw_tbl := List.mem_append_right _ (List.mem_append_right _ (List.mem_append_right _ (List.mem_append_right _ (List.mem_append_left _ (List.mem_of_getElem? h)))))
theorem tl_5 {w : Cond} {i : Nat} (h : tables_1_5[i]? = some w) : w ∈ lw_tbl := List.mem_append_right _ (List.mem_append_right _ (List.mem_append_right _ (List.mem_append_right _ (List.mem_append_right _ (List.mem_append_left _ (List.mem_of_getElem? h))))))
theorem tl_6 {w : Cond} {i : Nat} (h : tables_1_6[i]? = some w) : w ∈ lw_tbl := List.mem_append_right _ (List.mem_append_right _ (List.mem_append_right _ (List.mem_append_right _ (List.mem_append_right _ (List.mem_append_right _ (List.mem_of_getElem? h))))))
theorem TB_tl {w : Cond} (h : w ∈ TB) : w ∈ lw_tbl := (List.mem_filter.mp h).1
theorem nest_tl : ∀ w ∈ nestW, w ∈ lw_tbl := List.forall_mem_cons.mpr ⟨tl_1 (i := 33) rfl, List.forall_mem_cons.mpr ⟨tl_1 (i := 49) rfl, List.forall_mem_cons.mpr ⟨tl_1 (i := 50) rfl, List.forall_mem_cons.mpr ⟨tl_1 (i := 124) rfl, List.forall_mem_cons.mpr ⟨tl_1 (i := 130) rfl, List.forall_mem_cons.mpr ⟨tl_1 (i := 136) rfl, List.forall_mem_cons.mpr ⟨tl_1 (i := 155) rfl, List.forall_mem_cons.mpr ⟨tl_1 (i := 158) rfl, List.forall_mem_cons.mpr ⟨tl_1 (i := 166) rfl, List.forall_mem_cons.mpr ⟨tl_1 (i := 169) rfl, List.forall_mem_cons.mpr ⟨tl_1 (i := 177) rfl, List.forall_mem_cons.mpr ⟨tl_1 (i := 180) rfl, List.forall_mem_cons.mpr ⟨tl_1 (i := 188) rfl, List.forall_mem_cons.mpr ⟨tl_1 (i := 191) rfl, List.forall_mem_cons.mpr ⟨tl_1 (i := 199) rfl, List.forall_mem_cons.mpr ⟨tl_1 (i := 202) rfl, List.forall_mem_cons.mpr ⟨tl_1 (i := 210) rfl, List.forall_mem_cons.mpr ⟨tl_1 (i := 213) rfl, List.forall_mem_cons.mpr ⟨tl_1 (i := 223) rfl, List.forall_mem_cons.mpr ⟨tl_1 (i := 225) rfl, List.forall_mem_cons.mpr ⟨tl_1 (i := 226) rfl, List.forall_mem_cons.mpr ⟨tl_1 (i := 227) rfl, List.forall_mem_cons.mpr ⟨tl_1 (i := 229) rfl, List.forall_mem_cons.mpr ⟨tl_1 (i := 231) rfl, List.forall_mem_cons.mpr ⟨tl_1 (i := 232) rfl, List.forall_mem_cons.mpr ⟨tl_1 (i := 234) rfl, List.forall_mem_cons.mpr ⟨tl_1 (i := 236) rfl, List.forall_mem_cons.mpr ⟨tl_1 (i := 237) rfl, List.forall_mem_cons.mpr ⟨tl_1 (i := 239) rfl, List.forall_mem_cons.mpr ⟨tl_2 (i := 26) rfl, List.forall_mem_cons.mpr ⟨tl_2 (i := 33) rfl, List.forall_mem_cons.mpr ⟨tl_2 (i := 34) rfl, List.forall_mem_cons.mpr ⟨tl_2 (i := 36) rfl, List.forall_mem_cons.mpr ⟨tl_2 (i := 37) rfl, fun _ z => absurd z List.not_mem_nil⟩⟩⟩⟩⟩⟩⟩⟩⟩⟩⟩⟩⟩⟩⟩⟩⟩⟩⟩⟩⟩⟩⟩⟩⟩⟩⟩⟩⟩⟩⟩⟩⟩⟩
theorem arr_of {args : Array Value} {s : State} {ty : FieldType} (h : (Cond.arrayClass ty).before args s = true) : ∃ cA, ArrOfT s cA ty ∧ s.vm.findClass ("[" ++ ty.toString) = some cA := by
  obtain ⟨cA, kA, comp, h1, h2, h3⟩ := Cond.arrayClass_spec h
  exact ⟨cA, fun n z => ⟨fun k h => (by cases h), kA, h2, comp, h3⟩, h1⟩
theorem aro_of {args : Array Value} {s : State} {C : String} (h : (Cond.arrayOver (.object C)).before args s = true) : ∃ cA, ArrOfT s cA (.object C) ∧ va_RA s cA (.object C) := by
  obtain ⟨comp, cA, kA, h1, h2, h3, h4, h5⟩ := Cond.arrayOver_spec h
  exact ⟨cA, fun n z => ⟨fun k h => (by cases h), kA, h3, comp, h4⟩, kA, comp, h3, h4, h1, h5⟩
theorem cls_kn {args : Array Value} {s : State} (hts : ∀ w ∈ lw_tbl, w.before args s = true) : ∀ k : Nat, ∃ y : ClassId × (Nat → Nat), ∀ q : vw_C, vwCl[k]? = some q → u_Kn s q.1 q.2.1 q.2.2 y.1 y.2 := by
  intro k
  have hT : ∀ w ∈ TB, w.before args s = true := fun w hw => hts w (TB_tl hw)
  have one : ∀ (ci : Nat) (C : String) (F : u_T) (N : Nat), vwCl[ci]? = some (C, F, N) → (Cond.instantiable C N).before args s = true → ∃ y : ClassId × (Nat → Nat), ∀ q : vw_C, vwCl[ci]? = some q → u_Kn s q.1 q.2.1 q.2.2 y.1 y.2 := by
    intro ci C F N hc hi
    obtain ⟨cC, iS, hk⟩ := u_known (C := C) (T := F) (N := N) hT (cls_ok ci C F N hc).1 hi
    exact ⟨(cC, iS), fun q hq => by rw [hc] at hq; cases hq; exact hk⟩
  match k with
  | 0 => exact one 0 RX0 TX0 4 rfl (hts _ (tl_1 (i := 176) rfl))
  | 1 => exact one 1 RX1 TX1 11 rfl (hts _ (tl_1 (i := 123) rfl))
  | 2 => exact one 2 RX2 TX2 4 rfl (hts _ (tl_1 (i := 165) rfl))
  | 3 => exact one 3 RX3 TX3 4 rfl (hts _ (tl_1 (i := 154) rfl))
  | 4 => exact one 4 RX4 TX4 10 rfl (hts _ (tl_2 (i := 25) rfl))
  | 5 => exact one 5 RX5 TX5 4 rfl (hts _ (tl_1 (i := 187) rfl))
  | 6 => exact one 6 RX6 TX6 4 rfl (hts _ (tl_1 (i := 198) rfl))
  | 7 => exact one 7 RX7 TX7 14 rfl (hts _ (tl_1 (i := 32) rfl))
  | 8 => exact one 8 RX8 TX8 3 rfl (hts _ (tl_1 (i := 38) rfl))
  | 9 => exact one 9 RX9 TX9 4 rfl (hts _ (tl_1 (i := 209) rfl))
  | 10 => exact one 10 RX10 TX10 4 rfl (hts _ (tl_1 (i := 129) rfl))
  | 11 => exact one 11 RX11 TX11 8 rfl (hts _ (tl_1 (i := 24) rfl))
  | 12 => exact one 12 RX12 TX12 21 rfl (hts _ (tl_4 (i := 234) rfl))
  | n + 13 => exact ⟨(0, fun _ => 0), fun q hq => absurd (List.getElem?_eq_some_iff.mp hq).1 (by simp [vwCl])⟩
theorem start_K {args : Array Value} {s : State} (hts : ∀ w ∈ lw_tbl, w.before args s = true) : ∃ (D : va_G) (tc : Nat → ClassId), va_K D vwCl (TY tc) s := by
  obtain ⟨y, hy⟩ := Classical.axiomOfChoice (cls_kn hts)
  obtain ⟨a0, b0, d0⟩ := arr_of (ty := .int) (hts _ (tl_1 (i := 58) rfl))
  obtain ⟨a1, b1, d1⟩ := arr_of (ty := .byte) (hts _ (tl_1 (i := 59) rfl))
  obtain ⟨a2, b2, d2⟩ := arr_of (ty := .boolean) (hts _ (tl_5 (i := 62) rfl))
  obtain ⟨a3, b3, d3⟩ := aro_of (C := "UrchinSchool$Ledge") (hts _ (tl_2 (i := 65) rfl))
  obtain ⟨a4, b4, d4⟩ := aro_of (C := "UrchinSchool$Urchin") (hts _ (tl_1 (i := 152) rfl))
  refine ⟨(fun k => (y k).1, fun k => (y k).2), fun k => if k = 0 then a0 else if k = 1 then a1 else if k = 2 then a2 else if k = 3 then a3 else a4, fun c q hq => hy c q hq, fun k q hq => ?_⟩
  match k, hq with
  | 0, hq => cases hq; exact ⟨b0, d0⟩
  | 1, hq => cases hq; exact ⟨b1, d1⟩
  | 2, hq => cases hq; exact ⟨b2, d2⟩
  | 3, hq => cases hq; exact ⟨b3, d3⟩
  | 4, hq => cases hq; exact ⟨b4, d4⟩
  | n + 5, hq => exact absurd (List.getElem?_eq_some_iff.mp hq).1 (by simp [TY])
theorem start_X {args : Array Value} {s : State} (hts : ∀ w ∈ lw_tbl, w.before args s = true) : XW s := by
  refine ⟨fun w hw => ?_, ?_, va_AO.of (hts _ (tl_2 (i := 65) rfl)), va_AO.of (hts _ (tl_1 (i := 152) rfl))⟩
  · have h := hts w (nest_tl w hw)
    have hn := nest_is hw
    cases w with
    | fieldLinkNest a b c d e f => exact va_Nw.of rfl h
    | methodLinkNest a b c d => exact va_Nw.of rfl h
    | _ => exact hn.elim
  · exact List.forall_mem_cons.mpr ⟨va_Nw.of rfl (hts _ (tl_6 (i := 159) rfl)), List.forall_mem_cons.mpr ⟨va_Nw.of rfl (hts _ (tl_6 (i := 160) rfl)), List.forall_mem_cons.mpr ⟨va_Nw.of rfl (hts _ (tl_6 (i := 161) rfl)), List.forall_mem_cons.mpr ⟨va_Nw.of rfl (hts _ (tl_6 (i := 162) rfl)), List.forall_mem_cons.mpr ⟨va_Nw.of rfl (hts _ (tl_6 (i := 163) rfl)), List.forall_mem_cons.mpr ⟨va_Nw.of rfl (hts _ (tl_6 (i := 164) rfl)), fun _ z => absurd z List.not_mem_nil⟩⟩⟩⟩⟩⟩
def strI : List Nat := [69, 71, 73, 75, 89, 95]
def strL : List Nat := [5, 5, 5, 5, 6, 3]
def tmS : Nat → Term := fun i => Term.string "UrchinSchool$Ledge" (strI.getD i 0)
theorem fl_0 : (Cond.exactly (Term.string "UrchinSchool$Ledge" 69) "java/lang/String") ∈ flG := List.mem_of_getElem? (i := 39) (by decide +kernel)
theorem fl_1 : (Cond.exactly (Term.string "UrchinSchool$Ledge" 71) "java/lang/String") ∈ flG := List.mem_of_getElem? (i := 48) (by decide +kernel)
theorem fl_2 : (Cond.exactly (Term.string "UrchinSchool$Ledge" 73) "java/lang/String") ∈ flG := List.mem_of_getElem? (i := 58) (by decide +kernel)
theorem fl_3 : (Cond.exactly (Term.string "UrchinSchool$Ledge" 75) "java/lang/String") ∈ flG := List.mem_of_getElem? (i := 69) (by decide +kernel)
theorem fl_4 : (Cond.exactly (Term.string "UrchinSchool$Ledge" 89) "java/lang/String") ∈ flG := List.mem_of_getElem? (i := 81) (by decide +kernel)
theorem fl_5 : (Cond.exactly (Term.string "UrchinSchool$Ledge" 95) "java/lang/String") ∈ flG := List.mem_of_getElem? (i := 95) (by decide +kernel)
theorem fl_6 : (Cond.eq (Term.field (Term.string "UrchinSchool$Ledge" 69) "java/lang/String" "coder" "B") (Term.int 0)) ∈ flG := List.mem_of_getElem? (i := 40) (by decide +kernel)
theorem fl_7 : (Cond.eq (Term.field (Term.string "UrchinSchool$Ledge" 71) "java/lang/String" "coder" "B") (Term.int 0)) ∈ flG := List.mem_of_getElem? (i := 49) (by decide +kernel)
theorem fl_8 : (Cond.eq (Term.field (Term.string "UrchinSchool$Ledge" 73) "java/lang/String" "coder" "B") (Term.int 0)) ∈ flG := List.mem_of_getElem? (i := 59) (by decide +kernel)
theorem fl_9 : (Cond.eq (Term.field (Term.string "UrchinSchool$Ledge" 75) "java/lang/String" "coder" "B") (Term.int 0)) ∈ flG := List.mem_of_getElem? (i := 70) (by decide +kernel)
theorem fl_10 : (Cond.eq (Term.field (Term.string "UrchinSchool$Ledge" 89) "java/lang/String" "coder" "B") (Term.int 0)) ∈ flG := List.mem_of_getElem? (i := 82) (by decide +kernel)
theorem fl_11 : (Cond.eq (Term.field (Term.string "UrchinSchool$Ledge" 95) "java/lang/String" "coder" "B") (Term.int 0)) ∈ flG := List.mem_of_getElem? (i := 96) (by decide +kernel)
theorem fl_12 : (Cond.arrayOf (Term.field (Term.string "UrchinSchool$Ledge" 69) "java/lang/String" "value" "[B") FieldType.byte) ∈ flG := List.mem_of_getElem? (i := 41) (by decide +kernel)
theorem fl_13 : (Cond.arrayOf (Term.field (Term.string "UrchinSchool$Ledge" 71) "java/lang/String" "value" "[B") FieldType.byte) ∈ flG := List.mem_of_getElem? (i := 50) (by decide +kernel)
theorem fl_14 : (Cond.arrayOf (Term.field (Term.string "UrchinSchool$Ledge" 73) "java/lang/String" "value" "[B") FieldType.byte) ∈ flG := List.mem_of_getElem? (i := 60) (by decide +kernel)
theorem fl_15 : (Cond.arrayOf (Term.field (Term.string "UrchinSchool$Ledge" 75) "java/lang/String" "value" "[B") FieldType.byte) ∈ flG := List.mem_of_getElem? (i := 71) (by decide +kernel)
theorem fl_16 : (Cond.arrayOf (Term.field (Term.string "UrchinSchool$Ledge" 89) "java/lang/String" "value" "[B") FieldType.byte) ∈ flG := List.mem_of_getElem? (i := 83) (by decide +kernel)
theorem fl_17 : (Cond.arrayOf (Term.field (Term.string "UrchinSchool$Ledge" 95) "java/lang/String" "value" "[B") FieldType.byte) ∈ flG := List.mem_of_getElem? (i := 97) (by decide +kernel)
theorem fl_18 : (Cond.eq (Term.length (Term.field (Term.string "UrchinSchool$Ledge" 69) "java/lang/String" "value" "[B")) (Term.int 5)) ∈ flG := List.mem_of_getElem? (i := 42) (by decide +kernel)
theorem fl_19 : (Cond.eq (Term.length (Term.field (Term.string "UrchinSchool$Ledge" 71) "java/lang/String" "value" "[B")) (Term.int 5)) ∈ flG := List.mem_of_getElem? (i := 51) (by decide +kernel)
theorem fl_20 : (Cond.eq (Term.length (Term.field (Term.string "UrchinSchool$Ledge" 73) "java/lang/String" "value" "[B")) (Term.int 5)) ∈ flG := List.mem_of_getElem? (i := 61) (by decide +kernel)
theorem fl_21 : (Cond.eq (Term.length (Term.field (Term.string "UrchinSchool$Ledge" 75) "java/lang/String" "value" "[B")) (Term.int 5)) ∈ flG := List.mem_of_getElem? (i := 72) (by decide +kernel)
theorem fl_22 : (Cond.eq (Term.length (Term.field (Term.string "UrchinSchool$Ledge" 89) "java/lang/String" "value" "[B")) (Term.int 6)) ∈ flG := List.mem_of_getElem? (i := 84) (by decide +kernel)
theorem fl_23 : (Cond.eq (Term.length (Term.field (Term.string "UrchinSchool$Ledge" 95) "java/lang/String" "value" "[B")) (Term.int 3)) ∈ flG := List.mem_of_getElem? (i := 98) (by decide +kernel)
theorem fl_24 : (Cond.eq (Term.elem (Term.field (Term.string "UrchinSchool$Ledge" 69) "java/lang/String" "value" "[B") (Term.int 0)) (Term.int 107)) ∈ flG := List.mem_of_getElem? (i := 43) (by decide +kernel)
theorem fl_25 : (Cond.eq (Term.elem (Term.field (Term.string "UrchinSchool$Ledge" 69) "java/lang/String" "value" "[B") (Term.int 1)) (Term.int 101)) ∈ flG := List.mem_of_getElem? (i := 44) (by decide +kernel)
theorem fl_26 : (Cond.eq (Term.elem (Term.field (Term.string "UrchinSchool$Ledge" 69) "java/lang/String" "value" "[B") (Term.int 2)) (Term.int 101)) ∈ flG := List.mem_of_getElem? (i := 45) (by decide +kernel)
theorem fl_27 : (Cond.eq (Term.elem (Term.field (Term.string "UrchinSchool$Ledge" 69) "java/lang/String" "value" "[B") (Term.int 3)) (Term.int 112)) ∈ flG := List.mem_of_getElem? (i := 46) (by decide +kernel)
theorem fl_28 : (Cond.eq (Term.elem (Term.field (Term.string "UrchinSchool$Ledge" 69) "java/lang/String" "value" "[B") (Term.int 4)) (Term.int 32)) ∈ flG := List.mem_of_getElem? (i := 47) (by decide +kernel)
theorem fl_29 : (Cond.eq (Term.elem (Term.field (Term.string "UrchinSchool$Ledge" 71) "java/lang/String" "value" "[B") (Term.int 0)) (Term.int 112)) ∈ flG := List.mem_of_getElem? (i := 52) (by decide +kernel)
theorem fl_30 : (Cond.eq (Term.elem (Term.field (Term.string "UrchinSchool$Ledge" 71) "java/lang/String" "value" "[B") (Term.int 1)) (Term.int 97)) ∈ flG := List.mem_of_getElem? (i := 53) (by decide +kernel)
theorem fl_31 : (Cond.eq (Term.elem (Term.field (Term.string "UrchinSchool$Ledge" 71) "java/lang/String" "value" "[B") (Term.int 2)) (Term.int 115)) ∈ flG := List.mem_of_getElem? (i := 54) (by decide +kernel)
theorem fl_32 : (Cond.eq (Term.elem (Term.field (Term.string "UrchinSchool$Ledge" 71) "java/lang/String" "value" "[B") (Term.int 3)) (Term.int 115)) ∈ flG := List.mem_of_getElem? (i := 55) (by decide +kernel)
theorem fl_33 : (Cond.eq (Term.elem (Term.field (Term.string "UrchinSchool$Ledge" 71) "java/lang/String" "value" "[B") (Term.int 4)) (Term.int 32)) ∈ flG := List.mem_of_getElem? (i := 56) (by decide +kernel)
theorem fl_34 : (Cond.eq (Term.elem (Term.field (Term.string "UrchinSchool$Ledge" 73) "java/lang/String" "value" "[B") (Term.int 0)) (Term.int 108)) ∈ flG := List.mem_of_getElem? (i := 62) (by decide +kernel)
theorem fl_35 : (Cond.eq (Term.elem (Term.field (Term.string "UrchinSchool$Ledge" 73) "java/lang/String" "value" "[B") (Term.int 1)) (Term.int 111)) ∈ flG := List.mem_of_getElem? (i := 63) (by decide +kernel)
theorem fl_36 : (Cond.eq (Term.elem (Term.field (Term.string "UrchinSchool$Ledge" 73) "java/lang/String" "value" "[B") (Term.int 2)) (Term.int 117)) ∈ flG := List.mem_of_getElem? (i := 64) (by decide +kernel)
theorem fl_37 : (Cond.eq (Term.elem (Term.field (Term.string "UrchinSchool$Ledge" 73) "java/lang/String" "value" "[B") (Term.int 3)) (Term.int 100)) ∈ flG := List.mem_of_getElem? (i := 65) (by decide +kernel)
theorem fl_38 : (Cond.eq (Term.elem (Term.field (Term.string "UrchinSchool$Ledge" 73) "java/lang/String" "value" "[B") (Term.int 4)) (Term.int 32)) ∈ flG := List.mem_of_getElem? (i := 66) (by decide +kernel)
theorem fl_39 : (Cond.eq (Term.elem (Term.field (Term.string "UrchinSchool$Ledge" 75) "java/lang/String" "value" "[B") (Term.int 0)) (Term.int 100)) ∈ flG := List.mem_of_getElem? (i := 73) (by decide +kernel)
theorem fl_40 : (Cond.eq (Term.elem (Term.field (Term.string "UrchinSchool$Ledge" 75) "java/lang/String" "value" "[B") (Term.int 1)) (Term.int 117)) ∈ flG := List.mem_of_getElem? (i := 74) (by decide +kernel)
theorem fl_41 : (Cond.eq (Term.elem (Term.field (Term.string "UrchinSchool$Ledge" 75) "java/lang/String" "value" "[B") (Term.int 2)) (Term.int 108)) ∈ flG := List.mem_of_getElem? (i := 75) (by decide +kernel)
theorem fl_42 : (Cond.eq (Term.elem (Term.field (Term.string "UrchinSchool$Ledge" 75) "java/lang/String" "value" "[B") (Term.int 3)) (Term.int 108)) ∈ flG := List.mem_of_getElem? (i := 76) (by decide +kernel)
theorem fl_43 : (Cond.eq (Term.elem (Term.field (Term.string "UrchinSchool$Ledge" 75) "java/lang/String" "value" "[B") (Term.int 4)) (Term.int 32)) ∈ flG := List.mem_of_getElem? (i := 77) (by decide +kernel)
theorem fl_44 : (Cond.eq (Term.elem (Term.field (Term.string "UrchinSchool$Ledge" 89) "java/lang/String" "value" "[B") (Term.int 0)) (Term.int 112)) ∈ flG := List.mem_of_getElem? (i := 85) (by decide +kernel)
theorem fl_45 : (Cond.eq (Term.elem (Term.field (Term.string "UrchinSchool$Ledge" 89) "java/lang/String" "value" "[B") (Term.int 1)) (Term.int 107)) ∈ flG := List.mem_of_getElem? (i := 86) (by decide +kernel)
theorem fl_46 : (Cond.eq (Term.elem (Term.field (Term.string "UrchinSchool$Ledge" 89) "java/lang/String" "value" "[B") (Term.int 2)) (Term.int 118)) ∈ flG := List.mem_of_getElem? (i := 87) (by decide +kernel)
theorem fl_47 : (Cond.eq (Term.elem (Term.field (Term.string "UrchinSchool$Ledge" 89) "java/lang/String" "value" "[B") (Term.int 3)) (Term.int 102)) ∈ flG := List.mem_of_getElem? (i := 88) (by decide +kernel)
theorem fl_48 : (Cond.eq (Term.elem (Term.field (Term.string "UrchinSchool$Ledge" 89) "java/lang/String" "value" "[B") (Term.int 4)) (Term.int 99)) ∈ flG := List.mem_of_getElem? (i := 89) (by decide +kernel)
theorem fl_49 : (Cond.eq (Term.elem (Term.field (Term.string "UrchinSchool$Ledge" 89) "java/lang/String" "value" "[B") (Term.int 5)) (Term.int 116)) ∈ flG := List.mem_of_getElem? (i := 90) (by decide +kernel)
theorem fl_50 : (Cond.eq (Term.elem (Term.field (Term.string "UrchinSchool$Ledge" 95) "java/lang/String" "value" "[B") (Term.int 0)) (Term.int 60)) ∈ flG := List.mem_of_getElem? (i := 99) (by decide +kernel)
theorem fl_51 : (Cond.eq (Term.elem (Term.field (Term.string "UrchinSchool$Ledge" 95) "java/lang/String" "value" "[B") (Term.int 1)) (Term.int 61)) ∈ flG := List.mem_of_getElem? (i := 100) (by decide +kernel)
theorem fl_52 : (Cond.eq (Term.elem (Term.field (Term.string "UrchinSchool$Ledge" 95) "java/lang/String" "value" "[B") (Term.int 2)) (Term.int 62)) ∈ flG := List.mem_of_getElem? (i := 101) (by decide +kernel)
theorem fl_53 : (Cond.not (Cond.eq (Term.string "UrchinSchool$Ledge" 69) (Term.string "UrchinSchool$Ledge" 71))) ∈ flG := List.mem_of_getElem? (i := 57) (by decide +kernel)
theorem fl_54 : (Cond.not (Cond.eq (Term.string "UrchinSchool$Ledge" 69) (Term.string "UrchinSchool$Ledge" 73))) ∈ flG := List.mem_of_getElem? (i := 67) (by decide +kernel)
theorem fl_55 : (Cond.not (Cond.eq (Term.string "UrchinSchool$Ledge" 69) (Term.string "UrchinSchool$Ledge" 75))) ∈ flG := List.mem_of_getElem? (i := 78) (by decide +kernel)
theorem fl_56 : (Cond.not (Cond.eq (Term.string "UrchinSchool$Ledge" 69) (Term.string "UrchinSchool$Ledge" 89))) ∈ flG := List.mem_of_getElem? (i := 91) (by decide +kernel)
theorem fl_57 : (Cond.not (Cond.eq (Term.string "UrchinSchool$Ledge" 69) (Term.string "UrchinSchool$Ledge" 95))) ∈ flG := List.mem_of_getElem? (i := 102) (by decide +kernel)
theorem fl_58 : (Cond.not (Cond.eq (Term.string "UrchinSchool$Ledge" 71) (Term.string "UrchinSchool$Ledge" 73))) ∈ flG := List.mem_of_getElem? (i := 68) (by decide +kernel)
theorem fl_59 : (Cond.not (Cond.eq (Term.string "UrchinSchool$Ledge" 71) (Term.string "UrchinSchool$Ledge" 75))) ∈ flG := List.mem_of_getElem? (i := 79) (by decide +kernel)
theorem fl_60 : (Cond.not (Cond.eq (Term.string "UrchinSchool$Ledge" 71) (Term.string "UrchinSchool$Ledge" 89))) ∈ flG := List.mem_of_getElem? (i := 92) (by decide +kernel)
theorem fl_61 : (Cond.not (Cond.eq (Term.string "UrchinSchool$Ledge" 71) (Term.string "UrchinSchool$Ledge" 95))) ∈ flG := List.mem_of_getElem? (i := 103) (by decide +kernel)
theorem fl_62 : (Cond.not (Cond.eq (Term.string "UrchinSchool$Ledge" 73) (Term.string "UrchinSchool$Ledge" 75))) ∈ flG := List.mem_of_getElem? (i := 80) (by decide +kernel)
theorem fl_63 : (Cond.not (Cond.eq (Term.string "UrchinSchool$Ledge" 73) (Term.string "UrchinSchool$Ledge" 89))) ∈ flG := List.mem_of_getElem? (i := 93) (by decide +kernel)
theorem fl_64 : (Cond.not (Cond.eq (Term.string "UrchinSchool$Ledge" 73) (Term.string "UrchinSchool$Ledge" 95))) ∈ flG := List.mem_of_getElem? (i := 104) (by decide +kernel)
theorem fl_65 : (Cond.not (Cond.eq (Term.string "UrchinSchool$Ledge" 75) (Term.string "UrchinSchool$Ledge" 89))) ∈ flG := List.mem_of_getElem? (i := 94) (by decide +kernel)
theorem fl_66 : (Cond.not (Cond.eq (Term.string "UrchinSchool$Ledge" 75) (Term.string "UrchinSchool$Ledge" 95))) ∈ flG := List.mem_of_getElem? (i := 105) (by decide +kernel)
theorem fl_67 : (Cond.not (Cond.eq (Term.string "UrchinSchool$Ledge" 89) (Term.string "UrchinSchool$Ledge" 95))) ∈ flG := List.mem_of_getElem? (i := 106) (by decide +kernel)
theorem fl_68 : (Cond.eq (Term.elem (Term.static "UrchinSchool" "ABOVE" "[I") (Term.int 0)) (Term.int (-1))) ∈ flG := List.mem_of_getElem? (i := 12) (by decide +kernel)
theorem fl_69 : (Cond.eq (Term.elem (Term.static "UrchinSchool" "ABOVE" "[I") (Term.int 1)) (Term.int 0)) ∈ flG := List.mem_of_getElem? (i := 13) (by decide +kernel)
theorem fl_70 : (Cond.eq (Term.elem (Term.static "UrchinSchool" "ABOVE" "[I") (Term.int 2)) (Term.int 0)) ∈ flG := List.mem_of_getElem? (i := 14) (by decide +kernel)
theorem fl_71 : (Cond.eq (Term.elem (Term.static "UrchinSchool" "ABOVE" "[I") (Term.int 3)) (Term.int 0)) ∈ flG := List.mem_of_getElem? (i := 15) (by decide +kernel)
theorem fl_72 : (Cond.eq (Term.elem (Term.static "UrchinSchool" "ABOVE" "[I") (Term.int 4)) (Term.int 1)) ∈ flG := List.mem_of_getElem? (i := 16) (by decide +kernel)
theorem fl_73 : (Cond.eq (Term.elem (Term.static "UrchinSchool" "ABOVE" "[I") (Term.int 5)) (Term.int 2)) ∈ flG := List.mem_of_getElem? (i := 17) (by decide +kernel)
theorem fl_74 : (Cond.eq (Term.elem (Term.static "UrchinSchool" "ABOVE" "[I") (Term.int 6)) (Term.int 3)) ∈ flG := List.mem_of_getElem? (i := 18) (by decide +kernel)
theorem fl_75 : (Cond.arrayOf (Term.static "UrchinSchool" "ABOVE" "[I") FieldType.int) ∈ flG := List.mem_of_getElem? (i := 10) (by decide +kernel)
theorem fl_76 : (Cond.eq (Term.length (Term.static "UrchinSchool" "ABOVE" "[I")) (Term.int 7)) ∈ flG := List.mem_of_getElem? (i := 11) (by decide +kernel)
theorem fl_77 : (Cond.isRef (Term.static "jdk/internal/util/Preconditions" "SIOOBE_FORMATTER" "Ljava/util/function/BiFunction;")) ∈ flG := List.mem_of_getElem? (i := 5) (by decide +kernel)
theorem fl_78 : (Cond.eq (Term.static "java/lang/String" "COMPACT_STRINGS" "Z") (Term.int 1)) ∈ flG := List.mem_of_getElem? (i := 4) (by decide +kernel)
theorem fl_79 : (Cond.exactly (Term.string "UrchinSchoolModel" 108) "java/lang/String") ∈ flG := List.mem_of_getElem? (i := 107) (by decide +kernel)
theorem fl_80 : (Cond.eq (Term.string "UrchinSchool$Ledge" 69) (Term.string "UrchinSchoolModel" 108)) ∈ flG := List.mem_of_getElem? (i := 116) (by decide +kernel)
theorem fl_81 : (Cond.exactly (Term.string "UrchinSchoolModel" 114) "java/lang/String") ∈ flG := List.mem_of_getElem? (i := 122) (by decide +kernel)
theorem fl_82 : (Cond.eq (Term.string "UrchinSchool$Ledge" 71) (Term.string "UrchinSchoolModel" 114)) ∈ flG := List.mem_of_getElem? (i := 132) (by decide +kernel)
theorem fl_83 : (Cond.exactly (Term.string "UrchinSchoolModel" 116) "java/lang/String") ∈ flG := List.mem_of_getElem? (i := 138) (by decide +kernel)
theorem fl_84 : (Cond.eq (Term.string "UrchinSchool$Ledge" 73) (Term.string "UrchinSchoolModel" 116)) ∈ flG := List.mem_of_getElem? (i := 149) (by decide +kernel)
theorem fl_85 : (Cond.exactly (Term.string "UrchinSchoolModel" 90) "java/lang/String") ∈ flG := List.mem_of_getElem? (i := 155) (by decide +kernel)
theorem fl_86 : (Cond.eq (Term.string "UrchinSchool$Ledge" 89) (Term.string "UrchinSchoolModel" 90)) ∈ flG := List.mem_of_getElem? (i := 169) (by decide +kernel)
theorem fl_87 : (Cond.exactly (Term.string "UrchinSchoolModel" 96) "java/lang/String") ∈ flG := List.mem_of_getElem? (i := 174) (by decide +kernel)
theorem fl_88 : (Cond.eq (Term.string "UrchinSchool$Ledge" 95) (Term.string "UrchinSchoolModel" 96)) ∈ flG := List.mem_of_getElem? (i := 186) (by decide +kernel)
theorem fl_89 : (Cond.exactly (Term.string "UrchinSchoolModel" 121) "java/lang/String") ∈ flG := List.mem_of_getElem? (i := 191) (by decide +kernel)
theorem fl_90 : (Cond.eq (Term.string "UrchinSchool$Ledge" 75) (Term.string "UrchinSchoolModel" 121)) ∈ flG := List.mem_of_getElem? (i := 203) (by decide +kernel)
theorem tx_ex {args : Array Value} {s : State} (hg : ∀ w ∈ flG, w.before args s = true) : ∀ i : Nat, i < 6 → (Cond.exactly (tmS i) "java/lang/String").before args s = true := by
  intro i hi
  rcases (show i = 0 ∨ i = 1 ∨ i = 2 ∨ i = 3 ∨ i = 4 ∨ i = 5 by omega) with rfl | rfl | rfl | rfl | rfl | rfl
  · exact (hg _ fl_0)
  · exact (hg _ fl_1)
  · exact (hg _ fl_2)
  · exact (hg _ fl_3)
  · exact (hg _ fl_4)
  · exact (hg _ fl_5)
theorem tx_co {args : Array Value} {s : State} (hg : ∀ w ∈ flG, w.before args s = true) : ∀ i : Nat, i < 6 → (Cond.eq (.field (tmS i) "java/lang/String" "coder" "B") (.int 0)).before args s = true := by
  intro i hi
  rcases (show i = 0 ∨ i = 1 ∨ i = 2 ∨ i = 3 ∨ i = 4 ∨ i = 5 by omega) with rfl | rfl | rfl | rfl | rfl | rfl
  · exact (hg _ fl_6)
  · exact (hg _ fl_7)
  · exact (hg _ fl_8)
  · exact (hg _ fl_9)
  · exact (hg _ fl_10)
  · exact (hg _ fl_11)
theorem tx_ar {args : Array Value} {s : State} (hg : ∀ w ∈ flG, w.before args s = true) : ∀ i : Nat, i < 6 → (Cond.arrayOf (.field (tmS i) "java/lang/String" "value" "[B") .byte).before args s = true := by
  intro i hi
  rcases (show i = 0 ∨ i = 1 ∨ i = 2 ∨ i = 3 ∨ i = 4 ∨ i = 5 by omega) with rfl | rfl | rfl | rfl | rfl | rfl
  · exact (hg _ fl_12)
  · exact (hg _ fl_13)
  · exact (hg _ fl_14)
  · exact (hg _ fl_15)
  · exact (hg _ fl_16)
  · exact (hg _ fl_17)
theorem tx_le {args : Array Value} {s : State} (hg : ∀ w ∈ flG, w.before args s = true) : ∀ i : Nat, i < 6 → (Cond.eq (.length (.field (tmS i) "java/lang/String" "value" "[B")) (.int (Int32.ofNat (strL.getD i 0)))).before args s = true := by
  intro i hi
  rcases (show i = 0 ∨ i = 1 ∨ i = 2 ∨ i = 3 ∨ i = 4 ∨ i = 5 by omega) with rfl | rfl | rfl | rfl | rfl | rfl
  · exact (hg _ fl_18)
  · exact (hg _ fl_19)
  · exact (hg _ fl_20)
  · exact (hg _ fl_21)
  · exact (hg _ fl_22)
  · exact (hg _ fl_23)
theorem tx_el {args : Array Value} {s : State} (hg : ∀ w ∈ flG, w.before args s = true) : ∀ i : Nat, i < 6 → ∀ j : Nat, j < strL.getD i 0 → (Cond.eq (.elem (.field (tmS i) "java/lang/String" "value" "[B") (.int (Int32.ofNat j))) (.int ((strB.getD i []).getD j 0))).before args s = true := by
  intro i hi
  rcases (show i = 0 ∨ i = 1 ∨ i = 2 ∨ i = 3 ∨ i = 4 ∨ i = 5 by omega) with rfl | rfl | rfl | rfl | rfl | rfl
  · intro j hj
    have hj : j < 5 := hj
    rcases (show j = 0 ∨ j = 1 ∨ j = 2 ∨ j = 3 ∨ j = 4 by omega) with rfl | rfl | rfl | rfl | rfl
    · exact (hg _ fl_24)
    · exact (hg _ fl_25)
    · exact (hg _ fl_26)
    · exact (hg _ fl_27)
    · exact (hg _ fl_28)
  · intro j hj
    have hj : j < 5 := hj
    rcases (show j = 0 ∨ j = 1 ∨ j = 2 ∨ j = 3 ∨ j = 4 by omega) with rfl | rfl | rfl | rfl | rfl
    · exact (hg _ fl_29)
    · exact (hg _ fl_30)
    · exact (hg _ fl_31)
    · exact (hg _ fl_32)
    · exact (hg _ fl_33)
  · intro j hj
    have hj : j < 5 := hj
    rcases (show j = 0 ∨ j = 1 ∨ j = 2 ∨ j = 3 ∨ j = 4 by omega) with rfl | rfl | rfl | rfl | rfl
    · exact (hg _ fl_34)
    · exact (hg _ fl_35)
    · exact (hg _ fl_36)
    · exact (hg _ fl_37)
    · exact (hg _ fl_38)
  · intro j hj
    have hj : j < 5 := hj
    rcases (show j = 0 ∨ j = 1 ∨ j = 2 ∨ j = 3 ∨ j = 4 by omega) with rfl | rfl | rfl | rfl | rfl
    · exact (hg _ fl_39)
    · exact (hg _ fl_40)
    · exact (hg _ fl_41)
    · exact (hg _ fl_42)
    · exact (hg _ fl_43)
  · intro j hj
    have hj : j < 6 := hj
    rcases (show j = 0 ∨ j = 1 ∨ j = 2 ∨ j = 3 ∨ j = 4 ∨ j = 5 by omega) with rfl | rfl | rfl | rfl | rfl | rfl
    · exact (hg _ fl_44)
    · exact (hg _ fl_45)
    · exact (hg _ fl_46)
    · exact (hg _ fl_47)
    · exact (hg _ fl_48)
    · exact (hg _ fl_49)
  · intro j hj
    have hj : j < 3 := hj
    rcases (show j = 0 ∨ j = 1 ∨ j = 2 by omega) with rfl | rfl | rfl
    · exact (hg _ fl_50)
    · exact (hg _ fl_51)
    · exact (hg _ fl_52)
theorem tx_ne {args : Array Value} {s : State} (hg : ∀ w ∈ flG, w.before args s = true) : ∀ i j : Nat, i < 6 → j < 6 → i ≠ j → (Cond.not (Cond.eq (tmS i) (tmS j))).before args s = true ∨ (Cond.not (Cond.eq (tmS j) (tmS i))).before args s = true := by
  intro i j hi hj hij
  rcases (show i = 0 ∨ i = 1 ∨ i = 2 ∨ i = 3 ∨ i = 4 ∨ i = 5 by omega) with rfl | rfl | rfl | rfl | rfl | rfl
  · rcases (show j = 0 ∨ j = 1 ∨ j = 2 ∨ j = 3 ∨ j = 4 ∨ j = 5 by omega) with rfl | rfl | rfl | rfl | rfl | rfl
    · exact absurd rfl hij
    · exact Or.inl (hg _ fl_53)
    · exact Or.inl (hg _ fl_54)
    · exact Or.inl (hg _ fl_55)
    · exact Or.inl (hg _ fl_56)
    · exact Or.inl (hg _ fl_57)
  · rcases (show j = 0 ∨ j = 1 ∨ j = 2 ∨ j = 3 ∨ j = 4 ∨ j = 5 by omega) with rfl | rfl | rfl | rfl | rfl | rfl
    · exact Or.inr (hg _ fl_53)
    · exact absurd rfl hij
    · exact Or.inl (hg _ fl_58)
    · exact Or.inl (hg _ fl_59)
    · exact Or.inl (hg _ fl_60)
    · exact Or.inl (hg _ fl_61)
  · rcases (show j = 0 ∨ j = 1 ∨ j = 2 ∨ j = 3 ∨ j = 4 ∨ j = 5 by omega) with rfl | rfl | rfl | rfl | rfl | rfl
    · exact Or.inr (hg _ fl_54)
    · exact Or.inr (hg _ fl_58)
    · exact absurd rfl hij
    · exact Or.inl (hg _ fl_62)
    · exact Or.inl (hg _ fl_63)
    · exact Or.inl (hg _ fl_64)
  · rcases (show j = 0 ∨ j = 1 ∨ j = 2 ∨ j = 3 ∨ j = 4 ∨ j = 5 by omega) with rfl | rfl | rfl | rfl | rfl | rfl
    · exact Or.inr (hg _ fl_55)
    · exact Or.inr (hg _ fl_59)
    · exact Or.inr (hg _ fl_62)
    · exact absurd rfl hij
    · exact Or.inl (hg _ fl_65)
    · exact Or.inl (hg _ fl_66)
  · rcases (show j = 0 ∨ j = 1 ∨ j = 2 ∨ j = 3 ∨ j = 4 ∨ j = 5 by omega) with rfl | rfl | rfl | rfl | rfl | rfl
    · exact Or.inr (hg _ fl_56)
    · exact Or.inr (hg _ fl_60)
    · exact Or.inr (hg _ fl_63)
    · exact Or.inr (hg _ fl_65)
    · exact absurd rfl hij
    · exact Or.inl (hg _ fl_67)
  · rcases (show j = 0 ∨ j = 1 ∨ j = 2 ∨ j = 3 ∨ j = 4 ∨ j = 5 by omega) with rfl | rfl | rfl | rfl | rfl | rfl
    · exact Or.inr (hg _ fl_57)
    · exact Or.inr (hg _ fl_61)
    · exact Or.inr (hg _ fl_64)
    · exact Or.inr (hg _ fl_66)
    · exact Or.inr (hg _ fl_67)
    · exact absurd rfl hij
theorem ab_el {args : Array Value} {s : State} (hg : ∀ w ∈ flG, w.before args s = true) : ∀ j : Nat, j < 7 → (Term.elem (Term.static "UrchinSchool" "ABOVE" "[I") (.int (Int32.ofNat j))).eval args s none [] s = some (.int (sAb j)) := by
  intro j hj
  rcases (show j = 0 ∨ j = 1 ∨ j = 2 ∨ j = 3 ∨ j = 4 ∨ j = 5 ∨ j = 6 by omega) with rfl | rfl | rfl | rfl | rfl | rfl | rfl
  · exact va_eqt (hg _ fl_68)
  · exact va_eqt (hg _ fl_69)
  · exact va_eqt (hg _ fl_70)
  · exact va_eqt (hg _ fl_71)
  · exact va_eqt (hg _ fl_72)
  · exact va_eqt (hg _ fl_73)
  · exact va_eqt (hg _ fl_74)
set_option maxHeartbeats 1000000 in
theorem start_R {args : Array Value} {s : State} {A : Nat → Prop} (hts : ∀ w ∈ lw_tbl, w.before args s = true) (hgv : (Jvm.Cond.and given_1 narrow_1).before args s = true) (hA : ∀ a : Nat, a < s.heap.size → ¬ A a) : ∃ (fv : Value) (X : Nat → Nat), FV fv ∧ ∀ ad : Nat → Nat, (∀ i, 1000 ≤ i → i < 1102 → ad i = X i) → RO (XR fv) ad A s s.heap := by
  have hg : ∀ w ∈ flG, w.before args s = true := flat_of_before _ hgv
  obtain ⟨aK, aV, hS, hT⟩ := vk_Sof (tm := tmS) (len := strL) (byt := strB) (A := A) (N := 6) (fun i hi => by
    rcases (show i = 0 ∨ i = 1 ∨ i = 2 ∨ i = 3 ∨ i = 4 ∨ i = 5 by omega) with rfl | rfl | rfl | rfl | rfl | rfl <;> decide) (tx_ex hg) (tx_co hg) (tx_ar hg) (tx_le hg) (tx_el hg) (tx_ne hg) hA
  obtain ⟨tA, hA1, hA2⟩ := va_Tof (tm := (Term.static "UrchinSchool" "ABOVE" "[I")) (ty := .int) (N := 7) (f := fun j => .int (sAb j)) (A := A) (by decide) (hg _ fl_75) (va_eqt (hg _ fl_76)) (ab_el hg) hA
  have hF : ∃ (fv : Value) (tF : Nat), FV fv ∧ ∀ ad : Nat → Nat, ad 1101 = tF → va_Z "jdk/internal/util/Preconditions" "SIOOBE_FORMATTER" "Ljava/util/function/BiFunction;" (cv ad fv) A s s.heap := by
    rcases va_Zqof (A := A) (hts _ (tl_2 (i := 147) rfl)) (hts _ (tl_1 (i := 17) rfl)) (hg _ fl_77) hA with z | ⟨t, z⟩
    · exact ⟨.null, 0, Or.inl rfl, fun ad _ => z⟩
    · exact ⟨.ref 1101, t, Or.inr rfl, fun ad e => by show va_Z _ _ _ (.ref (ad 1101)) A s s.heap; rw [e]; exact z⟩
  obtain ⟨fv, tF, hFV, hZ⟩ := hF
  refine ⟨fv, fun i => if i < 1050 then aK (i - 1000) else if i < 1100 then aV (i - 1050) else if i = 1100 then tA else tF, hFV, fun ad had => ?_⟩
  have k0 : ad 1000 = aK 0 := had 1000 (by decide) (by decide)
  have v0 : ad 1050 = aV 0 := had 1050 (by decide) (by decide)
  have k1 : ad 1001 = aK 1 := had 1001 (by decide) (by decide)
  have v1 : ad 1051 = aV 1 := had 1051 (by decide) (by decide)
  have k2 : ad 1002 = aK 2 := had 1002 (by decide) (by decide)
  have v2 : ad 1052 = aV 2 := had 1052 (by decide) (by decide)
  have k3 : ad 1003 = aK 3 := had 1003 (by decide) (by decide)
  have v3 : ad 1053 = aV 3 := had 1053 (by decide) (by decide)
  have k4 : ad 1004 = aK 4 := had 1004 (by decide) (by decide)
  have v4 : ad 1054 = aV 4 := had 1054 (by decide) (by decide)
  have k5 : ad 1005 = aK 5 := had 1005 (by decide) (by decide)
  have v5 : ad 1055 = aV 5 := had 1055 (by decide) (by decide)
  have kA : ad 1100 = tA := had 1100 (by decide) (by decide)
  have kF : ad 1101 = tF := had 1101 (by decide) (by decide)
  obtain ⟨o0, p0, q0, r0⟩ := hS.1 0 (by decide)
  have e0 := hT 0 (by decide)
  rw [← k0] at o0 p0 q0 e0
  rw [← v0] at q0 r0
  obtain ⟨o1, p1, q1, r1⟩ := hS.1 1 (by decide)
  have e1 := hT 1 (by decide)
  rw [← k1] at o1 p1 q1 e1
  rw [← v1] at q1 r1
  obtain ⟨o2, p2, q2, r2⟩ := hS.1 2 (by decide)
  have e2 := hT 2 (by decide)
  rw [← k2] at o2 p2 q2 e2
  rw [← v2] at q2 r2
  obtain ⟨o3, p3, q3, r3⟩ := hS.1 3 (by decide)
  have e3 := hT 3 (by decide)
  rw [← k3] at o3 p3 q3 e3
  rw [← v3] at q3 r3
  obtain ⟨o4, p4, q4, r4⟩ := hS.1 4 (by decide)
  have e4 := hT 4 (by decide)
  rw [← k4] at o4 p4 q4 e4
  rw [← v4] at q4 r4
  obtain ⟨o5, p5, q5, r5⟩ := hS.1 5 (by decide)
  have e5 := hT 5 (by decide)
  rw [← k5] at o5 p5 q5 e5
  rw [← v5] at q5 r5
  rw [← kA] at hA1 hA2
  refine ⟨?_, ?_, ?_, ?_, ?_, ?_⟩
  · exact List.forall_mem_cons.mpr ⟨o0, List.forall_mem_cons.mpr ⟨o1, List.forall_mem_cons.mpr ⟨o2, List.forall_mem_cons.mpr ⟨o3, List.forall_mem_cons.mpr ⟨o4, List.forall_mem_cons.mpr ⟨o5, fun _ z => absurd z List.not_mem_nil⟩⟩⟩⟩⟩⟩
  · exact List.forall_mem_cons.mpr ⟨p0, List.forall_mem_cons.mpr ⟨q0, List.forall_mem_cons.mpr ⟨p1, List.forall_mem_cons.mpr ⟨q1, List.forall_mem_cons.mpr ⟨p2, List.forall_mem_cons.mpr ⟨q2, List.forall_mem_cons.mpr ⟨p3, List.forall_mem_cons.mpr ⟨q3, List.forall_mem_cons.mpr ⟨p4, List.forall_mem_cons.mpr ⟨q4, List.forall_mem_cons.mpr ⟨p5, List.forall_mem_cons.mpr ⟨q5, fun _ z => absurd z List.not_mem_nil⟩⟩⟩⟩⟩⟩⟩⟩⟩⟩⟩⟩
  · exact List.forall_mem_cons.mpr ⟨r0, List.forall_mem_cons.mpr ⟨r1, List.forall_mem_cons.mpr ⟨r2, List.forall_mem_cons.mpr ⟨r3, List.forall_mem_cons.mpr ⟨r4, List.forall_mem_cons.mpr ⟨r5, List.forall_mem_cons.mpr ⟨hA2, fun _ z => absurd z List.not_mem_nil⟩⟩⟩⟩⟩⟩⟩
  · exact List.forall_mem_cons.mpr ⟨(va_Zref (hts _ (tl_4 (i := 210) rfl)) (hts _ (tl_1 (i := 1) rfl)) hA1 hA), List.forall_mem_cons.mpr ⟨(va_Zof (hts _ (tl_2 (i := 131) rfl)) (hts _ (tl_1 (i := 15) rfl)) (va_eqt (hg _ fl_78)) hA), List.forall_mem_cons.mpr ⟨(hZ ad kF), fun _ z => absurd z List.not_mem_nil⟩⟩⟩
  · obtain ⟨a108, _, _, _, g108, _⟩ := Cond.exactly_spec (args := args) (first := s) (o := none) (s := s) (idx := []) (t := (Term.string "UrchinSchoolModel" 108)) (cls := "java/lang/String") (hg _ fl_79)
    have j108 := va_eqv (hg _ fl_80) g108
    have j108 := Value.ref.inj (Option.some.inj (e0.symm.trans j108))
    rw [← j108] at g108
    obtain ⟨a114, _, _, _, g114, _⟩ := Cond.exactly_spec (args := args) (first := s) (o := none) (s := s) (idx := []) (t := (Term.string "UrchinSchoolModel" 114)) (cls := "java/lang/String") (hg _ fl_81)
    have j114 := va_eqv (hg _ fl_82) g114
    have j114 := Value.ref.inj (Option.some.inj (e1.symm.trans j114))
    rw [← j114] at g114
    obtain ⟨a116, _, _, _, g116, _⟩ := Cond.exactly_spec (args := args) (first := s) (o := none) (s := s) (idx := []) (t := (Term.string "UrchinSchoolModel" 116)) (cls := "java/lang/String") (hg _ fl_83)
    have j116 := va_eqv (hg _ fl_84) g116
    have j116 := Value.ref.inj (Option.some.inj (e2.symm.trans j116))
    rw [← j116] at g116
    obtain ⟨a90, _, _, _, g90, _⟩ := Cond.exactly_spec (args := args) (first := s) (o := none) (s := s) (idx := []) (t := (Term.string "UrchinSchoolModel" 90)) (cls := "java/lang/String") (hg _ fl_85)
    have j90 := va_eqv (hg _ fl_86) g90
    have j90 := Value.ref.inj (Option.some.inj (e4.symm.trans j90))
    rw [← j90] at g90
    obtain ⟨a96, _, _, _, g96, _⟩ := Cond.exactly_spec (args := args) (first := s) (o := none) (s := s) (idx := []) (t := (Term.string "UrchinSchoolModel" 96)) (cls := "java/lang/String") (hg _ fl_87)
    have j96 := va_eqv (hg _ fl_88) g96
    have j96 := Value.ref.inj (Option.some.inj (e5.symm.trans j96))
    rw [← j96] at g96
    obtain ⟨a121, _, _, _, g121, _⟩ := Cond.exactly_spec (args := args) (first := s) (o := none) (s := s) (idx := []) (t := (Term.string "UrchinSchoolModel" 121)) (cls := "java/lang/String") (hg _ fl_89)
    have j121 := va_eqv (hg _ fl_90) g121
    have j121 := Value.ref.inj (Option.some.inj (e3.symm.trans j121))
    rw [← j121] at g121
    exact List.forall_mem_cons.mpr ⟨(vk_R.of (hts _ (tl_2 (i := 114) rfl)) e0), List.forall_mem_cons.mpr ⟨(vk_R.of (hts _ (tl_2 (i := 115) rfl)) e1), List.forall_mem_cons.mpr ⟨(vk_R.of (hts _ (tl_2 (i := 116) rfl)) e2), List.forall_mem_cons.mpr ⟨(vk_R.of (hts _ (tl_2 (i := 117) rfl)) e3), List.forall_mem_cons.mpr ⟨(vk_R.of (hts _ (tl_2 (i := 197) rfl)) e4), List.forall_mem_cons.mpr ⟨(vk_R.of (hts _ (tl_3 (i := 18) rfl)) e5), List.forall_mem_cons.mpr ⟨(vk_R.of (hts _ (tl_5 (i := 82) rfl)) g108), List.forall_mem_cons.mpr ⟨(vk_R.of (hts _ (tl_5 (i := 101) rfl)) g114), List.forall_mem_cons.mpr ⟨(vk_R.of (hts _ (tl_5 (i := 102) rfl)) g116), List.forall_mem_cons.mpr ⟨(vk_R.of (hts _ (tl_5 (i := 123) rfl)) g90), List.forall_mem_cons.mpr ⟨(vk_R.of (hts _ (tl_5 (i := 128) rfl)) g96), List.forall_mem_cons.mpr ⟨(vk_R.of (hts _ (tl_5 (i := 129) rfl)) g121), fun _ z => absurd z List.not_mem_nil⟩⟩⟩⟩⟩⟩⟩⟩⟩⟩⟩⟩
  · intro w hw
    exact (start_X hts).1 w hw

/-! the first state of both: where its cells lie, and that they are alike -/
def fZ : Fn := fun _ => 0
def fLE : Fn := upd (upd (upd (upd (fun _ => 0) (nI 0).toNatClampNeg (nI 8)) (nI 1).toNatClampNeg (nI 8)) (nI 2).toNatClampNeg (nI 8)) (nI 3).toNatClampNeg (nI 8)
def fS0 : Fn := upd (upd (upd (upd (upd (fun _ => 0) (nI 23).toNatClampNeg (-nI 1)) ((nI 13) + (nI 0)).toNatClampNeg (-nI 5)) ((nI 13) + (nI 1)).toNatClampNeg (-nI 5)) ((nI 13) + (nI 2)).toNatClampNeg (-nI 5)) ((nI 13) + (nI 3)).toNatClampNeg (-nI 5)
def sc0 : Sc := (fun _ => 0, fun _ => 0, fun _ => 0, fun _ => 0, upd (upd (upd (upd (fun _ => 0) (nI 0).toNatClampNeg (nI 8)) (nI 1).toNatClampNeg (nI 8)) (nI 2).toNatClampNeg (nI 8)) (nI 3).toNatClampNeg (nI 8), 0, 0, 0, 0, 0)
def sf0 : Sf := (sc0, fun _ => 0, (fun _ => 0, if nI 8 < nI 5 then nI 8 else nI 5, 0), (fun _ => 0, if nI 8 < nI 8 then nI 8 else nI 8, 0), (fun _ => 0, if nI 8 < nI 8 then nI 8 else nI 8, 0))
def lg0 : Lg := (fun _ => 0, 0, nI 4, nI 6, Value.null, 0, 0, 0, 0, 0)
def us0 : Us := (sf0, sf0, sf0, (0, 0, 0, 0, 0, 0, 0, 0), (0, 0, 0), (0, 0, 0), (0, 0, 0), (0, 0, 0), (0, 0, 0), (0, 0, 0), (0, 0, 0), fun _ => 0, lg0, lg0, lg0, lg0, lg0, lg0, fun _ => 0, fun _ => 0, fun _ => 0, fun _ => 0, fun _ => 0, fun _ => 0, fun _ => 0, 0, Value.null)
def ms0 : Ms := (0, upd (upd (upd (upd (upd (fun _ => 0) (nI 23).toNatClampNeg (-nI 1)) ((nI 13) + (nI 0)).toNatClampNeg (-nI 5)) ((nI 13) + (nI 1)).toNatClampNeg (-nI 5)) ((nI 13) + (nI 2)).toNatClampNeg (-nI 5)) ((nI 13) + (nI 3)).toNatClampNeg (-nI 5), fun _ => 0, fun _ => 0, 0, 0, 0, 0, 0, 0, fun _ => 0, fun _ => 0, fun _ => 0, fun _ => 0, 0, fun _ => 0, fun _ => 0, 0, 0, 0, 0)
def piL : List Nat := (0 :: 1 :: 2 :: 3 :: 4 :: 5 :: 6 :: 14 :: 15 :: 16 :: 17 :: 18 :: 19 :: 27 :: 28 :: 29 :: 30 :: 31 :: 32 :: 40 :: 43 :: 41 :: 44 :: 46 :: 48 :: 50 :: 52 :: 54 :: 56 :: 57 :: 58 :: 60 :: 61 :: 62 :: 63 :: 64 :: 65 :: 66 :: 67 :: 68 :: 69 :: 59 :: 7 :: 20 :: 33 :: 8 :: 9 :: 10 :: 11 :: 12 :: 13 :: 21 :: 22 :: 23 :: 24 :: 25 :: 26 :: 34 :: 35 :: 36 :: 37 :: 38 :: 39 :: 42 :: 45 :: 47 :: 49 :: 51 :: 53 :: 55 :: 70 :: 71 :: 72 :: 73 :: 74 :: 75 :: 76 :: 77 :: 78 :: 79 :: [])
def adL (b : Nat) (X : Nat → Nat) : Nat → Nat := fun i => match l_get piL i with
  | some j => b + j
  | none => X i
def hSeg : List AE := hn_X11_init ++ hn_X12_init.map (shc 70)
theorem fn_20 (b : Nat) (X : Nat → Nat) : (fun j => (l_get [21, 22, 23, 24, 25, 26, 27] j).map (adL b X)) = (fun j => ((fun j => ((va_up (va_up (va_up (va_up (va_up (va_up (va_up (fun _ => none) (nI 0).toNatClampNeg (some 1)) (nI 1).toNatClampNeg (some 4)) (nI 2).toNatClampNeg (some 6)) (nI 3).toNatClampNeg (some 8)) (nI 4).toNatClampNeg (some 10)) (nI 5).toNatClampNeg (some 12)) (nI 6).toNatClampNeg (some 14)) j).map (fun i => 40 + i)) j).map (sg b)) := by
  funext j
  have e0 : (nI 0).toNatClampNeg = 0 := nI_clamp (by decide)
  have e1 : (nI 1).toNatClampNeg = 1 := nI_clamp (by decide)
  have e2 : (nI 2).toNatClampNeg = 2 := nI_clamp (by decide)
  have e3 : (nI 3).toNatClampNeg = 3 := nI_clamp (by decide)
  have e4 : (nI 4).toNatClampNeg = 4 := nI_clamp (by decide)
  have e5 : (nI 5).toNatClampNeg = 5 := nI_clamp (by decide)
  have e6 : (nI 6).toNatClampNeg = 6 := nI_clamp (by decide)
  simp only [e0, e1, e2, e3, e4, e5, e6]
  match j with
  | 0 => rfl
  | 1 => rfl
  | 2 => rfl
  | 3 => rfl
  | 4 => rfl
  | 5 => rfl
  | 6 => rfl
  | k + 7 => simp [va_up, l_get]
theorem fn_41 (b : Nat) (X : Nat → Nat) : (fun j => (l_get [31, 33, 35, 37, 39] j).map (adL b X)) = (fun j => ((va_up (va_up (va_up (va_up (va_up (fun _ => none) (nI 0).toNatClampNeg (some 60)) (nI 1).toNatClampNeg (some 62)) (nI 2).toNatClampNeg (some 64)) (nI 3).toNatClampNeg (some 66)) (nI 4).toNatClampNeg (some 68)) j).map (sg b)) := by
  funext j
  have e0 : (nI 0).toNatClampNeg = 0 := nI_clamp (by decide)
  have e1 : (nI 1).toNatClampNeg = 1 := nI_clamp (by decide)
  have e2 : (nI 2).toNatClampNeg = 2 := nI_clamp (by decide)
  have e3 : (nI 3).toNatClampNeg = 3 := nI_clamp (by decide)
  have e4 : (nI 4).toNatClampNeg = 4 := nI_clamp (by decide)
  have e5 : (nI 5).toNatClampNeg = 5 := nI_clamp (by decide)
  have e6 : (nI 6).toNatClampNeg = 6 := nI_clamp (by decide)
  simp only [e0, e1, e2, e3, e4]
  match j with
  | 0 => rfl
  | 1 => rfl
  | 2 => rfl
  | 3 => rfl
  | 4 => rfl
  | k + 5 => simp [va_up, l_get]
set_option maxHeartbeats 2000000 in
set_option maxRecDepth 100000 in
theorem pm (tc : Nat → ClassId) (b : Nat) (X : Nat → Nat) : ∀ k, k < 80 → (wm tc (adL b X) 0 (hUs us0 ++ hML ms0))[k]? = (wm tc (sg b) 0 hSeg)[piL.getD k 0]? := by
  intro k hk
  match k, hk with
  | 0, _ => exact rfl
  | 1, _ => exact rfl
  | 2, _ => exact rfl
  | 3, _ => exact rfl
  | 4, _ => exact rfl
  | 5, _ => exact rfl
  | 6, _ => exact rfl
  | 7, _ => exact rfl
  | 8, _ => exact rfl
  | 9, _ => exact rfl
  | 10, _ => exact rfl
  | 11, _ => exact rfl
  | 12, _ => exact rfl
  | 13, _ => exact rfl
  | 14, _ => exact rfl
  | 15, _ => exact rfl
  | 16, _ => exact rfl
  | 17, _ => exact rfl
  | 18, _ => exact rfl
  | 19, _ => exact rfl
  | 20, _ => exact congrArg (fun g : Nat → Option Nat => some (b + 43, (Sum.inl (tc 4, 7, Sum.inr (Sum.inr (Sum.inr (Sum.inr g)))) : va_E))) (fn_20 b X)
  | 21, _ => exact rfl
  | 22, _ => exact rfl
  | 23, _ => exact rfl
  | 24, _ => exact rfl
  | 25, _ => exact rfl
  | 26, _ => exact rfl
  | 27, _ => exact rfl
  | 28, _ => exact rfl
  | 29, _ => exact rfl
  | 30, _ => exact rfl
  | 31, _ => exact rfl
  | 32, _ => exact rfl
  | 33, _ => exact rfl
  | 34, _ => exact rfl
  | 35, _ => exact rfl
  | 36, _ => exact rfl
  | 37, _ => exact rfl
  | 38, _ => exact rfl
  | 39, _ => exact rfl
  | 40, _ => exact rfl
  | 41, _ => exact congrArg (fun g : Nat → Option Nat => some (b + 59, (Sum.inl (tc 3, 5, Sum.inr (Sum.inr (Sum.inr (Sum.inr g)))) : va_E))) (fn_41 b X)
  | 42, _ => exact rfl
  | 43, _ => exact rfl
  | 44, _ => exact rfl
  | 45, _ => exact rfl
  | 46, _ => exact rfl
  | 47, _ => exact rfl
  | 48, _ => exact rfl
  | 49, _ => exact rfl
  | 50, _ => exact rfl
  | 51, _ => exact rfl
  | 52, _ => exact rfl
  | 53, _ => exact rfl
  | 54, _ => exact rfl
  | 55, _ => exact rfl
  | 56, _ => exact rfl
  | 57, _ => exact rfl
  | 58, _ => exact rfl
  | 59, _ => exact rfl
  | 60, _ => exact rfl
  | 61, _ => exact rfl
  | 62, _ => exact rfl
  | 63, _ => exact rfl
  | 64, _ => exact rfl
  | 65, _ => exact rfl
  | 66, _ => exact rfl
  | 67, _ => exact rfl
  | 68, _ => exact rfl
  | 69, _ => exact rfl
  | 70, _ => exact rfl
  | 71, _ => exact rfl
  | 72, _ => exact rfl
  | 73, _ => exact rfl
  | 74, _ => exact rfl
  | 75, _ => exact rfl
  | 76, _ => exact rfl
  | 77, _ => exact rfl
  | 78, _ => exact rfl
  | 79, _ => exact rfl
  | n + 80, h => exact absurd h (by omega)
theorem adL_far (b : Nat) (X : Nat → Nat) {i : Nat} (h : 80 ≤ i) : adL b X i = X i := by
  unfold adL
  have : l_get piL i = none := by rw [l_get_eq, List.getElem?_eq_none_iff]; exact h
  rw [this]
theorem adL_is (b : Nat) (X : Nat → Nat) : ∀ i, i < 80 → ∃ j, piL[i]? = some j ∧ adL b X i = b + j := by
  intro i hi
  have hl : i < piL.length := hi
  refine ⟨piL[i], List.getElem?_eq_getElem hl, ?_⟩
  unfold adL
  rw [l_get_eq, List.getElem?_eq_getElem hl]
theorem piL_nd : piL.Nodup := by decide +kernel
theorem adL_inj (b : Nat) (X : Nat → Nat) : INJ (adL b X) 80 := by
  intro i j hi hj e
  obtain ⟨x, x1, x2⟩ := adL_is b X i hi
  obtain ⟨y, y1, y2⟩ := adL_is b X j hj
  rw [x2, y2] at e
  have e : x = y := by omega
  subst e
  exact (List.getElem?_inj (show i < piL.length from hi) piL_nd).mp (x1.trans y1.symm)
theorem adL_AA {b : Nat} {X : Nat → Nat} {q : Nat} (h : AA (adL b X) 80 q) : b ≤ q := by
  obtain ⟨i, hi, rfl⟩ := h
  obtain ⟨x, -, x2⟩ := adL_is b X i hi
  rw [x2]
  omega
theorem len_L (s : Us) (m : Ms) : (hUs s ++ hML m).length = 80 := by rw [List.length_append, len_U, len_ML]
theorem place0 {D : va_G} {tc : Nat → ClassId} {b : Nat} (X : Nat → Nat) {H : Heap} (h : va_P D vwCl (wm tc (sg b) 0 hSeg) H) : va_P D vwCl (wm tc (adL b X) 0 (hUs us0 ++ hML ms0)) H := by
  refine h.by (fun k => piL.getD k 0) fun k q hq => ?_
  have hk : k < 80 := by
    have := (List.getElem?_eq_some_iff.mp hq).1
    rw [wm_len, len_L] at this
    exact this
  rw [← pm tc b X k hk]
  exact hq
theorem s0_13 : ∀ k, k < 4 → Sc.le (Sf.c (Us.nw us0)) k = nI 8 ∧ Ms.s ms0 (13 + k) = -nI 5 := by decide +kernel
theorem s0_num : Ms.s ms0 17 = nI 0 ∧ Ms.s ms0 0 = nI 0 ∧ Ms.s ms0 18 = nI 0 ∧ Ms.s ms0 23 = -nI 1 ∧ Ms.s ms0 22 = nI 0 ∧ Ms.s ms0 19 = nI 0 ∧ Ms.s ms0 20 = nI 0 ∧ Ms.s ms0 21 = nI 0 := by decide +kernel
theorem s0_li : Tb.li (Sf.se sf0) = nI 5 ∧ Tb.li (Sf.pl sf0) = nI 8 ∧ Tb.li (Sf.bk sf0) = nI 8 := by decide +kernel
theorem rel0 : Rel us0 ms0 0 := by
  obtain ⟨n17, n0, n18, n23, n22, n19, n20, n21⟩ := s0_num
  obtain ⟨l1, l2, l3⟩ := s0_li
  refine ⟨⟨rfl, fun j _ => ⟨0, Nat.le_refl 0, rfl⟩⟩, 0, 0, 0, ⟨⟨by decide, rfl, n17⟩, ⟨by decide, rfl, n0⟩, ⟨by decide, rfl, n18, by rw [if_pos rfl]; exact n23⟩, fun p hp => absurd hp (Nat.not_lt_zero p), fun p hp => absurd hp (Nat.not_lt_zero p), fun k hk => ⟨8, Nat.le_refl 8, (s0_13 k hk).1, by rw [if_pos rfl]; exact (s0_13 k hk).2⟩, ⟨0, by decide, rfl, n22, fun j hj => absurd hj (Nat.not_lt_zero j)⟩, ⟨0, by decide, rfl, n19, l1, fun j hj => absurd hj (Nat.not_lt_zero j)⟩, ⟨0, by decide, rfl, n20, l2, fun j hj => absurd hj (Nat.not_lt_zero j)⟩, ⟨0, by decide, rfl, n21, l3, fun j hj => absurd hj (Nat.not_lt_zero j)⟩, fun j _ => ⟨0, by decide, rfl⟩, ⟨fun j => rfl, 0, by decide, rfl⟩, fun k hk => absurd hk (Nat.not_lt_zero k)⟩, ⟨rfl, rfl, rfl⟩, ?_, ⟨Or.inl ⟨rfl, rfl⟩, l1, l2, l3, fun j => rfl⟩, Or.inl ⟨rfl, rfl⟩⟩
  have t : TPok Value.null := fun em _ => rfl
  exact ⟨t, t, t, t, t, t⟩

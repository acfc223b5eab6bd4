/-! printed by wip/whole/gen/specs57.py: calls of the class -/
theorem rl_lt2 {N n : Nat} {x : Int32} (h : rl N x) (c : x < nI n) (hN : N < 1000 := by decide) (hn : n < 1000 := by decide) : vp_in x n := by
  obtain ⟨q, hq, rfl⟩ := h
  rw [nI_ltI (by omega) (by omega)] at c
  exact vp_in_nI c (by omega)
theorem rl_nn {N : Nat} {x : Int32} (h : rl N x) (hN : N < 1000 := by decide) : ¬ x < 0 := by
  obtain ⟨q, hq, rfl⟩ := h
  exact Int32.not_lt.mpr (nI_le (Nat.zero_le _) (by omega))
def m_X11_isFact  (x : Int64) : Int32 := if (lg_cmp x (lN 0)) < 0 then nI 0 else (if 0 ≤ (lg_cmp x 8) then nI 0 else nI 1)
theorem bl_X11_isFact  {x : Int64} : bl (m_X11_isFact x) := by
  unfold m_X11_isFact
  (repeat' split) <;> first | exact Or.inl rfl | exact Or.inr rfl
set_option maxRecDepth 100000 in
set_option maxHeartbeats 4000000 in
theorem c_X11_isFact (l : Launch) {fv : Value} (hf : FV fv)  (x : Int64) : CT l fv 1 jX11_isFact [.long x] ([]) (DP (some (.int (m_X11_isFact x))) ([])) := by
  refine CT_of [] mt_X11_isFact (by decide +kernel) (tab_X11 hf) okX11_isFact (Nat.le_of_ble_eq_true rfl) ?_
  intro J hJ hD
  refine hJ 0 _ _ _ ?_
  refine And.intro (fun c1 => ?_) (fun c1 => ?_)
  · skip
    refine hJ 18 _ _ _ ?_
    exact And.intro xb0 (DPi (if_pos c1))
  · skip
    refine And.intro (fun c2 => ?_) (fun c2 => ?_)
    · skip
      refine hJ 18 _ _ _ ?_
      exact And.intro xb0 (DPi ((if_neg c1).trans (if_pos c2)))
    · skip
      refine hJ 19 _ _ _ ?_
      exact And.intro xb1 (DPi ((if_neg c1).trans (if_neg c2)))
def m_X11_isSet  (x : Int32) : Int32 := if x < 0 then nI 0 else (if nI 255 < x then nI 0 else nI 1)
theorem bl_X11_isSet  {x : Int32} : bl (m_X11_isSet x) := by
  unfold m_X11_isSet
  (repeat' split) <;> first | exact Or.inl rfl | exact Or.inr rfl
set_option maxRecDepth 100000 in
set_option maxHeartbeats 4000000 in
theorem c_X11_isSet (l : Launch) {fv : Value} (hf : FV fv)  (x : Int32) : CT l fv 1 jX11_isSet [.int x] ([]) (DP (some (.int (m_X11_isSet x))) ([])) := by
  refine CT_of [] mt_X11_isSet (by decide +kernel) (tab_X11 hf) okX11_isSet (Nat.le_of_ble_eq_true rfl) ?_
  intro J hJ hD
  refine hJ 0 _ _ _ ?_
  refine And.intro (fun c1 => ?_) (fun c1 => ?_)
  · skip
    refine hJ 15 _ _ _ ?_
    exact And.intro xb0 (DPi (if_pos c1))
  · skip
    refine And.intro (fun c2 => ?_) (fun c2 => ?_)
    · skip
      refine hJ 15 _ _ _ ?_
      exact And.intro xb0 (DPi ((if_neg c1).trans (if_pos c2)))
    · skip
      refine hJ 16 _ _ _ ?_
      exact And.intro xb1 (DPi ((if_neg c1).trans (if_neg c2)))
def m_X11_isNumber  (x : Int32) : Int32 := if x < 0 then nI 0 else (if nI 9 < x then nI 0 else nI 1)
theorem bl_X11_isNumber  {x : Int32} : bl (m_X11_isNumber x) := by
  unfold m_X11_isNumber
  (repeat' split) <;> first | exact Or.inl rfl | exact Or.inr rfl
set_option maxRecDepth 100000 in
set_option maxHeartbeats 4000000 in
theorem c_X11_isNumber (l : Launch) {fv : Value} (hf : FV fv)  (x : Int32) : CT l fv 1 jX11_isNumber [.int x] ([]) (DP (some (.int (m_X11_isNumber x))) ([])) := by
  refine CT_of [] mt_X11_isNumber (by decide +kernel) (tab_X11 hf) okX11_isNumber (Nat.le_of_ble_eq_true rfl) ?_
  intro J hJ hD
  refine hJ 0 _ _ _ ?_
  refine And.intro (fun c1 => ?_) (fun c1 => ?_)
  · skip
    refine hJ 14 _ _ _ ?_
    exact And.intro xb0 (DPi (if_pos c1))
  · skip
    refine And.intro (fun c2 => ?_) (fun c2 => ?_)
    · skip
      refine hJ 14 _ _ _ ?_
      exact And.intro xb0 (DPi ((if_neg c1).trans (if_pos c2)))
    · skip
      refine hJ 15 _ _ _ ?_
      exact And.intro xb1 (DPi ((if_neg c1).trans (if_neg c2)))
def m_X11_isLesson  (x : Int32) : Int32 := if x < 0 then nI 0 else (if nI 4 ≤ x then nI 0 else nI 1)
theorem bl_X11_isLesson  {x : Int32} : bl (m_X11_isLesson x) := by
  unfold m_X11_isLesson
  (repeat' split) <;> first | exact Or.inl rfl | exact Or.inr rfl
set_option maxRecDepth 100000 in
set_option maxHeartbeats 4000000 in
theorem c_X11_isLesson (l : Launch) {fv : Value} (hf : FV fv)  (x : Int32) : CT l fv 1 jX11_isLesson [.int x] ([]) (DP (some (.int (m_X11_isLesson x))) ([])) := by
  refine CT_of [] mt_X11_isLesson (by decide +kernel) (tab_X11 hf) okX11_isLesson (Nat.le_of_ble_eq_true rfl) ?_
  intro J hJ hD
  refine hJ 0 _ _ _ ?_
  refine And.intro (fun c1 => ?_) (fun c1 => ?_)
  · skip
    refine hJ 13 _ _ _ ?_
    exact And.intro xb0 (DPi (if_pos c1))
  · skip
    refine And.intro (fun c2 => ?_) (fun c2 => ?_)
    · skip
      refine hJ 13 _ _ _ ?_
      exact And.intro xb0 (DPi ((if_neg c1).trans (if_pos c2)))
    · skip
      refine hJ 14 _ _ _ ?_
      exact And.intro xb1 (DPi ((if_neg c1).trans (if_neg c2)))
def m_X11_areTides  (x : Int32) : Int32 := if x < 0 then nI 0 else (if nI 60 < x then nI 0 else nI 1)
theorem bl_X11_areTides  {x : Int32} : bl (m_X11_areTides x) := by
  unfold m_X11_areTides
  (repeat' split) <;> first | exact Or.inl rfl | exact Or.inr rfl
set_option maxRecDepth 100000 in
set_option maxHeartbeats 4000000 in
theorem c_X11_areTides (l : Launch) {fv : Value} (hf : FV fv)  (x : Int32) : CT l fv 1 jX11_areTides [.int x] ([]) (DP (some (.int (m_X11_areTides x))) ([])) := by
  refine CT_of [] mt_X11_areTides (by decide +kernel) (tab_X11 hf) okX11_areTides (Nat.le_of_ble_eq_true rfl) ?_
  intro J hJ hD
  refine hJ 0 _ _ _ ?_
  refine And.intro (fun c1 => ?_) (fun c1 => ?_)
  · skip
    refine hJ 14 _ _ _ ?_
    exact And.intro xb0 (DPi (if_pos c1))
  · skip
    refine And.intro (fun c2 => ?_) (fun c2 => ?_)
    · skip
      refine hJ 14 _ _ _ ?_
      exact And.intro xb0 (DPi ((if_neg c1).trans (if_pos c2)))
    · skip
      refine hJ 15 _ _ _ ?_
      exact And.intro xb1 (DPi ((if_neg c1).trans (if_neg c2)))
def m_X11_isPart  (x : Int32) : Int32 := if x = 0 then nI 1 else (if x = nI 1 then nI 1 else nI 0)
theorem bl_X11_isPart  {x : Int32} : bl (m_X11_isPart x) := by
  unfold m_X11_isPart
  (repeat' split) <;> first | exact Or.inl rfl | exact Or.inr rfl
set_option maxRecDepth 100000 in
set_option maxHeartbeats 4000000 in
theorem c_X11_isPart (l : Launch) {fv : Value} (hf : FV fv)  (x : Int32) : CT l fv 1 jX11_isPart [.int x] ([]) (DP (some (.int (m_X11_isPart x))) ([])) := by
  refine CT_of [] mt_X11_isPart (by decide +kernel) (tab_X11 hf) okX11_isPart (Nat.le_of_ble_eq_true rfl) ?_
  intro J hJ hD
  refine hJ 0 _ _ _ ?_
  refine And.intro (fun c1 => ?_) (fun c1 => ?_)
  · skip
    refine hJ 9 _ _ _ ?_
    refine hJ 14 _ _ _ ?_
    exact And.intro xb1 (DPi (if_pos c1))
  · skip
    refine And.intro (fun c2 => ?_) (fun c2 => ?_)
    · skip
      refine hJ 13 _ _ _ ?_
      exact And.intro xb0 (DPi ((if_neg c1).trans (if_neg c2)))
    · skip
      refine hJ 14 _ _ _ ?_
      exact And.intro xb1 (DPi ((if_neg c1).trans (if_pos c2)))
def m_X1_forget (s : Hs) : Hs := bindv (m_J7_fill_53178 (Hs.st s) (-nI 1)) (fun r1 => (Hs.h s, Fi.f r1))
set_option maxRecDepth 100000 in
set_option maxHeartbeats 4000000 in
theorem c_X1_forget (l : Launch) {fv : Value} (hf : FV fv) (s : Hs) (pl ki : Nat) : CT l fv 2 jX1_forget [.ref 0] (hHs s pl ki) (DP none (hHs (m_X1_forget s) pl ki)) := by
  refine CT_of [] mt_X1_forget (by decide +kernel) (tab_X1 hf) okX1_forget (Nat.le_of_ble_eq_true rfl) ?_
  intro J hJ hD
  refine hJ 0 _ _ _ ?_
  obtain ⟨r1, er1⟩ : ∃ z : Fi, m_J7_fill_53178 (Hs.st s) (-nI 1) = z := ⟨_, rfl⟩
  have hr1 := c_J7_fill_53178 l hf (Hs.st s) (-nI 1)
  rw [er1] at hr1
  refine CALL_sub (r := none) (h' := wHs (Hs.h s) (Fi.f r1) pl ki) [1] (by decide) (hr1) rfl rfl (by decide) (by decide) rfl ?_
  exact And.intro rfl (DPs (F := (fun z => hHs z pl ki)) (s' := (Hs.h s, Fi.f r1)) (bindv_eq er1))
def holdP (x : Int32) : Nat := if x = nI 1 then 31 else if x = nI 2 then 33 else if x = nI 3 then 35 else if x = nI 4 then 37 else if x = nI 5 then 39 else 29
def holdL (x : Int32) (l0 l1 l2 l3 l4 l5 : Lg) : Lg := if x = nI 1 then l1 else if x = nI 2 then l2 else if x = nI 3 then l3 else if x = nI 4 then l4 else if x = nI 5 then l5 else l0
def TPs (s : Us) : Prop := TPok (Lg.tp (Us.l0 s)) ∧ TPok (Lg.tp (Us.l1 s)) ∧ TPok (Lg.tp (Us.l2 s)) ∧ TPok (Lg.tp (Us.l3 s)) ∧ TPok (Lg.tp (Us.l4 s)) ∧ TPok (Lg.tp (Us.l5 s))
theorem or6 {x : Int32} (h : rl 5 x) : x = nI 0 ∨ x = nI 1 ∨ x = nI 2 ∨ x = nI 3 ∨ x = nI 4 ∨ x = nI 5 := by
  obtain ⟨k, hk, rfl⟩ := h
  have : k = 0 ∨ k = 1 ∨ k = 2 ∨ k = 3 ∨ k = 4 ∨ k = 5 := by omega
  rcases this with rfl | rfl | rfl | rfl | rfl | rfl
  · exact Or.inl rfl
  · exact Or.inr (Or.inl rfl)
  · exact Or.inr (Or.inr (Or.inl rfl))
  · exact Or.inr (Or.inr (Or.inr (Or.inl rfl)))
  · exact Or.inr (Or.inr (Or.inr (Or.inr (Or.inl rfl))))
  · exact Or.inr (Or.inr (Or.inr (Or.inr (Or.inr rfl))))
theorem hold_q {s : Us} {x : Int32} {L : Lg} {q : Nat} (ht : TPs s) (hl : rl 5 x) (eL : holdL x (Us.l0 s) (Us.l1 s) (Us.l2 s) (Us.l3 s) (Us.l4 s) (Us.l5 s) = L) (eq : holdP x = q) : HQ q L s := by
  obtain ⟨t0, t1, t2, t3, t4, t5⟩ := ht
  rw [← eL, ← eq]
  rcases or6 hl with rfl | rfl | rfl | rfl | rfl | rfl
  · exact ⟨t0, Or.inl ⟨rfl, rfl⟩⟩
  · exact ⟨t1, Or.inr (Or.inl ⟨rfl, rfl⟩)⟩
  · exact ⟨t2, Or.inr (Or.inr (Or.inl ⟨rfl, rfl⟩))⟩
  · exact ⟨t3, Or.inr (Or.inr (Or.inr (Or.inl ⟨rfl, rfl⟩)))⟩
  · exact ⟨t4, Or.inr (Or.inr (Or.inr (Or.inr (Or.inl ⟨rfl, rfl⟩))))⟩
  · exact ⟨t5, Or.inr (Or.inr (Or.inr (Or.inr (Or.inr ⟨rfl, rfl⟩))))⟩
set_option maxRecDepth 100000 in
set_option maxHeartbeats 4000000 in
theorem c_X11_holding_z0 (l : Launch) {fv : Value} (hf : FV fv) (s : Us) (hl : rl 5 (Sc.lg (Sf.c (Us.nw s)))) (hk : Sc.lg (Sf.c (Us.nw s)) = nI 0) : CT l fv 1 jX11_holding [.ref 0] (hUs s) (DP (some (.ref 29)) (hUs s)) := by
  refine CT_of [] mt_X11_holding (by decide +kernel) (tab_X11 hf) okX11_holding (Nat.le_of_ble_eq_true rfl) ?_
  intro J hJ hD
  refine hJ 0 _ _ _ ?_
  refine And.intro (fun c1 => ?_) (fun c1 => absurd (by rw [hk]; decide) c1)
  refine hJ 32 _ _ _ ?_
  exact And.intro ⟨_, rfl⟩ ⟨rfl, rfl⟩
set_option maxRecDepth 100000 in
set_option maxHeartbeats 4000000 in
theorem c_X11_holding_z1 (l : Launch) {fv : Value} (hf : FV fv) (s : Us) (hl : rl 5 (Sc.lg (Sf.c (Us.nw s)))) (hk : Sc.lg (Sf.c (Us.nw s)) = nI 1) : CT l fv 1 jX11_holding [.ref 0] (hUs s) (DP (some (.ref 31)) (hUs s)) := by
  refine CT_of [] mt_X11_holding (by decide +kernel) (tab_X11 hf) okX11_holding (Nat.le_of_ble_eq_true rfl) ?_
  intro J hJ hD
  refine hJ 0 _ _ _ ?_
  refine And.intro (fun c1 => absurd c1 (by rw [hk]; decide)) (fun c1 => ?_)
  refine And.intro (fun c2 => absurd c2 (by rw [hk]; decide)) (fun c2 => ?_)
  refine ⟨Or.inl rfl, by rw [hk, show (nI 1 - nI 1 : Int32) = nI 0 by decide]; exact vp_in_nI (by decide) (by decide), 31, by rw [hk]; rfl, ?_⟩
  refine hJ 36 _ _ _ ?_
  exact And.intro ⟨_, rfl⟩ ⟨rfl, rfl⟩
set_option maxRecDepth 100000 in
set_option maxHeartbeats 4000000 in
theorem c_X11_holding_z2 (l : Launch) {fv : Value} (hf : FV fv) (s : Us) (hl : rl 5 (Sc.lg (Sf.c (Us.nw s)))) (hk : Sc.lg (Sf.c (Us.nw s)) = nI 2) : CT l fv 1 jX11_holding [.ref 0] (hUs s) (DP (some (.ref 33)) (hUs s)) := by
  refine CT_of [] mt_X11_holding (by decide +kernel) (tab_X11 hf) okX11_holding (Nat.le_of_ble_eq_true rfl) ?_
  intro J hJ hD
  refine hJ 0 _ _ _ ?_
  refine And.intro (fun c1 => absurd c1 (by rw [hk]; decide)) (fun c1 => ?_)
  refine And.intro (fun c2 => absurd c2 (by rw [hk]; decide)) (fun c2 => ?_)
  refine ⟨Or.inl rfl, by rw [hk, show (nI 2 - nI 1 : Int32) = nI 1 by decide]; exact vp_in_nI (by decide) (by decide), 33, by rw [hk]; rfl, ?_⟩
  refine hJ 36 _ _ _ ?_
  exact And.intro ⟨_, rfl⟩ ⟨rfl, rfl⟩
set_option maxRecDepth 100000 in
set_option maxHeartbeats 4000000 in
theorem c_X11_holding_z3 (l : Launch) {fv : Value} (hf : FV fv) (s : Us) (hl : rl 5 (Sc.lg (Sf.c (Us.nw s)))) (hk : Sc.lg (Sf.c (Us.nw s)) = nI 3) : CT l fv 1 jX11_holding [.ref 0] (hUs s) (DP (some (.ref 35)) (hUs s)) := by
  refine CT_of [] mt_X11_holding (by decide +kernel) (tab_X11 hf) okX11_holding (Nat.le_of_ble_eq_true rfl) ?_
  intro J hJ hD
  refine hJ 0 _ _ _ ?_
  refine And.intro (fun c1 => absurd c1 (by rw [hk]; decide)) (fun c1 => ?_)
  refine And.intro (fun c2 => absurd c2 (by rw [hk]; decide)) (fun c2 => ?_)
  refine ⟨Or.inl rfl, by rw [hk, show (nI 3 - nI 1 : Int32) = nI 2 by decide]; exact vp_in_nI (by decide) (by decide), 35, by rw [hk]; rfl, ?_⟩
  refine hJ 36 _ _ _ ?_
  exact And.intro ⟨_, rfl⟩ ⟨rfl, rfl⟩
set_option maxRecDepth 100000 in
set_option maxHeartbeats 4000000 in
theorem c_X11_holding_z4 (l : Launch) {fv : Value} (hf : FV fv) (s : Us) (hl : rl 5 (Sc.lg (Sf.c (Us.nw s)))) (hk : Sc.lg (Sf.c (Us.nw s)) = nI 4) : CT l fv 1 jX11_holding [.ref 0] (hUs s) (DP (some (.ref 37)) (hUs s)) := by
  refine CT_of [] mt_X11_holding (by decide +kernel) (tab_X11 hf) okX11_holding (Nat.le_of_ble_eq_true rfl) ?_
  intro J hJ hD
  refine hJ 0 _ _ _ ?_
  refine And.intro (fun c1 => absurd c1 (by rw [hk]; decide)) (fun c1 => ?_)
  refine And.intro (fun c2 => absurd c2 (by rw [hk]; decide)) (fun c2 => ?_)
  refine ⟨Or.inl rfl, by rw [hk, show (nI 4 - nI 1 : Int32) = nI 3 by decide]; exact vp_in_nI (by decide) (by decide), 37, by rw [hk]; rfl, ?_⟩
  refine hJ 36 _ _ _ ?_
  exact And.intro ⟨_, rfl⟩ ⟨rfl, rfl⟩
set_option maxRecDepth 100000 in
set_option maxHeartbeats 4000000 in
theorem c_X11_holding_z5 (l : Launch) {fv : Value} (hf : FV fv) (s : Us) (hl : rl 5 (Sc.lg (Sf.c (Us.nw s)))) (hk : Sc.lg (Sf.c (Us.nw s)) = nI 5) : CT l fv 1 jX11_holding [.ref 0] (hUs s) (DP (some (.ref 39)) (hUs s)) := by
  refine CT_of [] mt_X11_holding (by decide +kernel) (tab_X11 hf) okX11_holding (Nat.le_of_ble_eq_true rfl) ?_
  intro J hJ hD
  refine hJ 0 _ _ _ ?_
  refine And.intro (fun c1 => absurd c1 (by rw [hk]; decide)) (fun c1 => ?_)
  refine And.intro (fun c2 => absurd c2 (by rw [hk]; decide)) (fun c2 => ?_)
  refine ⟨Or.inl rfl, by rw [hk, show (nI 5 - nI 1 : Int32) = nI 4 by decide]; exact vp_in_nI (by decide) (by decide), 39, by rw [hk]; rfl, ?_⟩
  refine hJ 36 _ _ _ ?_
  exact And.intro ⟨_, rfl⟩ ⟨rfl, rfl⟩
theorem c_X11_holding (l : Launch) {fv : Value} (hf : FV fv) (s : Us) (hl : rl 5 (Sc.lg (Sf.c (Us.nw s)))) : CT l fv 1 jX11_holding [.ref 0] (hUs s) (DP (some (.ref (holdP (Sc.lg (Sf.c (Us.nw s)))))) (hUs s)) := by
  rcases or6 hl with h | h | h | h | h | h
  · have e : holdP (Sc.lg (Sf.c (Us.nw s))) = 29 := by rw [h]; rfl
    rw [e]; exact c_X11_holding_z0 l hf s hl h
  · have e : holdP (Sc.lg (Sf.c (Us.nw s))) = 31 := by rw [h]; rfl
    rw [e]; exact c_X11_holding_z1 l hf s hl h
  · have e : holdP (Sc.lg (Sf.c (Us.nw s))) = 33 := by rw [h]; rfl
    rw [e]; exact c_X11_holding_z2 l hf s hl h
  · have e : holdP (Sc.lg (Sf.c (Us.nw s))) = 35 := by rw [h]; rfl
    rw [e]; exact c_X11_holding_z3 l hf s hl h
  · have e : holdP (Sc.lg (Sf.c (Us.nw s))) = 37 := by rw [h]; rfl
    rw [e]; exact c_X11_holding_z4 l hf s hl h
  · have e : holdP (Sc.lg (Sf.c (Us.nw s))) = 39 := by rw [h]; rfl
    rw [e]; exact c_X11_holding_z5 l hf s hl h
theorem c_X11_holding_h5 (l : Launch) {fv : Value} (hf : FV fv) (s : Us) (hl : rl 5 (Sc.lg (Sf.c (Us.nw s)))) (n1 : ¬ Sc.lg (Sf.c (Us.nw s)) = nI 1) (n2 : ¬ Sc.lg (Sf.c (Us.nw s)) = nI 2) (n3 : ¬ Sc.lg (Sf.c (Us.nw s)) = nI 3) (n4 : ¬ Sc.lg (Sf.c (Us.nw s)) = nI 4) (n5 : ¬ Sc.lg (Sf.c (Us.nw s)) = nI 5) : CT l fv 1 jX11_holding [.ref 0] (hUs s) (DP (some (.ref 29)) (hUs s)) := by
  rcases or6 hl with h | h | h | h | h | h
  · exact c_X11_holding_z0 l hf s hl h
  · exact absurd h n1
  · exact absurd h n2
  · exact absurd h n3
  · exact absurd h n4
  · exact absurd h n5
def m_X11_feed (s : Us) (x : Int32) : Int32 × Us := if x < 0 then ((-nI 2), s) else (if x ≤ nI 127 then (if Sc.sg (Sf.c (Us.nw s)) < nI 100 then ((Sc.sg (Sf.c (Us.nw s)) + nI 1), (((Sc.kd (Sf.c (Us.nw s)), Sc.vv (Sf.c (Us.nw s)), Sc.kn (Sf.c (Us.nw s)), Sc.rw (Sf.c (Us.nw s)), Sc.le (Sf.c (Us.nw s)), Sc.sz (Sf.c (Us.nw s)), Sc.ou (Sf.c (Us.nw s)), Sc.ti (Sf.c (Us.nw s)), (Sc.sg (Sf.c (Us.nw s)) + nI 1), Sc.lg (Sf.c (Us.nw s))), (upd (Sf.tp (Us.nw s)) (Sc.sg (Sf.c (Us.nw s))).toNatClampNeg (vp_nar .byte x.toInt8.toInt32)), Sf.se (Us.nw s), Sf.pl (Us.nw s), Sf.bk (Us.nw s)), Us.kp s, Us.ah s, Us.h s, Us.k0 s, Us.k1 s, Us.k2 s, Us.k3 s, Us.k4 s, Us.k5 s, Us.k6 s, Us.st s, Us.l0 s, Us.l1 s, Us.l2 s, Us.l3 s, Us.l4 s, Us.l5 s, Us.b0 s, Us.b1 s, Us.b2 s, Us.b3 s, Us.b4 s, Us.b5 s, Us.b6 s, Us.it s, Us.ac s)) else ((-nI 4), s)) else ((-nI 2), s))
set_option maxRecDepth 100000 in
set_option maxHeartbeats 4000000 in
theorem c_X11_feed (l : Launch) {fv : Value} (hf : FV fv) (s : Us) (x : Int32) (hg : rl 100 (Sc.sg (Sf.c (Us.nw s)))) : CT l fv 1 jX11_feed [.ref 0, .int x] (hUs s) (DP (some (.int (m_X11_feed s x).1)) (hUs ((m_X11_feed s x).2))) := by
  refine CT_of [] mt_X11_feed (by decide +kernel) (tab_X11 hf) okX11_feed (Nat.le_of_ble_eq_true rfl) ?_
  intro J hJ hD
  refine hJ 0 _ _ _ ?_
  refine And.intro (fun c1 => ?_) (fun c1 => ?_)
  · skip
    refine hJ 10 _ _ _ ?_
    exact And.intro True.intro (DPis (F := (fun z => hUs z)) (s' := s) (if_pos c1))
  · skip
    refine And.intro (fun c2 => ?_) (fun c2 => ?_)
    · skip
      refine hJ 13 _ _ _ ?_
      refine And.intro (fun c3 => absurd c3 (rl_nn hg)) (fun c3 => ?_)
      refine And.intro (fun c4 => ?_) (fun c4 => ?_)
      · skip
        have hx := rl_lt2 hg c4
        refine hJ 44 _ _ _ ?_
        refine And.intro (hx) ?_
        refine And.intro True.intro ?_
        exact And.intro True.intro (DPis (F := (fun z => hUs z)) (s' := (((Sc.kd (Sf.c (Us.nw s)), Sc.vv (Sf.c (Us.nw s)), Sc.kn (Sf.c (Us.nw s)), Sc.rw (Sf.c (Us.nw s)), Sc.le (Sf.c (Us.nw s)), Sc.sz (Sf.c (Us.nw s)), Sc.ou (Sf.c (Us.nw s)), Sc.ti (Sf.c (Us.nw s)), (Sc.sg (Sf.c (Us.nw s)) + nI 1), Sc.lg (Sf.c (Us.nw s))), (upd (Sf.tp (Us.nw s)) (Sc.sg (Sf.c (Us.nw s))).toNatClampNeg (vp_nar .byte x.toInt8.toInt32)), Sf.se (Us.nw s), Sf.pl (Us.nw s), Sf.bk (Us.nw s)), Us.kp s, Us.ah s, Us.h s, Us.k0 s, Us.k1 s, Us.k2 s, Us.k3 s, Us.k4 s, Us.k5 s, Us.k6 s, Us.st s, Us.l0 s, Us.l1 s, Us.l2 s, Us.l3 s, Us.l4 s, Us.l5 s, Us.b0 s, Us.b1 s, Us.b2 s, Us.b3 s, Us.b4 s, Us.b5 s, Us.b6 s, Us.it s, Us.ac s)) ((if_neg c1).trans ((if_pos c2).trans (if_pos c4))))
      · skip
        exact And.intro True.intro (DPis (F := (fun z => hUs z)) (s' := s) ((if_neg c1).trans ((if_pos c2).trans (if_neg c4))))
    · skip
      exact And.intro True.intro (DPis (F := (fun z => hUs z)) (s' := s) ((if_neg c1).trans (if_neg c2)))

/-! the law's loop: each of its calls, the loop, the end -/
section LW
variable {l : Launch} {fv : Value} {L : Nat} {xs : Nat → Int32} {J : JP}
theorem j7 {j : Nat} (h : j < 7) : j = 0 ∨ j = 1 ∨ j = 2 ∨ j = 3 ∨ j = 4 ∨ j = 5 ∨ j = 6 := by omega
def RTL : RP := fun r _ => r = some (.int 1)
def LVi (i : Nat) : LV := [(3, .int (nI i)), (0, .ref 1200), (1, .ref 0), (2, .ref 70)]
def RunL (l : Launch) (fv : Value) (L : Nat) (xs : Nat → Int32) (J : JP) : Prop := Runs (P_Ls L xs) (CTof l TB mt vwCl (XL fv L xs)) 40 4 (some .boolean) [361, 383, 611, 643] kL_law J RTL
theorem vpi {i L k : Nat} (h : i + k < L) (hL : L ≤ 2560) : vp_in (nI i + nI k) L := by rw [nI_add]; exact vp_in_nI h (by omega)
theorem lc_same {a b : Int64} (e : a = b) : lg_cmp a b = 0 := (lg_cmp_eq a b).mpr e
/-- what a case goes on to: the next round of the loop -/
def NX (J : JP) (i K : Nat) : Prop := ∀ (s : Us) (m : Ms) (K' : Nat), K' ≤ K + 20 → Rel s m K' → J 1035 (LVi i) [] (hUs s ++ hML m)
theorem trace_U (l : Launch) {fv : Value} (hf : FV fv) {s : Us} {m : Ms} {K : Nat} (h : Rel s m K) (x : Int32) : ∃ r, CT l fv 2 jX11_trace [.ref 0, .int x] (hUs s) (DP (some (.int r)) (hUs s)) ∧ r = m_X12_trace (Ms.bo m) (Ms.ra m) x := by
  obtain ⟨-, U, T, G, hs, h0, ht, him, hac⟩ := id h
  rcases hac with ⟨e, -⟩ | ⟨j, r, hj, -, e, -⟩
  · have c := c_X11_trace_a0 l hf s x
    rw [← e] at c
    exact ⟨_, c, a_trace_0 h e x⟩
  · rcases j7 hj with rfl | rfl | rfl | rfl | rfl | rfl | rfl
    · have e : Us.ac s = Value.ref 21 := e
      have c := c_X11_trace_a1 l hf s x
      rw [← e] at c
      exact ⟨_, c, a_trace_1 h e x⟩
    · have e : Us.ac s = Value.ref 22 := e
      have c := c_X11_trace_a2 l hf s x
      rw [← e] at c
      exact ⟨_, c, a_trace_2 h e x⟩
    · have e : Us.ac s = Value.ref 23 := e
      have c := c_X11_trace_a3 l hf s x
      rw [← e] at c
      exact ⟨_, c, a_trace_3 h e x⟩
    · have e : Us.ac s = Value.ref 24 := e
      have c := c_X11_trace_a4 l hf s x
      rw [← e] at c
      exact ⟨_, c, a_trace_4 h e x⟩
    · have e : Us.ac s = Value.ref 25 := e
      have c := c_X11_trace_a5 l hf s x
      rw [← e] at c
      exact ⟨_, c, a_trace_5 h e x⟩
    · have e : Us.ac s = Value.ref 26 := e
      have c := c_X11_trace_a6 l hf s x
      rw [← e] at c
      exact ⟨_, c, a_trace_6 h e x⟩
    · have e : Us.ac s = Value.ref 27 := e
      have c := c_X11_trace_a7 l hf s x
      rw [← e] at c
      exact ⟨_, c, a_trace_7 h e x⟩
theorem count_U (l : Launch) {fv : Value} (hf : FV fv) {s : Us} {m : Ms} {K : Nat} (h : Rel s m K) (x : Int32) : ∃ r, CT l fv 2 jX11_count [.ref 0, .int x] (hUs s) (DP (some (.int r)) (hUs s)) ∧ r = m_X12_count (Ms.s m) (Ms.ra m) x := by
  obtain ⟨-, U, T, G, hs, h0, ht, him, hac⟩ := id h
  rcases hac with ⟨e, -⟩ | ⟨j, r, hj, -, e, -⟩
  · have c := c_X11_count_a0 l hf s x
    rw [← e] at c
    exact ⟨_, c, a_count_0 h e x⟩
  · rcases j7 hj with rfl | rfl | rfl | rfl | rfl | rfl | rfl
    · have e : Us.ac s = Value.ref 21 := e
      have c := c_X11_count_a1 l hf s x
      rw [← e] at c
      exact ⟨_, c, a_count_1 h e x⟩
    · have e : Us.ac s = Value.ref 22 := e
      have c := c_X11_count_a2 l hf s x
      rw [← e] at c
      exact ⟨_, c, a_count_2 h e x⟩
    · have e : Us.ac s = Value.ref 23 := e
      have c := c_X11_count_a3 l hf s x
      rw [← e] at c
      exact ⟨_, c, a_count_3 h e x⟩
    · have e : Us.ac s = Value.ref 24 := e
      have c := c_X11_count_a4 l hf s x
      rw [← e] at c
      exact ⟨_, c, a_count_4 h e x⟩
    · have e : Us.ac s = Value.ref 25 := e
      have c := c_X11_count_a5 l hf s x
      rw [← e] at c
      exact ⟨_, c, a_count_5 h e x⟩
    · have e : Us.ac s = Value.ref 26 := e
      have c := c_X11_count_a6 l hf s x
      rw [← e] at c
      exact ⟨_, c, a_count_6 h e x⟩
    · have e : Us.ac s = Value.ref 27 := e
      have c := c_X11_count_a7 l hf s x
      rw [← e] at c
      exact ⟨_, c, a_count_7 h e x⟩
set_option maxHeartbeats 800000 in
set_option maxRecDepth 100000 in
theorem lw_feed (hf : FV fv) (hJ : RunL l fv L xs J) {s : Us} {m : Ms} {K i : Nat} (h : Rel s m K) (hK : K ≤ 20000) (hi : i + 5 ≤ L) (hL : L ≤ 2560) (hE : NX J i K) : J 164 (LVi i) [] (hUs s ++ hML m) := by
  obtain ⟨-, U, T, G, hs, h0, ht, him, hac⟩ := id h
  refine hJ 164 _ _ _ ?_
  refine And.intro (vpi (k := 1) (by omega) hL) ?_
  refine cUs (s' := (m_X11_feed s (xs (nI i + nI 1).toNatClampNeg)).2) (by decide) (c_X11_feed l hf s (xs (nI i + nI 1).toNatClampNeg) (w_sg hs)) ?_
  refine And.intro (vpi (k := 1) (by omega) hL) ?_
  refine cMs (m' := (m_X12_feed m (xs (nI i + nI 1).toNatClampNeg)).2) (by decide) (c_X12_feed l hf m (xs (nI i + nI 1).toNatClampNeg) (w_22 hs)) rfl rfl ?_
  have z := a_feed h (xs (nI i + nI 1).toNatClampNeg)
  exact And.intro (fun _ => hE _ _ K (by omega) z.2) (fun c => absurd z.1 c)
set_option maxHeartbeats 800000 in
set_option maxRecDepth 100000 in
theorem lw_ledge (hf : FV fv) (hJ : RunL l fv L xs J) {s : Us} {m : Ms} {K i : Nat} (h : Rel s m K) (hK : K ≤ 20000) (hi : i + 5 ≤ L) (hL : L ≤ 2560) (hE : NX J i K) : J 187 (LVi i) [] (hUs s ++ hML m) := by
  obtain ⟨-, U, T, G, hs, h0, ht, him, hac⟩ := id h
  refine hJ 187 _ _ _ ?_
  refine cUs (s' := (m_X11_ledge s ).2) (by decide) (c_X11_ledge l hf s  ht) ?_
  refine cMs (m' := (m_X12_ledge m ).2) (by decide) (c_X12_ledge l hf m  (w_18 hs) (w_22 hs)) rfl rfl ?_
  have z := a_ledge h 
  exact And.intro (fun _ => hE _ _ K (by omega) z.2) (fun c => absurd z.1 c)
set_option maxHeartbeats 800000 in
set_option maxRecDepth 100000 in
theorem lw_urchin (hf : FV fv) (hJ : RunL l fv L xs J) {s : Us} {m : Ms} {K i : Nat} (h : Rel s m K) (hK : K ≤ 20000) (hi : i + 5 ≤ L) (hL : L ≤ 2560) (hE : NX J i K) : J 200 (LVi i) [] (hUs s ++ hML m) := by
  obtain ⟨-, U, T, G, hs, h0, ht, him, hac⟩ := id h
  refine hJ 200 _ _ _ ?_
  refine And.intro (vpi (k := 1) (by omega) hL) (And.intro (vpi (k := 2) (by omega) hL) ?_)
  refine cUs (s' := (m_X11_urchin s (xs (nI i + nI 1).toNatClampNeg) (xs (nI i + nI 2).toNatClampNeg)).2) (by decide) (c_X11_urchin l hf s (xs (nI i + nI 1).toNatClampNeg) (xs (nI i + nI 2).toNatClampNeg) ) ?_
  refine And.intro (vpi (k := 1) (by omega) hL) (And.intro (vpi (k := 2) (by omega) hL) ?_)
  refine cMs (m' := (m_X12_urchin m (xs (nI i + nI 1).toNatClampNeg) (xs (nI i + nI 2).toNatClampNeg)).2) (by decide) (c_X12_urchin l hf m (xs (nI i + nI 1).toNatClampNeg) (xs (nI i + nI 2).toNatClampNeg) (w_U hs)) rfl rfl ?_
  have z := a_urchin h (xs (nI i + nI 1).toNatClampNeg) (xs (nI i + nI 2).toNatClampNeg)
  exact And.intro (fun _ => hE _ _ K (by omega) z.2) (fun c => absurd z.1 c)
set_option maxHeartbeats 800000 in
set_option maxRecDepth 100000 in
theorem lw_of (hf : FV fv) (hJ : RunL l fv L xs J) {s : Us} {m : Ms} {K i : Nat} (h : Rel s m K) (hK : K ≤ 20000) (hi : i + 5 ≤ L) (hL : L ≤ 2560) (hE : NX J i K) : J 233 (LVi i) [] (hUs s ++ hML m) := by
  obtain ⟨-, U, T, G, hs, h0, ht, him, hac⟩ := id h
  refine hJ 233 _ _ _ ?_
  refine And.intro (vpi (k := 1) (by omega) hL) (And.intro (vpi (k := 2) (by omega) hL) ?_)
  refine cUs (s' := (m_X11_of s (xs (nI i + nI 1).toNatClampNeg) (xs (nI i + nI 2).toNatClampNeg)).2) (by decide) (c_X11_of l hf s (xs (nI i + nI 1).toNatClampNeg) (xs (nI i + nI 2).toNatClampNeg) (w_V hs ht)) ?_
  refine And.intro (vpi (k := 1) (by omega) hL) (And.intro (vpi (k := 2) (by omega) hL) ?_)
  refine cMs (m' := (m_X12_of m (xs (nI i + nI 1).toNatClampNeg) (xs (nI i + nI 2).toNatClampNeg)).2) (by decide) (c_X12_of l hf m (xs (nI i + nI 1).toNatClampNeg) (xs (nI i + nI 2).toNatClampNeg) (Gd.of hs h0)) rfl rfl ?_
  obtain ⟨z1, K', z2, z3⟩ := a_of h (by omega) (xs (nI i + nI 1).toNatClampNeg) (xs (nI i + nI 2).toNatClampNeg)
  exact And.intro (fun _ => hE _ _ K' z2 z3) (fun c => absurd z1 c)
set_option maxHeartbeats 800000 in
set_option maxRecDepth 100000 in
theorem lw_row (hf : FV fv) (hJ : RunL l fv L xs J) {s : Us} {m : Ms} {K i : Nat} (h : Rel s m K) (hK : K ≤ 20000) (hi : i + 5 ≤ L) (hL : L ≤ 2560) (hE : NX J i K) : J 266 (LVi i) [] (hUs s ++ hML m) := by
  obtain ⟨-, U, T, G, hs, h0, ht, him, hac⟩ := id h
  refine hJ 266 _ _ _ ?_
  refine And.intro (vpi (k := 1) (by omega) hL) (And.intro (vpi (k := 2) (by omega) hL) (And.intro (vpi (k := 3) (by omega) hL) ?_))
  refine cUs (s' := (m_X11_row s (xs (nI i + nI 1).toNatClampNeg) (xs (nI i + nI 2).toNatClampNeg) (xs (nI i + nI 3).toNatClampNeg)).2) (by decide) (c_X11_row l hf s (xs (nI i + nI 1).toNatClampNeg) (xs (nI i + nI 2).toNatClampNeg) (xs (nI i + nI 3).toNatClampNeg) ) ?_
  refine And.intro (vpi (k := 1) (by omega) hL) (And.intro (vpi (k := 2) (by omega) hL) (And.intro (vpi (k := 3) (by omega) hL) ?_))
  refine cMs (m' := (m_X12_row m (xs (nI i + nI 1).toNatClampNeg) (xs (nI i + nI 2).toNatClampNeg) (xs (nI i + nI 3).toNatClampNeg)).2) (by decide) (c_X12_row l hf m (xs (nI i + nI 1).toNatClampNeg) (xs (nI i + nI 2).toNatClampNeg) (xs (nI i + nI 3).toNatClampNeg) (w_U hs)) rfl rfl ?_
  have z := a_row h (xs (nI i + nI 1).toNatClampNeg) (xs (nI i + nI 2).toNatClampNeg) (xs (nI i + nI 3).toNatClampNeg)
  exact And.intro (fun _ => hE _ _ K (by omega) z.2) (fun c => absurd z.1 c)
set_option maxHeartbeats 800000 in
set_option maxRecDepth 100000 in
theorem lw_learn (hf : FV fv) (hJ : RunL l fv L xs J) {s : Us} {m : Ms} {K i : Nat} (h : Rel s m K) (hK : K ≤ 20000) (hi : i + 5 ≤ L) (hL : L ≤ 2560) (hE : NX J i K) : J 309 (LVi i) [] (hUs s ++ hML m) := by
  obtain ⟨-, U, T, G, hs, h0, ht, him, hac⟩ := id h
  refine hJ 309 _ _ _ ?_
  refine And.intro (vpi (k := 1) (by omega) hL) (And.intro (vpi (k := 2) (by omega) hL) ?_)
  refine cUs (s' := (m_X11_learn s (xs (nI i + nI 1).toNatClampNeg) (xs (nI i + nI 2).toNatClampNeg)).2) (by decide) (c_X11_learn l hf s (xs (nI i + nI 1).toNatClampNeg) (xs (nI i + nI 2).toNatClampNeg) ) ?_
  refine And.intro (vpi (k := 1) (by omega) hL) (And.intro (vpi (k := 2) (by omega) hL) ?_)
  refine cMs (m' := (m_X12_learn m (xs (nI i + nI 1).toNatClampNeg) (xs (nI i + nI 2).toNatClampNeg)).2) (by decide) (c_X12_learn l hf m (xs (nI i + nI 1).toNatClampNeg) (xs (nI i + nI 2).toNatClampNeg) (w_U hs)) rfl rfl ?_
  have z := a_learn h (xs (nI i + nI 1).toNatClampNeg) (xs (nI i + nI 2).toNatClampNeg)
  exact And.intro (fun _ => hE _ _ K (by omega) z.2) (fun c => absurd z.1 c)
set_option maxHeartbeats 800000 in
set_option maxRecDepth 100000 in
theorem lw_beach (hf : FV fv) (hJ : RunL l fv L xs J) {s : Us} {m : Ms} {K i : Nat} (h : Rel s m K) (hK : K ≤ 20000) (hi : i + 5 ≤ L) (hL : L ≤ 2560) (hE : NX J i K) : J 342 (LVi i) [] (hUs s ++ hML m) := by
  obtain ⟨-, U, T, G, hs, h0, ht, him, hac⟩ := id h
  refine hJ 342 _ _ _ ?_
  refine And.intro (vpi (k := 1) (by omega) hL) (And.intro (vpi (k := 2) (by omega) hL) ?_)
  by_cases hc : (xs (nI i + nI 2).toNatClampNeg) = 0
  · refine And.intro (fun _ => ?_) (fun c => absurd hc c)
    refine hJ 360 _ _ _ ?_
    refine hJ 361 _ _ _ ?_
    refine cUs (s' := (m_X11_beach s (xs (nI i + nI 1).toNatClampNeg) (nI 0)).2) (by decide) (c_X11_beach l hf s (xs (nI i + nI 1).toNatClampNeg) (nI 0) ) ?_
    refine And.intro (vpi (k := 1) (by omega) hL) (And.intro (vpi (k := 2) (by omega) hL) ?_)
    refine And.intro (fun _ => ?_) (fun c => absurd hc c)
    refine hJ 382 _ _ _ ?_
    refine hJ 383 _ _ _ ?_
    refine cMs (m' := (m_X12_beach m (xs (nI i + nI 1).toNatClampNeg) (nI 0)).2) (by decide) (c_X12_beach l hf m (xs (nI i + nI 1).toNatClampNeg) (nI 0) (w_U hs)) rfl rfl ?_
    have z := a_beach h (xs (nI i + nI 1).toNatClampNeg) (nI 0)
    exact And.intro (fun _ => hE _ _ K (by omega) z.2) (fun c => absurd z.1 c)
  · refine And.intro (fun c => absurd c hc) (fun _ => ?_)
    refine hJ 361 _ _ _ ?_
    refine cUs (s' := (m_X11_beach s (xs (nI i + nI 1).toNatClampNeg) (nI 1)).2) (by decide) (c_X11_beach l hf s (xs (nI i + nI 1).toNatClampNeg) (nI 1) ) ?_
    refine And.intro (vpi (k := 1) (by omega) hL) (And.intro (vpi (k := 2) (by omega) hL) ?_)
    refine And.intro (fun c => absurd c hc) (fun _ => ?_)
    refine hJ 383 _ _ _ ?_
    refine cMs (m' := (m_X12_beach m (xs (nI i + nI 1).toNatClampNeg) (nI 1)).2) (by decide) (c_X12_beach l hf m (xs (nI i + nI 1).toNatClampNeg) (nI 1) (w_U hs)) rfl rfl ?_
    have z := a_beach h (xs (nI i + nI 1).toNatClampNeg) (nI 1)
    exact And.intro (fun _ => hE _ _ K (by omega) z.2) (fun c => absurd z.1 c)
set_option maxHeartbeats 800000 in
set_option maxRecDepth 100000 in
theorem lw_lesson (hf : FV fv) (hJ : RunL l fv L xs J) {s : Us} {m : Ms} {K i : Nat} (h : Rel s m K) (hK : K ≤ 20000) (hi : i + 5 ≤ L) (hL : L ≤ 2560) (hE : NX J i K) : J 391 (LVi i) [] (hUs s ++ hML m) := by
  obtain ⟨-, U, T, G, hs, h0, ht, him, hac⟩ := id h
  refine hJ 391 _ _ _ ?_
  refine And.intro (vpi (k := 1) (by omega) hL) (And.intro (vpi (k := 2) (by omega) hL) ?_)
  refine cUs (s' := (m_X11_lesson s (xs (nI i + nI 1).toNatClampNeg) (xs (nI i + nI 2).toNatClampNeg)).2) (by decide) (c_X11_lesson l hf s (xs (nI i + nI 1).toNatClampNeg) (xs (nI i + nI 2).toNatClampNeg) ) ?_
  refine And.intro (vpi (k := 1) (by omega) hL) (And.intro (vpi (k := 2) (by omega) hL) ?_)
  refine cMs (m' := (m_X12_lesson m (xs (nI i + nI 1).toNatClampNeg) (xs (nI i + nI 2).toNatClampNeg)).2) (by decide) (c_X12_lesson l hf m (xs (nI i + nI 1).toNatClampNeg) (xs (nI i + nI 2).toNatClampNeg) ) rfl rfl ?_
  have z := a_lesson h (xs (nI i + nI 1).toNatClampNeg) (xs (nI i + nI 2).toNatClampNeg)
  exact And.intro (fun _ => hE _ _ K (by omega) z.2) (fun c => absurd z.1 c)
set_option maxHeartbeats 800000 in
set_option maxRecDepth 100000 in
theorem lw_told (hf : FV fv) (hJ : RunL l fv L xs J) {s : Us} {m : Ms} {K i : Nat} (h : Rel s m K) (hK : K ≤ 20000) (hi : i + 5 ≤ L) (hL : L ≤ 2560) (hE : NX J i K) : J 424 (LVi i) [] (hUs s ++ hML m) := by
  obtain ⟨-, U, T, G, hs, h0, ht, him, hac⟩ := id h
  refine hJ 424 _ _ _ ?_
  refine And.intro (vpi (k := 1) (by omega) hL) ?_
  refine cUs (s' := s) (by decide) (c_X11_told l hf s (xs (nI i + nI 1).toNatClampNeg) (w_lg hs) (w_sz hs)) ?_
  refine And.intro (vpi (k := 1) (by omega) hL) ?_
  refine cMs (m' := m) (by decide) (c_X12_told l hf m (xs (nI i + nI 1).toNatClampNeg) (Gd.of hs h0)) rfl rfl ?_
  have z := a_told h (xs (nI i + nI 1).toNatClampNeg)
  exact And.intro (fun _ => hE _ _ K (by omega) h) (fun c => absurd z c)
set_option maxHeartbeats 800000 in
set_option maxRecDepth 100000 in
theorem lw_pass (hf : FV fv) (hJ : RunL l fv L xs J) {s : Us} {m : Ms} {K i : Nat} (h : Rel s m K) (hK : K ≤ 20000) (hi : i + 5 ≤ L) (hL : L ≤ 2560) (hE : NX J i K) : J 447 (LVi i) [] (hUs s ++ hML m) := by
  obtain ⟨-, U, T, G, hs, h0, ht, him, hac⟩ := id h
  refine hJ 447 _ _ _ ?_
  refine And.intro (vpi (k := 1) (by omega) hL) ?_
  refine cUs (s' := (m_X11_pass s (xs (nI i + nI 1).toNatClampNeg)).2) (by decide) (c_X11_pass l hf s (xs (nI i + nI 1).toNatClampNeg) (w_V hs ht)) ?_
  refine And.intro (vpi (k := 1) (by omega) hL) ?_
  refine cMs (m' := (m_X12_pass m (xs (nI i + nI 1).toNatClampNeg)).2) (by decide) (c_X12_pass l hf m (xs (nI i + nI 1).toNatClampNeg) (Gd.of hs h0)) rfl rfl ?_
  obtain ⟨z1, K', z2, z3⟩ := a_pass h (by omega) (xs (nI i + nI 1).toNatClampNeg)
  exact And.intro (fun _ => hE _ _ K' z2 z3) (fun c => absurd z1 c)
set_option maxHeartbeats 800000 in
set_option maxRecDepth 100000 in
theorem lw_on (hf : FV fv) (hJ : RunL l fv L xs J) {s : Us} {m : Ms} {K i : Nat} (h : Rel s m K) (hK : K ≤ 20000) (hi : i + 5 ≤ L) (hL : L ≤ 2560) (hE : NX J i K) : J 470 (LVi i) [] (hUs s ++ hML m) := by
  obtain ⟨-, U, T, G, hs, h0, ht, him, hac⟩ := id h
  refine hJ 470 _ _ _ ?_
  refine And.intro (vpi (k := 1) (by omega) hL) (And.intro (vpi (k := 2) (by omega) hL) ?_)
  refine cUs (s' := (m_X11_on s (xs (nI i + nI 1).toNatClampNeg) (xs (nI i + nI 2).toNatClampNeg)).2) (by decide) (c_X11_on l hf s (xs (nI i + nI 1).toNatClampNeg) (xs (nI i + nI 2).toNatClampNeg) (w_V hs ht)) ?_
  refine And.intro (vpi (k := 1) (by omega) hL) (And.intro (vpi (k := 2) (by omega) hL) ?_)
  refine cMs (m' := (m_X12_on m (xs (nI i + nI 1).toNatClampNeg) (xs (nI i + nI 2).toNatClampNeg)).2) (by decide) (c_X12_on l hf m (xs (nI i + nI 1).toNatClampNeg) (xs (nI i + nI 2).toNatClampNeg) (Gd.of hs h0)) rfl rfl ?_
  obtain ⟨z1, K', z2, z3⟩ := a_on h (by omega) (xs (nI i + nI 1).toNatClampNeg) (xs (nI i + nI 2).toNatClampNeg)
  exact And.intro (fun _ => hE _ _ K' z2 z3) (fun c => absurd z1 c)
set_option maxHeartbeats 800000 in
set_option maxRecDepth 100000 in
theorem lw_lasts (hf : FV fv) (hJ : RunL l fv L xs J) {s : Us} {m : Ms} {K i : Nat} (h : Rel s m K) (hK : K ≤ 20000) (hi : i + 5 ≤ L) (hL : L ≤ 2560) (hE : NX J i K) : J 503 (LVi i) [] (hUs s ++ hML m) := by
  obtain ⟨-, U, T, G, hs, h0, ht, him, hac⟩ := id h
  refine hJ 503 _ _ _ ?_
  refine And.intro (vpi (k := 1) (by omega) hL) ?_
  refine cUs (s' := (m_X11_lasts s (xs (nI i + nI 1).toNatClampNeg)).2) (by decide) (c_X11_lasts l hf s (xs (nI i + nI 1).toNatClampNeg) (w_V hs ht)) ?_
  refine And.intro (vpi (k := 1) (by omega) hL) ?_
  refine cMs (m' := (m_X12_lasts m (xs (nI i + nI 1).toNatClampNeg)).2) (by decide) (c_X12_lasts l hf m (xs (nI i + nI 1).toNatClampNeg) (Gd.of hs h0)) rfl rfl ?_
  obtain ⟨z1, K', z2, z3⟩ := a_lasts h (by omega) (xs (nI i + nI 1).toNatClampNeg)
  exact And.intro (fun _ => hE _ _ K' z2 z3) (fun c => absurd z1 c)
set_option maxHeartbeats 800000 in
set_option maxRecDepth 100000 in
theorem lw_teach (hf : FV fv) (hJ : RunL l fv L xs J) {s : Us} {m : Ms} {K i : Nat} (h : Rel s m K) (hK : K ≤ 20000) (hi : i + 5 ≤ L) (hL : L ≤ 2560) (hE : NX J i K) : J 526 (LVi i) [] (hUs s ++ hML m) := by
  obtain ⟨-, U, T, G, hs, h0, ht, him, hac⟩ := id h
  refine hJ 526 _ _ _ ?_
  refine And.intro (vpi (k := 1) (by omega) hL) (And.intro (vpi (k := 2) (by omega) hL) ?_)
  refine cUs (s' := (m_X11_teach s (xs (nI i + nI 1).toNatClampNeg) (xs (nI i + nI 2).toNatClampNeg)).2) (by decide) (c_X11_teach l hf s (xs (nI i + nI 1).toNatClampNeg) (xs (nI i + nI 2).toNatClampNeg) (w_V hs ht)) ?_
  refine And.intro (vpi (k := 1) (by omega) hL) (And.intro (vpi (k := 2) (by omega) hL) ?_)
  refine cMs (m' := (m_X12_teach m (xs (nI i + nI 1).toNatClampNeg) (xs (nI i + nI 2).toNatClampNeg)).2) (by decide) (c_X12_teach l hf m (xs (nI i + nI 1).toNatClampNeg) (xs (nI i + nI 2).toNatClampNeg) (Gd.of hs h0)) rfl rfl ?_
  obtain ⟨z1, K', z2, z3⟩ := a_teach h (by omega) (xs (nI i + nI 1).toNatClampNeg) (xs (nI i + nI 2).toNatClampNeg)
  exact And.intro (fun _ => hE _ _ K' z2 z3) (fun c => absurd z1 c)
set_option maxHeartbeats 800000 in
set_option maxRecDepth 100000 in
theorem lw_tell (hf : FV fv) (hJ : RunL l fv L xs J) {s : Us} {m : Ms} {K i : Nat} (h : Rel s m K) (hK : K ≤ 20000) (hi : i + 5 ≤ L) (hL : L ≤ 2560) (hE : NX J i K) : J 559 (LVi i) [] (hUs s ++ hML m) := by
  obtain ⟨-, U, T, G, hs, h0, ht, him, hac⟩ := id h
  refine hJ 559 _ _ _ ?_
  refine And.intro (vpi (k := 1) (by omega) hL) ?_
  refine cUs (s' := (m_X11_tell s (xs (nI i + nI 1).toNatClampNeg)).2) (by decide) (c_X11_tell l hf s (xs (nI i + nI 1).toNatClampNeg) (w_V hs ht)) ?_
  refine And.intro (vpi (k := 1) (by omega) hL) ?_
  refine cMs (m' := (m_X12_tell m (xs (nI i + nI 1).toNatClampNeg)).2) (by decide) (c_X12_tell l hf m (xs (nI i + nI 1).toNatClampNeg) (Gd.of hs h0)) rfl rfl ?_
  obtain ⟨z1, K', z2, z3⟩ := a_tell h (by omega) (xs (nI i + nI 1).toNatClampNeg)
  exact And.intro (fun _ => hE _ _ K' z2 z3) (fun c => absurd z1 c)
set_option maxHeartbeats 800000 in
set_option maxRecDepth 100000 in
theorem lw_see (hf : FV fv) (hJ : RunL l fv L xs J) {s : Us} {m : Ms} {K i : Nat} (h : Rel s m K) (hK : K ≤ 20000) (hi : i + 5 ≤ L) (hL : L ≤ 2560) (hE : NX J i K) : J 582 (LVi i) [] (hUs s ++ hML m) := by
  obtain ⟨-, U, T, G, hs, h0, ht, him, hac⟩ := id h
  refine hJ 582 _ _ _ ?_
  refine And.intro (vpi (k := 1) (by omega) hL) (And.intro (vpi (k := 2) (by omega) hL) (And.intro (vpi (k := 3) (by omega) hL) (And.intro (vpi (k := 4) (by omega) hL) ?_)))
  by_cases hc : (xs (nI i + nI 4).toNatClampNeg) = 0
  · refine And.intro (fun _ => ?_) (fun c => absurd hc c)
    refine hJ 610 _ _ _ ?_
    refine hJ 611 _ _ _ ?_
    refine cUs (s' := (m_X11_see s (xs (nI i + nI 1).toNatClampNeg) (xs (nI i + nI 2).toNatClampNeg) (xs (nI i + nI 3).toNatClampNeg) (nI 0)).2) (by decide) (c_X11_see l hf s (xs (nI i + nI 1).toNatClampNeg) (xs (nI i + nI 2).toNatClampNeg) (xs (nI i + nI 3).toNatClampNeg) (nI 0) (by rw [(w_se hs).1]; exact ⟨5, by decide, rfl⟩)) ?_
    refine And.intro (vpi (k := 1) (by omega) hL) (And.intro (vpi (k := 2) (by omega) hL) (And.intro (vpi (k := 3) (by omega) hL) (And.intro (vpi (k := 4) (by omega) hL) ?_)))
    refine And.intro (fun _ => ?_) (fun c => absurd hc c)
    refine hJ 642 _ _ _ ?_
    refine hJ 643 _ _ _ ?_
    refine cMs (m' := (m_X12_see m (xs (nI i + nI 1).toNatClampNeg) (xs (nI i + nI 2).toNatClampNeg) (xs (nI i + nI 3).toNatClampNeg) (nI 0)).2) (by decide) (c_X12_see l hf m (xs (nI i + nI 1).toNatClampNeg) (xs (nI i + nI 2).toNatClampNeg) (xs (nI i + nI 3).toNatClampNeg) (nI 0) (w_se hs).2.1) rfl rfl ?_
    have z := a_see h (xs (nI i + nI 1).toNatClampNeg) (xs (nI i + nI 2).toNatClampNeg) (xs (nI i + nI 3).toNatClampNeg) (nI 0)
    exact And.intro (fun _ => hE _ _ K (by omega) z.2) (fun c => absurd z.1 c)
  · refine And.intro (fun c => absurd c hc) (fun _ => ?_)
    refine hJ 611 _ _ _ ?_
    refine cUs (s' := (m_X11_see s (xs (nI i + nI 1).toNatClampNeg) (xs (nI i + nI 2).toNatClampNeg) (xs (nI i + nI 3).toNatClampNeg) (nI 1)).2) (by decide) (c_X11_see l hf s (xs (nI i + nI 1).toNatClampNeg) (xs (nI i + nI 2).toNatClampNeg) (xs (nI i + nI 3).toNatClampNeg) (nI 1) (by rw [(w_se hs).1]; exact ⟨5, by decide, rfl⟩)) ?_
    refine And.intro (vpi (k := 1) (by omega) hL) (And.intro (vpi (k := 2) (by omega) hL) (And.intro (vpi (k := 3) (by omega) hL) (And.intro (vpi (k := 4) (by omega) hL) ?_)))
    refine And.intro (fun c => absurd c hc) (fun _ => ?_)
    refine hJ 643 _ _ _ ?_
    refine cMs (m' := (m_X12_see m (xs (nI i + nI 1).toNatClampNeg) (xs (nI i + nI 2).toNatClampNeg) (xs (nI i + nI 3).toNatClampNeg) (nI 1)).2) (by decide) (c_X12_see l hf m (xs (nI i + nI 1).toNatClampNeg) (xs (nI i + nI 2).toNatClampNeg) (xs (nI i + nI 3).toNatClampNeg) (nI 1) (w_se hs).2.1) rfl rfl ?_
    have z := a_see h (xs (nI i + nI 1).toNatClampNeg) (xs (nI i + nI 2).toNatClampNeg) (xs (nI i + nI 3).toNatClampNeg) (nI 1)
    exact And.intro (fun _ => hE _ _ K (by omega) z.2) (fun c => absurd z.1 c)
set_option maxHeartbeats 800000 in
set_option maxRecDepth 100000 in
theorem lw_knew (hf : FV fv) (hJ : RunL l fv L xs J) {s : Us} {m : Ms} {K i : Nat} (h : Rel s m K) (hK : K ≤ 20000) (hi : i + 5 ≤ L) (hL : L ≤ 2560) (hE : NX J i K) : J 651 (LVi i) [] (hUs s ++ hML m) := by
  obtain ⟨-, U, T, G, hs, h0, ht, him, hac⟩ := id h
  refine hJ 651 _ _ _ ?_
  refine And.intro (vpi (k := 1) (by omega) hL) (And.intro (vpi (k := 2) (by omega) hL) ?_)
  refine cUs (s' := (m_X11_knew s (xs (nI i + nI 1).toNatClampNeg) (xs (nI i + nI 2).toNatClampNeg)).2) (by decide) (c_X11_knew l hf s (xs (nI i + nI 1).toNatClampNeg) (xs (nI i + nI 2).toNatClampNeg) (w_V hs ht) (w_Sn hs)) ?_
  refine And.intro (vpi (k := 1) (by omega) hL) (And.intro (vpi (k := 2) (by omega) hL) ?_)
  refine cMs (m' := (m_X12_knew m (xs (nI i + nI 1).toNatClampNeg) (xs (nI i + nI 2).toNatClampNeg)).2) (by decide) (c_X12_knew l hf m (xs (nI i + nI 1).toNatClampNeg) (xs (nI i + nI 2).toNatClampNeg) (Gd.of hs h0) (w_W hs)) rfl rfl ?_
  obtain ⟨z1, K', z2, z3⟩ := a_knew h (by omega) (xs (nI i + nI 1).toNatClampNeg) (xs (nI i + nI 2).toNatClampNeg)
  exact And.intro (fun _ => hE _ _ K' z2 z3) (fun c => absurd z1 c)
set_option maxHeartbeats 800000 in
set_option maxRecDepth 100000 in
theorem lw_firm (hf : FV fv) (hJ : RunL l fv L xs J) {s : Us} {m : Ms} {K i : Nat} (h : Rel s m K) (hK : K ≤ 20000) (hi : i + 5 ≤ L) (hL : L ≤ 2560) (hE : NX J i K) : J 684 (LVi i) [] (hUs s ++ hML m) := by
  obtain ⟨-, U, T, G, hs, h0, ht, him, hac⟩ := id h
  refine hJ 684 _ _ _ ?_
  refine And.intro (vpi (k := 1) (by omega) hL) (And.intro (vpi (k := 2) (by omega) hL) ?_)
  refine cUs (s' := (m_X11_firm s (xs (nI i + nI 1).toNatClampNeg) (xs (nI i + nI 2).toNatClampNeg)).2) (by decide) (c_X11_firm l hf s (xs (nI i + nI 1).toNatClampNeg) (xs (nI i + nI 2).toNatClampNeg) (w_V hs ht) (w_Sn hs)) ?_
  refine And.intro (vpi (k := 1) (by omega) hL) (And.intro (vpi (k := 2) (by omega) hL) ?_)
  refine cMs (m' := (m_X12_firm m (xs (nI i + nI 1).toNatClampNeg) (xs (nI i + nI 2).toNatClampNeg)).2) (by decide) (c_X12_firm l hf m (xs (nI i + nI 1).toNatClampNeg) (xs (nI i + nI 2).toNatClampNeg) (Gd.of hs h0) (w_W hs)) rfl rfl ?_
  obtain ⟨z1, K', z2, z3⟩ := a_firm h (by omega) (xs (nI i + nI 1).toNatClampNeg) (xs (nI i + nI 2).toNatClampNeg)
  exact And.intro (fun _ => hE _ _ K' z2 z3) (fun c => absurd z1 c)
set_option maxHeartbeats 800000 in
set_option maxRecDepth 100000 in
theorem lw_odds (hf : FV fv) (hJ : RunL l fv L xs J) {s : Us} {m : Ms} {K i : Nat} (h : Rel s m K) (hK : K ≤ 20000) (hi : i + 5 ≤ L) (hL : L ≤ 2560) (hE : NX J i K) : J 717 (LVi i) [] (hUs s ++ hML m) := by
  obtain ⟨-, U, T, G, hs, h0, ht, him, hac⟩ := id h
  refine hJ 717 _ _ _ ?_
  refine And.intro (vpi (k := 1) (by omega) hL) (And.intro (vpi (k := 2) (by omega) hL) (And.intro (vpi (k := 3) (by omega) hL) ?_))
  refine cUs (s' := (m_X11_odds s (xs (nI i + nI 1).toNatClampNeg) (xs (nI i + nI 2).toNatClampNeg) (xs (nI i + nI 3).toNatClampNeg)).2) (by decide) (c_X11_odds l hf s (xs (nI i + nI 1).toNatClampNeg) (xs (nI i + nI 2).toNatClampNeg) (xs (nI i + nI 3).toNatClampNeg) (w_V hs ht)) ?_
  refine And.intro (vpi (k := 1) (by omega) hL) (And.intro (vpi (k := 2) (by omega) hL) (And.intro (vpi (k := 3) (by omega) hL) ?_))
  refine cMs (m' := (m_X12_odds m (xs (nI i + nI 1).toNatClampNeg) (xs (nI i + nI 2).toNatClampNeg) (xs (nI i + nI 3).toNatClampNeg)).2) (by decide) (c_X12_odds l hf m (xs (nI i + nI 1).toNatClampNeg) (xs (nI i + nI 2).toNatClampNeg) (xs (nI i + nI 3).toNatClampNeg) (Gd.of hs h0)) rfl rfl ?_
  obtain ⟨z1, K', z2, z3⟩ := a_odds h (by omega) (xs (nI i + nI 1).toNatClampNeg) (xs (nI i + nI 2).toNatClampNeg) (xs (nI i + nI 3).toNatClampNeg)
  exact And.intro (fun _ => hE _ _ K' z2 z3) (fun c => absurd (lc_same z1) c)
set_option maxHeartbeats 800000 in
set_option maxRecDepth 100000 in
theorem lw_mean (hf : FV fv) (hJ : RunL l fv L xs J) {s : Us} {m : Ms} {K i : Nat} (h : Rel s m K) (hK : K ≤ 20000) (hi : i + 5 ≤ L) (hL : L ≤ 2560) (hE : NX J i K) : J 761 (LVi i) [] (hUs s ++ hML m) := by
  obtain ⟨-, U, T, G, hs, h0, ht, him, hac⟩ := id h
  refine hJ 761 _ _ _ ?_
  refine And.intro (vpi (k := 1) (by omega) hL) ?_
  refine cUs (s' := s) (by decide) (c_X11_mean l hf s (xs (nI i + nI 1).toNatClampNeg) ) ?_
  refine And.intro (vpi (k := 1) (by omega) hL) ?_
  refine cMs (m' := m) (by decide) (c_X12_mean2 l hf m (xs (nI i + nI 1).toNatClampNeg) (w_U hs) (w_mean hs)) rfl rfl ?_
  have z := a_mean h (xs (nI i + nI 1).toNatClampNeg)
  exact And.intro (fun _ => hE _ _ K (by omega) h) (fun c => absurd (lc_same z) c)
set_option maxHeartbeats 800000 in
set_option maxRecDepth 100000 in
theorem lw_plan (hf : FV fv) (hJ : RunL l fv L xs J) {s : Us} {m : Ms} {K i : Nat} (h : Rel s m K) (hK : K ≤ 20000) (hi : i + 5 ≤ L) (hL : L ≤ 2560) (hE : NX J i K) : J 785 (LVi i) [] (hUs s ++ hML m) := by
  obtain ⟨-, U, T, G, hs, h0, ht, him, hac⟩ := id h
  refine hJ 785 _ _ _ ?_
  refine And.intro (vpi (k := 1) (by omega) hL) (And.intro (vpi (k := 2) (by omega) hL) ?_)
  refine cUs (s' := (m_X11_plan s (xs (nI i + nI 1).toNatClampNeg) (xs (nI i + nI 2).toNatClampNeg)).2) (by decide) (c_X11_plan l hf s (xs (nI i + nI 1).toNatClampNeg) (xs (nI i + nI 2).toNatClampNeg) (by rw [(w_pl hs).1]; exact ⟨8, by decide, rfl⟩)) ?_
  refine And.intro (vpi (k := 1) (by omega) hL) (And.intro (vpi (k := 2) (by omega) hL) ?_)
  refine cMs (m' := (m_X12_plan m (xs (nI i + nI 1).toNatClampNeg) (xs (nI i + nI 2).toNatClampNeg)).2) (by decide) (c_X12_plan l hf m (xs (nI i + nI 1).toNatClampNeg) (xs (nI i + nI 2).toNatClampNeg) (w_pl hs).2.1) rfl rfl ?_
  have z := a_plan h (xs (nI i + nI 1).toNatClampNeg) (xs (nI i + nI 2).toNatClampNeg)
  exact And.intro (fun _ => hE _ _ K (by omega) z.2) (fun c => absurd z.1 c)
set_option maxHeartbeats 800000 in
set_option maxRecDepth 100000 in
theorem lw_done (hf : FV fv) (hJ : RunL l fv L xs J) {s : Us} {m : Ms} {K i : Nat} (h : Rel s m K) (hK : K ≤ 20000) (hi : i + 5 ≤ L) (hL : L ≤ 2560) (hE : NX J i K) : J 818 (LVi i) [] (hUs s ++ hML m) := by
  obtain ⟨-, U, T, G, hs, h0, ht, him, hac⟩ := id h
  refine hJ 818 _ _ _ ?_
  refine And.intro (vpi (k := 1) (by omega) hL) ?_
  refine cUs (s' := (m_X11_done s (xs (nI i + nI 1).toNatClampNeg)).2) (by decide) (c_X11_done l hf s (xs (nI i + nI 1).toNatClampNeg) (w_V hs ht) (w_pl hs).2.2) ?_
  refine And.intro (vpi (k := 1) (by omega) hL) ?_
  refine cMs (m' := (m_X12_done m (xs (nI i + nI 1).toNatClampNeg)).2) (by decide) (c_X12_done l hf m (xs (nI i + nI 1).toNatClampNeg) (Gd.of hs h0) (w_L hs)) rfl rfl ?_
  obtain ⟨z1, K', z2, z3⟩ := a_done h (by omega) (xs (nI i + nI 1).toNatClampNeg)
  exact And.intro (fun _ => hE _ _ K' z2 z3) (fun c => absurd z1 c)
set_option maxHeartbeats 800000 in
set_option maxRecDepth 100000 in
theorem lw_book (hf : FV fv) (hJ : RunL l fv L xs J) {s : Us} {m : Ms} {K i : Nat} (h : Rel s m K) (hK : K ≤ 20000) (hi : i + 5 ≤ L) (hL : L ≤ 2560) (hE : NX J i K) : J 841 (LVi i) [] (hUs s ++ hML m) := by
  obtain ⟨-, U, T, G, hs, h0, ht, him, hac⟩ := id h
  refine hJ 841 _ _ _ ?_
  refine And.intro (vpi (k := 1) (by omega) hL) (And.intro (vpi (k := 2) (by omega) hL) ?_)
  refine cUs (s' := (m_X11_book s (xs (nI i + nI 1).toNatClampNeg) (xs (nI i + nI 2).toNatClampNeg)).2) (by decide) (c_X11_book l hf s (xs (nI i + nI 1).toNatClampNeg) (xs (nI i + nI 2).toNatClampNeg) (by rw [(w_bk hs).1]; exact ⟨8, by decide, rfl⟩)) ?_
  refine And.intro (vpi (k := 1) (by omega) hL) (And.intro (vpi (k := 2) (by omega) hL) ?_)
  refine cMs (m' := (m_X12_book m (xs (nI i + nI 1).toNatClampNeg) (xs (nI i + nI 2).toNatClampNeg)).2) (by decide) (c_X12_book l hf m (xs (nI i + nI 1).toNatClampNeg) (xs (nI i + nI 2).toNatClampNeg) (w_bk hs).2.1) rfl rfl ?_
  have z := a_book h (xs (nI i + nI 1).toNatClampNeg) (xs (nI i + nI 2).toNatClampNeg)
  exact And.intro (fun _ => hE _ _ K (by omega) z.2) (fun c => absurd z.1 c)
set_option maxHeartbeats 800000 in
set_option maxRecDepth 100000 in
theorem lw_looked (hf : FV fv) (hJ : RunL l fv L xs J) {s : Us} {m : Ms} {K i : Nat} (h : Rel s m K) (hK : K ≤ 20000) (hi : i + 5 ≤ L) (hL : L ≤ 2560) (hE : NX J i K) : J 874 (LVi i) [] (hUs s ++ hML m) := by
  obtain ⟨-, U, T, G, hs, h0, ht, him, hac⟩ := id h
  refine hJ 874 _ _ _ ?_
  refine cUs (s' := s) (by decide) (c_X11_looked l hf s  (w_bk hs).2.2) ?_
  refine cMs (m' := m) (by decide) (c_X12_looked l hf m  (w_B hs)) rfl rfl ?_
  have z := a_looked h 
  exact And.intro (fun _ => hE _ _ K (by omega) h) (fun c => absurd z c)
set_option maxHeartbeats 800000 in
set_option maxRecDepth 100000 in
theorem lw_act (hf : FV fv) (hJ : RunL l fv L xs J) {s : Us} {m : Ms} {K i : Nat} (h : Rel s m K) (hK : K ≤ 20000) (hi : i + 5 ≤ L) (hL : L ≤ 2560) (hE : NX J i K) : J 887 (LVi i) [] (hUs s ++ hML m) := by
  obtain ⟨-, U, T, G, hs, h0, ht, him, hac⟩ := id h
  refine hJ 887 _ _ _ ?_
  refine And.intro (vpi (k := 1) (by omega) hL) (And.intro (vpi (k := 2) (by omega) hL) (And.intro (vpi (k := 3) (by omega) hL) ?_))
  refine cUs (s' := (m_X11_act s (xs (nI i + nI 1).toNatClampNeg) (xs (nI i + nI 2).toNatClampNeg) (xs (nI i + nI 3).toNatClampNeg)).2) (by decide) (c_X11_act l hf s (xs (nI i + nI 1).toNatClampNeg) (xs (nI i + nI 2).toNatClampNeg) (xs (nI i + nI 3).toNatClampNeg) (w_hK hs)) ?_
  refine And.intro (vpi (k := 1) (by omega) hL) (And.intro (vpi (k := 2) (by omega) hL) (And.intro (vpi (k := 3) (by omega) hL) ?_))
  refine cMs (m' := (m_X12_act m (xs (nI i + nI 1).toNatClampNeg) (xs (nI i + nI 2).toNatClampNeg) (xs (nI i + nI 3).toNatClampNeg)).2) (by decide) (c_X12_act l hf m (xs (nI i + nI 1).toNatClampNeg) (xs (nI i + nI 2).toNatClampNeg) (xs (nI i + nI 3).toNatClampNeg) (w_U hs)) rfl rfl ?_
  have z := a_act h (xs (nI i + nI 1).toNatClampNeg) (xs (nI i + nI 2).toNatClampNeg) (xs (nI i + nI 3).toNatClampNeg)
  exact And.intro (fun _ => hE _ _ K (by omega) z.2) (fun c => absurd z.1 c)
set_option maxHeartbeats 800000 in
set_option maxRecDepth 100000 in
theorem lw_trace (hf : FV fv) (hJ : RunL l fv L xs J) {s : Us} {m : Ms} {K i : Nat} (h : Rel s m K) (hK : K ≤ 20000) (hi : i + 5 ≤ L) (hL : L ≤ 2560) (hE : NX J i K) : J 930 (LVi i) [] (hUs s ++ hML m) := by
  obtain ⟨-, U, T, G, hs, h0, ht, him, hac⟩ := id h
  refine hJ 930 _ _ _ ?_
  refine And.intro (vpi (k := 1) (by omega) hL) ?_
  obtain ⟨r, hc, hr⟩ := trace_U l hf h (xs (nI i + nI 1).toNatClampNeg)
  refine cUs (s' := s) (by decide) hc ?_
  refine And.intro (vpi (k := 1) (by omega) hL) ?_
  refine cMs (m' := m) (by decide) (c_X12_trace l hf m (xs (nI i + nI 1).toNatClampNeg) (w_ra hac) (Nat.le_refl _)) rfl rfl ?_
  exact And.intro (fun _ => hE _ _ K (by omega) h) (fun c => absurd hr c)
set_option maxHeartbeats 800000 in
set_option maxRecDepth 100000 in
theorem lw_as (hf : FV fv) (hJ : RunL l fv L xs J) {s : Us} {m : Ms} {K i : Nat} (h : Rel s m K) (hK : K ≤ 20000) (hi : i + 5 ≤ L) (hL : L ≤ 2560) (hE : NX J i K) : J 953 (LVi i) [] (hUs s ++ hML m) := by
  obtain ⟨-, U, T, G, hs, h0, ht, him, hac⟩ := id h
  refine hJ 953 _ _ _ ?_
  refine And.intro (vpi (k := 1) (by omega) hL) (And.intro (vpi (k := 2) (by omega) hL) ?_)
  refine cUs (s' := s) (by decide) (c_X11_as l hf s (xs (nI i + nI 1).toNatClampNeg) (xs (nI i + nI 2).toNatClampNeg) ) ?_
  refine And.intro (vpi (k := 1) (by omega) hL) (And.intro (vpi (k := 2) (by omega) hL) ?_)
  refine cMs (m' := m) (by decide) (c_X12_as l hf m (xs (nI i + nI 1).toNatClampNeg) (xs (nI i + nI 2).toNatClampNeg) (w_U hs)) rfl rfl ?_
  have z := a_as h (xs (nI i + nI 1).toNatClampNeg) (xs (nI i + nI 2).toNatClampNeg)
  exact And.intro (fun _ => hE _ _ K (by omega) h) (fun c => absurd z c)
set_option maxHeartbeats 800000 in
set_option maxRecDepth 100000 in
theorem lw_image (hf : FV fv) (hJ : RunL l fv L xs J) {s : Us} {m : Ms} {K i : Nat} (h : Rel s m K) (hK : K ≤ 20000) (hi : i + 5 ≤ L) (hL : L ≤ 2560) (hE : NX J i K) : J 986 (LVi i) [] (hUs s ++ hML m) := by
  obtain ⟨-, U, T, G, hs, h0, ht, him, hac⟩ := id h
  refine hJ 986 _ _ _ ?_
  refine cUs (s' := (m_X11_image s ).2) (by decide) (c_X11_image l hf s  (w_ft hs)) ?_
  refine cMs (m' := (m_X12_image m ).2) (by decide) (c_X12_image l hf m  ) rfl rfl ?_
  have z := a_image h 
  exact And.intro (fun _ => hE _ _ K (by omega) z.2) (fun c => absurd z.1 c)
set_option maxHeartbeats 800000 in
set_option maxRecDepth 100000 in
theorem lw_undo (hf : FV fv) (hJ : RunL l fv L xs J) {s : Us} {m : Ms} {K i : Nat} (h : Rel s m K) (hK : K ≤ 20000) (hi : i + 5 ≤ L) (hL : L ≤ 2560) (hE : NX J i K) : J 999 (LVi i) [] (hUs s ++ hML m) := by
  obtain ⟨-, U, T, G, hs, h0, ht, him, hac⟩ := id h
  refine hJ 999 _ _ _ ?_
  refine cUs (s' := (m_X11_undo s ).2) (by decide) (c_X11_undo l hf s  him.2.2.2.2) ?_
  refine cMs (m' := (m_X12_undo m ).2) (by decide) (c_X12_undo l hf m  ) rfl rfl ?_
  have z := a_undo h 
  exact And.intro (fun _ => hE _ _ K (by omega) z.2) (fun c => absurd z.1 c)
set_option maxHeartbeats 800000 in
set_option maxRecDepth 100000 in
theorem lw_count (hf : FV fv) (hJ : RunL l fv L xs J) {s : Us} {m : Ms} {K i : Nat} (h : Rel s m K) (hK : K ≤ 20000) (hi : i + 5 ≤ L) (hL : L ≤ 2560) (hE : NX J i K) : J 1012 (LVi i) [] (hUs s ++ hML m) := by
  obtain ⟨-, U, T, G, hs, h0, ht, him, hac⟩ := id h
  refine hJ 1012 _ _ _ ?_
  refine And.intro (vpi (k := 1) (by omega) hL) ?_
  obtain ⟨r, hc, hr⟩ := count_U l hf h (xs (nI i + nI 1).toNatClampNeg)
  refine cUs (s' := s) (by decide) hc ?_
  refine And.intro (vpi (k := 1) (by omega) hL) ?_
  refine cMs (m' := m) (by decide) (c_X12_count l hf m (xs (nI i + nI 1).toNatClampNeg) ) rfl rfl ?_
  exact And.intro (fun _ => hE _ _ K (by omega) h) (fun c => absurd hr c)
theorem hd_le {i L : Nat} (hL : L ≤ 2560) (c : ¬ nI L - nI 5 < nI i) : i ≤ 2560 → i + 5 ≤ L := by
  intro hi
  have e1 : (nI L - nI 5).toInt = (L : Int) - 5 := pk_sub_toInt (by omega) (by omega)
  have e2 : (nI i).toInt = (i : Int) := nI_toInt (by omega)
  rw [Int32.lt_iff_toInt_lt, e1, e2] at c
  omega
set_option maxHeartbeats 1600000 in
set_option maxRecDepth 100000 in
theorem lw_loop (hf : FV fv) (hJ : RunL l fv L xs J) (hL : L ≤ 2560) : ∀ (n t : Nat) (s : Us) (m : Ms) (K : Nat), 5 * t + 5 * n ≥ L + 1 → 5 * t ≤ 2560 → K ≤ 20 * t → Rel s m K → J 18 (LVi (5 * t)) [] (hUs s ++ hML m) := by
  intro n
  induction n with
  | zero =>
    intro t s m K h1 h2 h3 h
    refine hJ 18 _ _ _ ?_
    refine And.intro (fun _ => ?_) (fun c => absurd (hd_le hL c (by omega)) (by omega))
    refine hJ 1041 _ _ _ ?_
    exact And.intro rfl rfl
  | succ n ih =>
    intro t s m K h1 h2 h3 h
    refine hJ 18 _ _ _ ?_
    refine And.intro (fun _ => ?_) (fun c => ?_)
    · refine hJ 1041 _ _ _ ?_
      exact And.intro rfl rfl
    have hi : 5 * t + 5 ≤ L := hd_le hL c (by omega)
    have hE : NX J (5 * t) K := by
      intro s' m' K' k1 k2
      refine hJ 1035 _ _ _ ?_
      have z := ih (t + 1) s' m' K' (by omega) (by omega) (by omega) k2
      have e : nI (5 * t) + nI 5 = nI (5 * (t + 1)) := by rw [nI_add]; congr 1
      show J 18 [(3, .int (nI (5 * t) + nI 5)), (0, .ref 1200), (1, .ref 0), (2, .ref 70)] [] (hUs s' ++ hML m')
      rw [e]
      exact z
    have hK : K ≤ 20000 := by omega
    refine And.intro (vp_in_nI (by omega) (by omega)) ?_
    refine And.intro (fun _ => hE s m K (by omega) h) (And.intro (by decide) ?_)
    refine And.intro (fun _ => lw_feed hf hJ h hK hi hL hE) (And.intro (fun _ => lw_ledge hf hJ h hK hi hL hE) (And.intro (fun _ => lw_urchin hf hJ h hK hi hL hE) (And.intro (fun _ => lw_of hf hJ h hK hi hL hE) (And.intro (fun _ => lw_row hf hJ h hK hi hL hE) (And.intro (fun _ => lw_learn hf hJ h hK hi hL hE) (And.intro (fun _ => lw_beach hf hJ h hK hi hL hE) (And.intro (fun _ => lw_lesson hf hJ h hK hi hL hE) (And.intro (fun _ => lw_told hf hJ h hK hi hL hE) (And.intro (fun _ => lw_pass hf hJ h hK hi hL hE) (And.intro (fun _ => lw_on hf hJ h hK hi hL hE) (And.intro (fun _ => lw_lasts hf hJ h hK hi hL hE) (And.intro (fun _ => lw_teach hf hJ h hK hi hL hE) (And.intro (fun _ => lw_tell hf hJ h hK hi hL hE) (And.intro (fun _ => lw_see hf hJ h hK hi hL hE) (And.intro (fun _ => lw_knew hf hJ h hK hi hL hE) (And.intro (fun _ => lw_firm hf hJ h hK hi hL hE) (And.intro (fun _ => lw_odds hf hJ h hK hi hL hE) (And.intro (fun _ => lw_mean hf hJ h hK hi hL hE) (And.intro (fun _ => lw_plan hf hJ h hK hi hL hE) (And.intro (fun _ => lw_done hf hJ h hK hi hL hE) (And.intro (fun _ => lw_book hf hJ h hK hi hL hE) (And.intro (fun _ => lw_looked hf hJ h hK hi hL hE) (And.intro (fun _ => lw_act hf hJ h hK hi hL hE) (And.intro (fun _ => lw_trace hf hJ h hK hi hL hE) (And.intro (fun _ => lw_as hf hJ h hK hi hL hE) (And.intro (fun _ => lw_image hf hJ h hK hi hL hE) (And.intro (fun _ => lw_undo hf hJ h hK hi hL hE) (And.intro (fun _ => lw_count hf hJ h hK hi hL hE) (True.intro)))))))))))))))))))))))))))))
end LW

/-! the law's loop: each of its calls, the loop, the end -/
section LW
variable {l : Launch} {fv : Value} {L : Nat} {xs : Nat → Int32} {J : JP}
theorem j7 {j : Nat} (h : j < 7) : j = 0 ∨ j = 1 ∨ j = 2 ∨ j = 3 ∨ j = 4 ∨ j = 5 ∨ j = 6 := by omega
def RTL : RP := fun r _ => r = some (.int 1)
def LVi (i : Nat) : LV := [(3, .int (nI i)), (0, .ref 1200), (1, .ref 0), (2, .ref 70)]
def RunL (l : Launch) (fv : Value) (L : Nat) (xs : Nat → Int32) (J : JP) : Prop := Runs (P_Ls L xs) (CTof l TB mt vwCl (XL fv L xs)) 40 4 (some .boolean) [361, 383, 611, 643] kL_law J RTL
theorem vpi {i L k : Nat} (h : i + k < L) (hL : L ≤ 2560) : vp_in (nI i + nI k) L := by rw [nI_add]; exact vp_in_nI h (by omega)
theorem lc_same {a b : Int64} (e : a = b) : lg_cmp a b = 0 := (lg_cmp_eq a b).mpr e
/-- what a case goes on to: the next round of the loop -/
def NX (J : JP) (i K : Nat) : Prop := ∀ (s : Us) (m : Ms) (K' : Nat), K' ≤ K + 20 → Rel s m K' → J 1035 (LVi i) [] (hUs s ++ hML m)
theorem trace_U (l : Launch) {fv : Value} (hf : FV fv) {s : Us} {m : Ms} {K : Nat} (h : Rel s m K) (x : Int32) : ∃ r, CT l fv 2 jX11_trace [.ref 0, .int x] (hUs s) (DP (some (.int r)) (hUs s)) ∧ r = m_X12_trace (Ms.bo m) (Ms.ra m) x := by
  obtain ⟨-, U, T, G, hs, h0, ht, him, hac⟩ := id h
  rcases hac with ⟨e, -⟩ | ⟨j, r, hj, -, e, -⟩
  · have c := c_X11_trace_a0 l hf s x
    rw [← e] at c
    exact ⟨_, c, a_trace_0 h e x⟩
  · rcases j7 hj with rfl | rfl | rfl | rfl | rfl | rfl | rfl
    · have e : Us.ac s = Value.ref 21 := e
      have c := c_X11_trace_a1 l hf s x
      rw [← e] at c
      exact ⟨_, c, a_trace_1 h e x⟩
    · have e : Us.ac s = Value.ref 22 := e
      have c := c_X11_trace_a2 l hf s x
      rw [← e] at c
      exact ⟨_, c, a_trace_2 h e x⟩
    · have e : Us.ac s = Value.ref 23 := e
      have c := c_X11_trace_a3 l hf s x
      rw [← e] at c
      exact ⟨_, c, a_trace_3 h e x⟩
    · have e : Us.ac s = Value.ref 24 := e
      have c := c_X11_trace_a4 l hf s x
      rw [← e] at c
      exact ⟨_, c, a_trace_4 h e x⟩
    · have e : Us.ac s = Value.ref 25 := e
      have c := c_X11_trace_a5 l hf s x
      rw [← e] at c
      exact ⟨_, c, a_trace_5 h e x⟩
    · have e : Us.ac s = Value.ref 26 := e
      have c := c_X11_trace_a6 l hf s x
      rw [← e] at c
      exact ⟨_, c, a_trace_6 h e x⟩
    · have e : Us.ac s = Value.ref 27 := e
      have c := c_X11_trace_a7 l hf s x
      rw [← e] at c
      exact ⟨_, c, a_trace_7 h e x⟩
theorem count_U (l : Launch) {fv : Value} (hf : FV fv) {s : Us} {m : Ms} {K : Nat} (h : Rel s m K) (x : Int32) : ∃ r, CT l fv 2 jX11_count [.ref 0, .int x] (hUs s) (DP (some (.int r)) (hUs s)) ∧ r = m_X12_count (Ms.s m) (Ms.ra m) x := by
  obtain ⟨-, U, T, G, hs, h0, ht, him, hac⟩ := id h
  rcases hac with ⟨e, -⟩ | ⟨j, r, hj, -, e, -⟩
  · have c := c_X11_count_a0 l hf s x
    rw [← e] at c
    exact ⟨_, c, a_count_0 h e x⟩
  · rcases j7 hj with rfl | rfl | rfl | rfl | rfl | rfl | rfl
    · have e : Us.ac s = Value.ref 21 := e
      have c := c_X11_count_a1 l hf s x
      rw [← e] at c
      exact ⟨_, c, a_count_1 h e x⟩
    · have e : Us.ac s = Value.ref 22 := e
      have c := c_X11_count_a2 l hf s x
      rw [← e] at c
      exact ⟨_, c, a_count_2 h e x⟩
    · have e : Us.ac s = Value.ref 23 := e
      have c := c_X11_count_a3 l hf s x
      rw [← e] at c
      exact ⟨_, c, a_count_3 h e x⟩
    · have e : Us.ac s = Value.ref 24 := e
      have c := c_X11_count_a4 l hf s x
      rw [← e] at c
      exact ⟨_, c, a_count_4 h e x⟩
    · have e : Us.ac s = Value.ref 25 := e
      have c := c_X11_count_a5 l hf s x
      rw [← e] at c
      exact ⟨_, c, a_count_5 h e x⟩
    · have e : Us.ac s = Value.ref 26 := e
      have c := c_X11_count_a6 l hf s x
      rw [← e] at c
      exact ⟨_, c, a_count_6 h e x⟩
    · have e : Us.ac s = Value.ref 27 := e
      have c := c_X11_count_a7 l hf s x
      rw [← e] at c
      exact ⟨_, c, a_count_7 h e x⟩
set_option maxHeartbeats 800000 in
set_option maxRecDepth 100000 in
theorem lw_feed (hf : FV fv) (hJ : RunL l fv L xs J) {s : Us} {m : Ms} {K i : Nat} (h : Rel s m K) (hK : K ≤ 20000) (hi : i + 5 ≤ L) (hL : L ≤ 2560) (hE : NX J i K) : J 164 (LVi i) [] (hUs s ++ hML m) := by
  obtain ⟨-, U, T, G, hs, h0, ht, him, hac⟩ := id h
  refine hJ 164 _ _ _ ?_
  refine And.intro (vpi (k := 1) (by omega) hL) ?_
  refine cUs (s' := (m_X11_feed s (xs (nI i + nI 1).toNatClampNeg)).2) (by decide) (c_X11_feed l hf s (xs (nI i + nI 1).toNatClampNeg) (w_sg hs)) ?_
  refine And.intro (vpi (k := 1) (by omega) hL) ?_
  refine cMs (m' := (m_X12_feed m (xs (nI i + nI 1).toNatClampNeg)).2) (by decide) (c_X12_feed l hf m (xs (nI i + nI 1).toNatClampNeg) (w_22 hs)) rfl rfl ?_
  have z := a_feed h (xs (nI i + nI 1).toNatClampNeg)
  exact And.intro (fun _ => hE _ _ K (by omega) z.2) (fun c => absurd z.1 c)
set_option maxHeartbeats 800000 in
set_option maxRecDepth 100000 in
theorem lw_of (hf : FV fv) (hJ : RunL l fv L xs J) {s : Us} {m : Ms} {K i : Nat} (h : Rel s m K) (hK : K ≤ 20000) (hi : i + 5 ≤ L) (hL : L ≤ 2560) (hE : NX J i K) : J 233 (LVi i) [] (hUs s ++ hML m) := by
  obtain ⟨-, U, T, G, hs, h0, ht, him, hac⟩ := id h
  refine hJ 233 _ _ _ ?_
  refine And.intro (vpi (k := 1) (by omega) hL) (And.intro (vpi (k := 2) (by omega) hL) ?_)
  refine cUs (s' := (m_X11_of s (xs (nI i + nI 1).toNatClampNeg) (xs (nI i + nI 2).toNatClampNeg)).2) (by decide) (c_X11_of l hf s (xs (nI i + nI 1).toNatClampNeg) (xs (nI i + nI 2).toNatClampNeg) (w_V hs ht)) ?_
  refine And.intro (vpi (k := 1) (by omega) hL) (And.intro (vpi (k := 2) (by omega) hL) ?_)
  refine cMs (m' := (m_X12_of m (xs (nI i + nI 1).toNatClampNeg) (xs (nI i + nI 2).toNatClampNeg)).2) (by decide) (c_X12_of l hf m (xs (nI i + nI 1).toNatClampNeg) (xs (nI i + nI 2).toNatClampNeg) (Gd.of hs h0)) rfl rfl ?_
  obtain ⟨z1, K', z2, z3⟩ := a_of h (by omega) (xs (nI i + nI 1).toNatClampNeg) (xs (nI i + nI 2).toNatClampNeg)
  exact And.intro (fun _ => hE _ _ K' z2 z3) (fun c => absurd z1 c)
set_option maxHeartbeats 800000 in
set_option maxRecDepth 100000 in
theorem lw_beach (hf : FV fv) (hJ : RunL l fv L xs J) {s : Us} {m : Ms} {K i : Nat} (h : Rel s m K) (hK : K ≤ 20000) (hi : i + 5 ≤ L) (hL : L ≤ 2560) (hE : NX J i K) : J 342 (LVi i) [] (hUs s ++ hML m) := by
  obtain ⟨-, U, T, G, hs, h0, ht, him, hac⟩ := id h
  refine hJ 342 _ _ _ ?_
  refine And.intro (vpi (k := 1) (by omega) hL) (And.intro (vpi (k := 2) (by omega) hL) ?_)
  by_cases hc : (xs (nI i + nI 2).toNatClampNeg) = 0
  · refine And.intro (fun _ => ?_) (fun c => absurd hc c)
    refine hJ 360 _ _ _ ?_
    refine hJ 361 _ _ _ ?_
    refine cUs (s' := (m_X11_beach s (xs (nI i + nI 1).toNatClampNeg) (nI 0)).2) (by decide) (c_X11_beach l hf s (xs (nI i + nI 1).toNatClampNeg) (nI 0) ) ?_
    refine And.intro (vpi (k := 1) (by omega) hL) (And.intro (vpi (k := 2) (by omega) hL) ?_)
    refine And.intro (fun _ => ?_) (fun c => absurd hc c)
    refine hJ 382 _ _ _ ?_
    refine hJ 383 _ _ _ ?_
    refine cMs (m' := (m_X12_beach m (xs (nI i + nI 1).toNatClampNeg) (nI 0)).2) (by decide) (c_X12_beach l hf m (xs (nI i + nI 1).toNatClampNeg) (nI 0) (w_U hs)) rfl rfl ?_
    have z := a_beach h (xs (nI i + nI 1).toNatClampNeg) (nI 0)
    exact And.intro (fun _ => hE _ _ K (by omega) z.2) (fun c => absurd z.1 c)
  · refine And.intro (fun c => absurd c hc) (fun _ => ?_)
    refine hJ 361 _ _ _ ?_
    refine cUs (s' := (m_X11_beach s (xs (nI i + nI 1).toNatClampNeg) (nI 1)).2) (by decide) (c_X11_beach l hf s (xs (nI i + nI 1).toNatClampNeg) (nI 1) ) ?_
    refine And.intro (vpi (k := 1) (by omega) hL) (And.intro (vpi (k := 2) (by omega) hL) ?_)
    refine And.intro (fun c => absurd c hc) (fun _ => ?_)
    refine hJ 383 _ _ _ ?_
    refine cMs (m' := (m_X12_beach m (xs (nI i + nI 1).toNatClampNeg) (nI 1)).2) (by decide) (c_X12_beach l hf m (xs (nI i + nI 1).toNatClampNeg) (nI 1) (w_U hs)) rfl rfl ?_
    have z := a_beach h (xs (nI i + nI 1).toNatClampNeg) (nI 1)
    exact And.intro (fun _ => hE _ _ K (by omega) z.2) (fun c => absurd z.1 c)
set_option maxHeartbeats 800000 in
set_option maxRecDepth 100000 in
theorem lw_told (hf : FV fv) (hJ : RunL l fv L xs J) {s : Us} {m : Ms} {K i : Nat} (h : Rel s m K) (hK : K ≤ 20000) (hi : i + 5 ≤ L) (hL : L ≤ 2560) (hE : NX J i K) : J 424 (LVi i) [] (hUs s ++ hML m) := by
  obtain ⟨-, U, T, G, hs, h0, ht, him, hac⟩ := id h
  refine hJ 424 _ _ _ ?_
  refine And.intro (vpi (k := 1) (by omega) hL) ?_
  refine cUs (s' := s) (by decide) (c_X11_told l hf s (xs (nI i + nI 1).toNatClampNeg) (w_lg hs) (w_sz hs)) ?_
  refine And.intro (vpi (k := 1) (by omega) hL) ?_
  refine cMs (m' := m) (by decide) (c_X12_told l hf m (xs (nI i + nI 1).toNatClampNeg) (Gd.of hs h0)) rfl rfl ?_
  have z := a_told h (xs (nI i + nI 1).toNatClampNeg)
  exact And.intro (fun _ => hE _ _ K (by omega) h) (fun c => absurd z c)
set_option maxHeartbeats 800000 in
set_option maxRecDepth 100000 in
theorem lw_mean (hf : FV fv) (hJ : RunL l fv L xs J) {s : Us} {m : Ms} {K i : Nat} (h : Rel s m K) (hK : K ≤ 20000) (hi : i + 5 ≤ L) (hL : L ≤ 2560) (hE : NX J i K) : J 761 (LVi i) [] (hUs s ++ hML m) := by
  obtain ⟨-, U, T, G, hs, h0, ht, him, hac⟩ := id h
  refine hJ 761 _ _ _ ?_
  refine And.intro (vpi (k := 1) (by omega) hL) ?_
  refine cUs (s' := s) (by decide) (c_X11_mean l hf s (xs (nI i + nI 1).toNatClampNeg) ) ?_
  refine And.intro (vpi (k := 1) (by omega) hL) ?_
  refine cMs (m' := m) (by decide) (c_X12_mean2 l hf m (xs (nI i + nI 1).toNatClampNeg) (w_U hs) (w_mean hs)) rfl rfl ?_
  have z := a_mean h (xs (nI i + nI 1).toNatClampNeg)
  exact And.intro (fun _ => hE _ _ K (by omega) h) (fun c => absurd (lc_same z) c)
set_option maxHeartbeats 800000 in
set_option maxRecDepth 100000 in
theorem lw_trace (hf : FV fv) (hJ : RunL l fv L xs J) {s : Us} {m : Ms} {K i : Nat} (h : Rel s m K) (hK : K ≤ 20000) (hi : i + 5 ≤ L) (hL : L ≤ 2560) (hE : NX J i K) : J 930 (LVi i) [] (hUs s ++ hML m) := by
  obtain ⟨-, U, T, G, hs, h0, ht, him, hac⟩ := id h
  refine hJ 930 _ _ _ ?_
  refine And.intro (vpi (k := 1) (by omega) hL) ?_
  obtain ⟨r, hc, hr⟩ := trace_U l hf h (xs (nI i + nI 1).toNatClampNeg)
  refine cUs (s' := s) (by decide) hc ?_
  refine And.intro (vpi (k := 1) (by omega) hL) ?_
  refine cMs (m' := m) (by decide) (c_X12_trace l hf m (xs (nI i + nI 1).toNatClampNeg) (w_ra hac) (Nat.le_refl _)) rfl rfl ?_
  exact And.intro (fun _ => hE _ _ K (by omega) h) (fun c => absurd hr c)
end LW

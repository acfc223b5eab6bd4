/-! what a walk ends in; calls; counting loops; numbers -/
def DP (r : Option Value) (h : List AE) : RP := fun r' h' => r' = r ∧ h' = h
theorem DPi {m r : Int32} {h : List AE} (e : m = r) : DP (some (.int m)) h (some (.int r)) h := ⟨by rw [e], rfl⟩
theorem DPl {m r : Int64} {h : List AE} (e : m = r) : DP (some (.long m)) h (some (.long r)) h := ⟨by rw [e], rfl⟩
theorem DPis {σ : Type} {m : Int32 × σ} {r : Int32} {s' : σ} {F : σ → List AE} (e : m = (r, s')) : DP (some (.int m.1)) (F m.2) (some (.int r)) (F s') := by subst e; exact ⟨rfl, rfl⟩
theorem DPls {σ : Type} {m : Int64 × σ} {r : Int64} {s' : σ} {F : σ → List AE} (e : m = (r, s')) : DP (some (.long m.1)) (F m.2) (some (.long r)) (F s') := by subst e; exact ⟨rfl, rfl⟩
theorem DPs {σ : Type} {m s' : σ} {F : σ → List AE} (e : m = s') : DP none (F m) none (F s') := by subst e; exact ⟨rfl, rfl⟩
theorem xb0 : x_ret (some .boolean) (nI 0) := rfl
theorem xb1 : x_ret (some .boolean) (nI 1) := rfl
def bindv {α β : Type} (a : α) (f : α → β) : β := f a
theorem bindv_eq {α β : Type} {a b : α} {f : α → β} (e : a = b) : bindv a f = f b := by rw [bindv, e]
theorem CALL_same {CT : CTP} {d d1 j : Nat} {as : List Value} {h h1 : List AE} {r : Option Value} {k : Option Value → List AE → Prop} (hd : d1 < d) (hc : CT d1 j as h (DP r h1)) (hk : k r h1) : CALL CT d j as h k :=
  Or.inl ⟨d1, _, hd, hc, fun r' h' q _ => by rw [q.1, q.2]; exact hk⟩
theorem CALL_sub {CT : CTP} {d d1 j : Nat} {as as0 : List Value} {h h0 h1 h' : List AE} {r : Option Value} {k : Option Value → List AE → Prop} (em : List Nat) (hd : d1 < d) (hc : CT d1 j as0 h0 (DP r h1)) (ha : as0.map (r_v em) = as) (hs : w_sub h em h0) (hn : em.Nodup) (hl : em.length ≤ 1000) (hb : w_back h em (h1.map (r_e em)) = h') (hk : k (r_o em r) h') : CALL CT d j as h k :=
  Or.inr ⟨d1, em, as0, h0, _, hd, hc, ha, hs, hn, hl, fun r' h'' q _ => by rw [q.1, q.2, hb]; exact hk⟩
theorem cnt_lt {k N : Nat} {i : Int32} (hi : i = nI k) (hk : k ≤ N) (hN : N < 2 ^ 31) (c : ¬ nI N ≤ i) : k < N := by
  rw [hi] at c
  rcases Nat.lt_or_ge k N with h | h
  · exact h
  · exact absurd (nI_le h (by omega)) c
theorem sw_ne {x : Int32} {lo hi : Int} (k : Nat) (c : x.toInt < lo ∨ hi < x.toInt) (h1 : lo ≤ (k : Int)) (h2 : (k : Int) ≤ hi) (h3 : k < 2 ^ 31) : ¬ x = nI k := by
  intro h
  rw [h, nI_toInt h3] at c
  omega
theorem sw_eq {x : Int32} {z : Int} (k : Nat) (c : x.toInt = z) (hz : z = (k : Int)) (h3 : k < 2 ^ 31) : x = nI k := Int32.toInt_inj.mp (by rw [c, hz, nI_toInt h3])
theorem sw_ot {x : Int32} {z : Int} (k : Nat) (c : x.toInt = z) (hz : z ≠ (k : Int)) (h3 : k < 2 ^ 31) : ¬ x = nI k := by
  intro h
  rw [h, nI_toInt h3] at c
  exact hz c.symm
theorem sw_nn {x : Int32} {z : Int} (k : Nat) (c : ¬ x.toInt = z) (hz : z = (k : Int)) (h3 : k < 2 ^ 31) : ¬ x = nI k := by
  intro h
  apply c
  rw [h, nI_toInt h3, hz]
def bl (x : Int32) : Prop := x = nI 0 ∨ x = nI 1
theorem xret_bl {x : Int32} (h : bl x) : x_ret (some .boolean) x := by rcases h with rfl | rfl <;> rfl

/-! printed by wip/whole/gen/specs41.py: knew, firm, odds, mean of the model -/
theorem nI_inj {a b : Nat} (h : nI a = nI b) (ha : a < 2 ^ 31) (hb : b < 2 ^ 31) : a = b := by
  have := congrArg Int32.toInt h
  rw [nI_toInt ha, nI_toInt hb] at this
  omega
theorem hS_F {m : Ms} (hh : hH m) {F : Nat} (e : nI 227 + (nI 140 * Ms.s m (nI 23).toNatClampNeg) = nI F) (hF : F ≤ 927) : 87 ≤ F := by
  by_cases c : Ms.s m (nI 23).toNatClampNeg = (-nI 1)
  · rw [c, show (nI 227 + (nI 140 * (-nI 1)) : Int32) = nI 87 by decide] at e
    have := nI_inj e (by decide) (by omega)
    omega
  · obtain ⟨q, hq, e2⟩ := vp_in_of (hh c) (by decide)
    rw [e2, pk_mul, nI_add] at e
    have := nI_inj e (by omega) (by omega)
    omega
theorem Gd.ka {B B' : Nat} {m m' : Ms} (g : Gd B m) (h : ∀ i, i = 17 ∨ i = 23 ∨ 36 ≤ i → Ms.s m' i = Ms.s m i) (h0 : rl B' (Ms.s m' 0)) : Gd B' m' := by
  obtain ⟨-, hu, hh, hs⟩ := g
  have e23 : Ms.s m' (nI 23).toNatClampNeg = Ms.s m (nI 23).toNatClampNeg := h _ (by rw [c23]; omega)
  refine ⟨h0, ?_, ?_, ?_⟩
  · unfold hU at *
    rw [h _ (by rw [c17]; omega)]; exact hu
  · unfold hH at *
    rw [e23]; exact hh
  · obtain ⟨F, n, dp, h1, h2, h3, h4, h5⟩ := hs
    have hF := hS_F hh h1 (by omega)
    refine ⟨F, n, dp, by rw [e23]; exact h1, ?_, h3, ?_, h5⟩
    · rw [← h2]
      unfold m_X12_tellsOf
      rw [e23]
      by_cases c : Ms.s m (nI 23).toNatClampNeg = (-nI 1)
      · rw [if_pos c, if_pos c]
      · rw [if_neg c, if_neg c]
        apply h
        obtain ⟨q, hq, e⟩ := vp_in_of (hh c) (by decide)
        rw [e, nI_add, nI_clamp (by omega)]
        omega
    · have : (fun j => Ms.s m' (F + j)) = (fun j => Ms.s m (F + j)) := funext fun j => h _ (by omega)
      rw [this]; exact h4
def fW (k : Nat) : Prop := 0 < k ∧ k < 7 ∨ 30 ≤ k ∧ k < 36
theorem fit_s {m1 rk t : Ms} {wh x : Int32} {k : Nat} (k1 : Kp 0 m1 rk ∧ ∀ j, j < 17 → Ms.fr rk j = Ms.s m1 j) (hx : wh = nI k) (hk : fW k) (ht : Ms.s t = upd (Ms.s rk) wh.toNatClampNeg x) : ∀ i, ¬ i = k → Ms.s t i = Ms.s m1 i := by
  intro i hi
  unfold fW at hk
  rw [ht, hx, nI_clamp (by omega), pk_un hi]
  exact k1.1.1 i (Nat.zero_le i)
theorem fit_g {B : Nat} {m1 rk t : Ms} {wh x : Int32} {k : Nat} (g : Gd B m1) (k1 : Kp 0 m1 rk ∧ ∀ j, j < 17 → Ms.fr rk j = Ms.s m1 j) (hx : wh = nI k) (hk : fW k) (ht : Ms.s t = upd (Ms.s rk) wh.toNatClampNeg x) : Gd B t := by
  have e := fit_s k1 hx hk ht
  unfold fW at hk
  exact g.ka (fun i hi => e i (by omega)) (by rw [e 0 (by omega)]; exact g.1)
theorem fit_w {m1 rk t : Ms} {wh x : Int32} {k : Nat} (g : hW m1) (k1 : Kp 0 m1 rk ∧ ∀ j, j < 17 → Ms.fr rk j = Ms.s m1 j) (hx : wh = nI k) (hk : fW k) (ht : Ms.s t = upd (Ms.s rk) wh.toNatClampNeg x) : hW t := by
  have e := fit_s k1 hx hk ht
  unfold fW at hk
  exact Tab.congr g (fun i hi h => e i (by omega)) (by decide) (by decide)
theorem fit_r {B : Nat} {m1 rk t r : Ms} {wh x : Int32} {k : Nat} (g : Gd B m1) (w : hW m1) (k1 : Kp 0 m1 rk ∧ ∀ j, j < 17 → Ms.fr rk j = Ms.s m1 j) (hx : wh = nI k) (hk : fW k) (b : Bk t t r) (ht : Ms.s t = upd (Ms.s rk) wh.toNatClampNeg x) (hf : Ms.fr t = Ms.fr rk) : Gd B r ∧ hW r := by
  have e := fit_s k1 hx hk ht
  have e2 : ∀ i, ¬ i = k ∨ i < 17 → Ms.s r i = Ms.s m1 i := by
    intro i hi
    by_cases c : i < 17
    · rw [b.2.2 i c, hf]; exact k1.2 i c
    · rw [b.1.1 i (by omega)]; exact e i (by omega)
  unfold fW at hk
  exact ⟨g.ka (fun i hi => e2 i (by omega)) (by rw [e2 0 (by omega)]; exact g.1), Tab.congr w (fun i hi h => e2 i (by omega)) (by decide) (by decide)⟩
theorem m1p1 (x : Int32) : x + (-nI 1) + nI 1 = x := by rw [Int32.add_assoc, show (-nI 1 : Int32) + nI 1 = 0 by decide, Int32.add_zero]
theorem fit_v {v : Int32} {z : Nat} (h : v + nI 1 = nI z) (hz : z < 2 ^ 31) (c : ¬ v < 0) : ∃ y, z = y + 1 ∧ v = nI y := by
  have e : v = nI z + (-nI 1) := by rw [← h, Int32.add_assoc, show (nI 1 : Int32) + (-nI 1) = 0 by decide, Int32.add_zero]
  cases z with
  | zero => exact absurd (by rw [e]; decide) c
  | succ y => exact ⟨y, rfl, by rw [e]; exact pk_m1 y⟩
def l_X12_fitting_22 (m : Ms) (wh : Int32) (mo : Int32) (wt : Int32) : Nat → Int32 → Int32 → Int32 → Ms → Int32 × Ms
  | 0, _, _, _, _ => (0, m)
  | n22 + 1, n, fi, v, m1 => if v < 0 then (if wt = 0 then (n, (Ms.th m1, (upd (Ms.s m1) wh.toNatClampNeg (Ms.s m wh.toNatClampNeg)), Ms.im m1, Ms.fr m1, Ms.hi m1, Ms.ac m1, Ms.sp m1, Ms.en m1, Ms.wr m1, Ms.op m1, Ms.bb m1, Ms.tr m1, Ms.su m1, Ms.lf m1, Ms.lk m1, Ms.nx m1, Ms.bo m1, Ms.ra m1, Ms.ki m1, Ms.nu m1, Ms.tv m1)) else (fi, (Ms.th m1, (upd (Ms.s m1) wh.toNatClampNeg (Ms.s m wh.toNatClampNeg)), Ms.im m1, Ms.fr m1, Ms.hi m1, Ms.ac m1, Ms.sp m1, Ms.en m1, Ms.wr m1, Ms.op m1, Ms.bb m1, Ms.tr m1, Ms.su m1, Ms.lf m1, Ms.lk m1, Ms.nx m1, Ms.bo m1, Ms.ra m1, Ms.ki m1, Ms.nu m1, Ms.tv m1))) else (bindv (m_X12_keeps m1) (fun r3 => if mo = nI 9 then (bindv (m_X12_areAsSeen (Ms.th r3, (upd (Ms.s r3) wh.toNatClampNeg v), Ms.im r3, Ms.fr r3, Ms.hi r3, Ms.ac r3, Ms.sp r3, Ms.en r3, Ms.wr r3, Ms.op r3, Ms.bb r3, Ms.tr r3, Ms.su r3, Ms.lf r3, (Ms.lk r3 + nI 1), Ms.nx r3, Ms.bo r3, Ms.ra r3, Ms.ki r3, Ms.nu r3, Ms.tv r3)) (fun r10 => bindv (if r10.1 = 0 then (nI 0) else (nI 1)) (fun x11_0 => bindv (if r10.1 = 0 then fi else v) (fun x12_0 => l_X12_fitting_22 m wh mo wt n22 (n + x11_0) x12_0 (v + (-nI 1)) r10.2)))) else (bindv (m_X12_areAsSeen (Ms.th r3, (upd (Ms.s r3) wh.toNatClampNeg v), Ms.im r3, Ms.fr r3, Ms.hi r3, Ms.ac r3, Ms.sp r3, Ms.en r3, Ms.wr r3, Ms.op r3, Ms.bb r3, Ms.tr r3, Ms.su r3, Ms.lf r3, Ms.lk r3, Ms.nx r3, Ms.bo r3, Ms.ra r3, Ms.ki r3, Ms.nu r3, Ms.tv r3)) (fun r5 => bindv (if r5.1 = 0 then (nI 0) else (nI 1)) (fun x6_0 => bindv (if r5.1 = 0 then fi else v) (fun x7_0 => l_X12_fitting_22 m wh mo wt n22 (n + x6_0) x7_0 (v + (-nI 1)) r5.2))))))
theorem q_X12_fitting_22 (m : Ms) (wh : Int32) (mo : Int32) (wt : Int32) (n22 : Nat) (n : Int32) (fi : Int32) (v : Int32) (m1 : Ms) : l_X12_fitting_22 m wh mo wt (n22 + 1) n fi v m1 = (if v < 0 then (if wt = 0 then (n, (Ms.th m1, (upd (Ms.s m1) wh.toNatClampNeg (Ms.s m wh.toNatClampNeg)), Ms.im m1, Ms.fr m1, Ms.hi m1, Ms.ac m1, Ms.sp m1, Ms.en m1, Ms.wr m1, Ms.op m1, Ms.bb m1, Ms.tr m1, Ms.su m1, Ms.lf m1, Ms.lk m1, Ms.nx m1, Ms.bo m1, Ms.ra m1, Ms.ki m1, Ms.nu m1, Ms.tv m1)) else (fi, (Ms.th m1, (upd (Ms.s m1) wh.toNatClampNeg (Ms.s m wh.toNatClampNeg)), Ms.im m1, Ms.fr m1, Ms.hi m1, Ms.ac m1, Ms.sp m1, Ms.en m1, Ms.wr m1, Ms.op m1, Ms.bb m1, Ms.tr m1, Ms.su m1, Ms.lf m1, Ms.lk m1, Ms.nx m1, Ms.bo m1, Ms.ra m1, Ms.ki m1, Ms.nu m1, Ms.tv m1))) else (bindv (m_X12_keeps m1) (fun r3 => if mo = nI 9 then (bindv (m_X12_areAsSeen (Ms.th r3, (upd (Ms.s r3) wh.toNatClampNeg v), Ms.im r3, Ms.fr r3, Ms.hi r3, Ms.ac r3, Ms.sp r3, Ms.en r3, Ms.wr r3, Ms.op r3, Ms.bb r3, Ms.tr r3, Ms.su r3, Ms.lf r3, (Ms.lk r3 + nI 1), Ms.nx r3, Ms.bo r3, Ms.ra r3, Ms.ki r3, Ms.nu r3, Ms.tv r3)) (fun r10 => bindv (if r10.1 = 0 then (nI 0) else (nI 1)) (fun x11_0 => bindv (if r10.1 = 0 then fi else v) (fun x12_0 => l_X12_fitting_22 m wh mo wt n22 (n + x11_0) x12_0 (v + (-nI 1)) r10.2)))) else (bindv (m_X12_areAsSeen (Ms.th r3, (upd (Ms.s r3) wh.toNatClampNeg v), Ms.im r3, Ms.fr r3, Ms.hi r3, Ms.ac r3, Ms.sp r3, Ms.en r3, Ms.wr r3, Ms.op r3, Ms.bb r3, Ms.tr r3, Ms.su r3, Ms.lf r3, Ms.lk r3, Ms.nx r3, Ms.bo r3, Ms.ra r3, Ms.ki r3, Ms.nu r3, Ms.tv r3)) (fun r5 => bindv (if r5.1 = 0 then (nI 0) else (nI 1)) (fun x6_0 => bindv (if r5.1 = 0 then fi else v) (fun x7_0 => l_X12_fitting_22 m wh mo wt n22 (n + x6_0) x7_0 (v + (-nI 1)) r5.2))))))) := rfl
def m_X12_fitting (m : Ms) (wh : Int32) (mo : Int32) (wt : Int32) : Int32 × Ms := l_X12_fitting_22 m wh mo wt 257 (nI 0) (-nI 5) mo (Ms.th m, Ms.s m, Ms.im m, Ms.fr m, Ms.hi m, Ms.ac m, Ms.sp m, Ms.en m, Ms.wr m, Ms.op m, Ms.bb m, Ms.tr m, Ms.su m, Ms.lf m, (Ms.lk m + nI 1), Ms.nx m, Ms.bo m, Ms.ra m, Ms.ki m, Ms.nu m, Ms.tv m)
set_option maxRecDepth 100000 in
set_option maxHeartbeats 4000000 in
theorem c_X12_fitting (l : Launch) {fv : Value} (hf : FV fv) (m : Ms) (wh : Int32) (mo : Int32) (wt : Int32) {k M : Nat} (hx : wh = nI k) (hk : fW k) (hm : mo = nI M) (hM : M ≤ 255) (hg : Gd 9999 m) (hw : hW m) : CT l fv 10 jX12_fitting [.ref 0, .int wh, .int mo, .int wt] (hMs m) (DP (some (.int (m_X12_fitting m wh mo wt).1)) (hMs ((m_X12_fitting m wh mo wt).2))) := by
  refine CT_of [22, 67, 82] mt_X12_fitting (by decide +kernel) (tab_X12 hf) okX12_fitting (Nat.le_of_ble_eq_true rfl) ?_
  intro J hJ hD
  have hk9 : k < 927 := by unfold fW at hk; omega
  refine hJ 0 _ _ _ ?_
  refine And.intro (vp_nI hx hk9 (by decide)) ?_
  refine CALL_same (r := none) (h1 := wMs (Ms.th m) (Ms.s m) (Ms.im m) (Ms.fr m) (Ms.hi m) (Ms.ac m) (Ms.sp m) (Ms.en m) (Ms.wr m) (Ms.op m) (Ms.bb m) (Ms.tr m) (Ms.su m) (Ms.lf m) (Ms.lk m + nI 1) (Ms.nx m) (Ms.bo m) (Ms.ra m) (Ms.ki m) (Ms.nu m) (Ms.tv m)) (by decide) (c_X12_looksAnew l hf m) ?_
  have L22 : ∀ (n22 : Nat) (n : Int32) (fi : Int32) (v : Int32) (m1 : Ms), (∃ z9 : Nat, z9 < n22 ∧ z9 ≤ 256 ∧ v + nI 1 = nI z9 ∧ Gd 9999 m1 ∧ hW m1) → m_X12_fitting m wh mo wt = l_X12_fitting_22 m wh mo wt n22 n fi v m1 → J 22 [(0, .ref 0), (1, .int wh), (2, .int mo), (3, .int wt), (4, .int (Ms.s m wh.toNatClampNeg)), (5, .int n), (6, .int fi), (7, .int v)] [] (hMs m1) := by
    intro n22
    induction n22 with
    | zero =>
      intro n fi v m1 hv
      obtain ⟨z9, g1, g2, g3, g5, g6⟩ := hv
      omega
    | succ n22 ih22 =>
      intro n fi v m1 hv e22
      obtain ⟨z9, g1, g2, g3, g5, g6⟩ := hv
      refine hJ 22 _ _ _ ?_
      refine And.intro (fun c1 => ?_) (fun c1 => ?_)
      · skip
        refine hJ 90 _ _ _ ?_
        refine And.intro (vp_nI hx hk9 (by decide)) ?_
        refine And.intro (fun c2 => ?_) (fun c2 => ?_)
        · skip
          refine hJ 107 _ _ _ ?_
          exact And.intro True.intro (DPis (F := (fun z => hMs z)) (s' := (Ms.th m1, (upd (Ms.s m1) wh.toNatClampNeg (Ms.s m wh.toNatClampNeg)), Ms.im m1, Ms.fr m1, Ms.hi m1, Ms.ac m1, Ms.sp m1, Ms.en m1, Ms.wr m1, Ms.op m1, Ms.bb m1, Ms.tr m1, Ms.su m1, Ms.lf m1, Ms.lk m1, Ms.nx m1, Ms.bo m1, Ms.ra m1, Ms.ki m1, Ms.nu m1, Ms.tv m1)) (e22.trans ((q_X12_fitting_22 m wh mo wt n22 n fi v m1).trans ((if_pos c1).trans (if_neg c2)))))
        · skip
          refine hJ 109 _ _ _ ?_
          exact And.intro True.intro (DPis (F := (fun z => hMs z)) (s' := (Ms.th m1, (upd (Ms.s m1) wh.toNatClampNeg (Ms.s m wh.toNatClampNeg)), Ms.im m1, Ms.fr m1, Ms.hi m1, Ms.ac m1, Ms.sp m1, Ms.en m1, Ms.wr m1, Ms.op m1, Ms.bb m1, Ms.tr m1, Ms.su m1, Ms.lf m1, Ms.lk m1, Ms.nx m1, Ms.bo m1, Ms.ra m1, Ms.ki m1, Ms.nu m1, Ms.tv m1)) (e22.trans ((q_X12_fitting_22 m wh mo wt n22 n fi v m1).trans ((if_pos c1).trans (if_pos c2)))))
      · skip
        obtain ⟨z8, rfl, hv8⟩ := fit_v g3 (by omega) c1
        obtain ⟨r3, er3⟩ : ∃ z : Ms, m_X12_keeps m1 = z := ⟨_, rfl⟩
        have hr3 := c_X12_keeps l hf m1
        rw [er3] at hr3
        have k1 := ef_keeps m1; rw [er3] at k1
        refine CALL_same (r := none) (h1 := hMs r3) (by decide) (hr3) ?_
        refine And.intro (vp_nI hx hk9 (by decide)) ?_
        refine And.intro (fun c4 => ?_) (fun c4 => ?_)
        · skip
          refine hJ 49 _ _ _ ?_
          obtain ⟨r5, er5⟩ : ∃ z : Int32 × Ms, m_X12_areAsSeen (Ms.th r3, (upd (Ms.s r3) wh.toNatClampNeg v), Ms.im r3, Ms.fr r3, Ms.hi r3, Ms.ac r3, Ms.sp r3, Ms.en r3, Ms.wr r3, Ms.op r3, Ms.bb r3, Ms.tr r3, Ms.su r3, Ms.lf r3, Ms.lk r3, Ms.nx r3, Ms.bo r3, Ms.ra r3, Ms.ki r3, Ms.nu r3, Ms.tv r3) = z := ⟨_, rfl⟩
          have hr5 := c_X12_areAsSeen l hf (Ms.th r3, (upd (Ms.s r3) wh.toNatClampNeg v), Ms.im r3, Ms.fr r3, Ms.hi r3, Ms.ac r3, Ms.sp r3, Ms.en r3, Ms.wr r3, Ms.op r3, Ms.bb r3, Ms.tr r3, Ms.su r3, Ms.lf r3, Ms.lk r3, Ms.nx r3, Ms.bo r3, Ms.ra r3, Ms.ki r3, Ms.nu r3, Ms.tv r3) (B := 9999) (by exact fit_g g5 k1 hx hk rfl) (by exact fit_w g6 k1 hx hk rfl) (by decide)
          rw [er5] at hr5
          have b1 := ef_areAsSeen_r er5 (by exact fit_g g5 k1 hx hk rfl)
          have f1 := fit_r g5 g6 k1 hx hk b1 rfl rfl
          refine CALL_same (r := some (.int r5.1)) (h1 := hMs r5.2) (by decide) (hr5) ?_
          have K6 : ∀ (x6_0 : Int32), (if r5.1 = 0 then (nI 0) else (nI 1)) = x6_0 → J 67 [(0, .ref 0), (1, .int wh), (2, .int mo), (3, .int wt), (4, .int (Ms.s m wh.toNatClampNeg)), (6, .int fi), (7, .int v), (8, .int r5.1)] [.int x6_0, .int n] (hMs r5.2) := by
            intro x6_0 ex6_0
            refine hJ 67 _ _ _ ?_
            have K7 : ∀ (x7_0 : Int32), (if r5.1 = 0 then fi else v) = x7_0 → J 82 [(0, .ref 0), (1, .int wh), (2, .int mo), (3, .int wt), (4, .int (Ms.s m wh.toNatClampNeg)), (5, .int (n + x6_0)), (7, .int v)] [.int x7_0] (hMs r5.2) := by
              intro x7_0 ex7_0
              refine hJ 82 _ _ _ ?_
              exact hD _ _ [2, 3, 4, 5, 6, 7, 1, 0] _ _ (ih22 _ _ _ _ ⟨z8, by omega, by omega, by rw [m1p1]; exact hv8, f1.1, f1.2⟩ (e22.trans ((q_X12_fitting_22 m wh mo wt n22 n fi v m1).trans ((if_neg c1).trans ((bindv_eq er3).trans ((if_neg c4).trans ((bindv_eq er5).trans ((bindv_eq ex6_0).trans (bindv_eq ex7_0)))))))))
            refine And.intro (fun c8 => ?_) (fun c8 => ?_)
            · skip
              refine hJ 80 _ _ _ ?_
              exact hD _ _ [1, 2, 3, 4, 5, 0, 7] _ _ (K7 _ (if_pos c8))
            · skip
              exact hD _ _ [1, 2, 3, 4, 5, 0, 7] _ _ (K7 _ (if_neg c8))
          refine And.intro (fun c9 => ?_) (fun c9 => ?_)
          · skip
            refine hJ 66 _ _ _ ?_
            exact hD _ _ [1, 2, 3, 4, 5, 7, 8, 0] _ _ (K6 _ (if_pos c9))
          · skip
            exact hD _ _ [1, 2, 3, 4, 5, 7, 8, 0] _ _ (K6 _ (if_neg c9))
        · skip
          refine CALL_same (r := none) (h1 := wMs (Ms.th r3) (upd (Ms.s r3) wh.toNatClampNeg v) (Ms.im r3) (Ms.fr r3) (Ms.hi r3) (Ms.ac r3) (Ms.sp r3) (Ms.en r3) (Ms.wr r3) (Ms.op r3) (Ms.bb r3) (Ms.tr r3) (Ms.su r3) (Ms.lf r3) (Ms.lk r3 + nI 1) (Ms.nx r3) (Ms.bo r3) (Ms.ra r3) (Ms.ki r3) (Ms.nu r3) (Ms.tv r3)) (by decide) (c_X12_looksAnew l hf (Ms.th r3, (upd (Ms.s r3) wh.toNatClampNeg v), Ms.im r3, Ms.fr r3, Ms.hi r3, Ms.ac r3, Ms.sp r3, Ms.en r3, Ms.wr r3, Ms.op r3, Ms.bb r3, Ms.tr r3, Ms.su r3, Ms.lf r3, Ms.lk r3, Ms.nx r3, Ms.bo r3, Ms.ra r3, Ms.ki r3, Ms.nu r3, Ms.tv r3)) ?_
          obtain ⟨r10, er10⟩ : ∃ z : Int32 × Ms, m_X12_areAsSeen (Ms.th r3, (upd (Ms.s r3) wh.toNatClampNeg v), Ms.im r3, Ms.fr r3, Ms.hi r3, Ms.ac r3, Ms.sp r3, Ms.en r3, Ms.wr r3, Ms.op r3, Ms.bb r3, Ms.tr r3, Ms.su r3, Ms.lf r3, (Ms.lk r3 + nI 1), Ms.nx r3, Ms.bo r3, Ms.ra r3, Ms.ki r3, Ms.nu r3, Ms.tv r3) = z := ⟨_, rfl⟩
          have hr10 := c_X12_areAsSeen l hf (Ms.th r3, (upd (Ms.s r3) wh.toNatClampNeg v), Ms.im r3, Ms.fr r3, Ms.hi r3, Ms.ac r3, Ms.sp r3, Ms.en r3, Ms.wr r3, Ms.op r3, Ms.bb r3, Ms.tr r3, Ms.su r3, Ms.lf r3, (Ms.lk r3 + nI 1), Ms.nx r3, Ms.bo r3, Ms.ra r3, Ms.ki r3, Ms.nu r3, Ms.tv r3) (B := 9999) (by exact fit_g g5 k1 hx hk rfl) (by exact fit_w g6 k1 hx hk rfl) (by decide)
          rw [er10] at hr10
          have b1 := ef_areAsSeen_r er10 (by exact fit_g g5 k1 hx hk rfl)
          have f1 := fit_r g5 g6 k1 hx hk b1 rfl rfl
          refine CALL_same (r := some (.int r10.1)) (h1 := hMs r10.2) (by decide) (hr10) ?_
          have K11 : ∀ (x11_0 : Int32), (if r10.1 = 0 then (nI 0) else (nI 1)) = x11_0 → J 67 [(0, .ref 0), (1, .int wh), (2, .int mo), (3, .int wt), (4, .int (Ms.s m wh.toNatClampNeg)), (6, .int fi), (7, .int v), (8, .int r10.1)] [.int x11_0, .int n] (hMs r10.2) := by
            intro x11_0 ex11_0
            refine hJ 67 _ _ _ ?_
            have K12 : ∀ (x12_0 : Int32), (if r10.1 = 0 then fi else v) = x12_0 → J 82 [(0, .ref 0), (1, .int wh), (2, .int mo), (3, .int wt), (4, .int (Ms.s m wh.toNatClampNeg)), (5, .int (n + x11_0)), (7, .int v)] [.int x12_0] (hMs r10.2) := by
              intro x12_0 ex12_0
              refine hJ 82 _ _ _ ?_
              exact hD _ _ [2, 3, 4, 5, 6, 7, 1, 0] _ _ (ih22 _ _ _ _ ⟨z8, by omega, by omega, by rw [m1p1]; exact hv8, f1.1, f1.2⟩ (e22.trans ((q_X12_fitting_22 m wh mo wt n22 n fi v m1).trans ((if_neg c1).trans ((bindv_eq er3).trans ((if_pos c4).trans ((bindv_eq er10).trans ((bindv_eq ex11_0).trans (bindv_eq ex12_0)))))))))
            refine And.intro (fun c13 => ?_) (fun c13 => ?_)
            · skip
              refine hJ 80 _ _ _ ?_
              exact hD _ _ [1, 2, 3, 4, 5, 0, 7] _ _ (K12 _ (if_pos c13))
            · skip
              exact hD _ _ [1, 2, 3, 4, 5, 0, 7] _ _ (K12 _ (if_neg c13))
          refine And.intro (fun c14 => ?_) (fun c14 => ?_)
          · skip
            refine hJ 66 _ _ _ ?_
            exact hD _ _ [1, 2, 3, 4, 5, 7, 8, 0] _ _ (K11 _ (if_pos c14))
          · skip
            exact hD _ _ [1, 2, 3, 4, 5, 7, 8, 0] _ _ (K11 _ (if_neg c14))
  exact hD _ _ [4, 5, 6, 7, 3, 2, 1, 0] _ _ (L22 257 _ _ _ (Ms.th m, Ms.s m, Ms.im m, Ms.fr m, Ms.hi m, Ms.ac m, Ms.sp m, Ms.en m, Ms.wr m, Ms.op m, Ms.bb m, Ms.tr m, Ms.su m, Ms.lf m, (Ms.lk m + nI 1), Ms.nx m, Ms.bo m, Ms.ra m, Ms.ki m, Ms.nu m, Ms.tv m) ⟨M + 1, by omega, by omega, by rw [hm]; exact nI_add M 1, by exact hg.k0 ⟨fun _ _ => rfl, rfl, rfl, rfl, rfl⟩, by exact hw.kp (x := 0) ⟨fun _ _ => rfl, rfl, rfl, rfl, rfl⟩ (by decide)⟩ (rfl))
def m_X12_knew (m : Ms) (u : Int32) (wt : Int32) : Int32 × Ms := if (m_X12_isUrchin (Ms.s m) u) = 0 then ((-nI 1), m) else (if (m_X12_in wt (nI 0) (nI 1)) = 0 then ((-nI 1), m) else (bindv (m_X12_fitting m (nI 1 + u) (nI 255) wt) (fun r3 => (r3.1, r3.2))))
set_option maxRecDepth 100000 in
set_option maxHeartbeats 4000000 in
theorem c_X12_knew (l : Launch) {fv : Value} (hf : FV fv) (m : Ms) (u : Int32) (wt : Int32) (hg : Gd 9999 m) (hw : hW m) : CT l fv 11 jX12_knew [.ref 0, .int u, .int wt] (hMs m) (DP (some (.int (m_X12_knew m u wt).1)) (hMs ((m_X12_knew m u wt).2))) := by
  refine CT_of [] mt_X12_knew (by decide +kernel) (tab_X12 hf) okX12_knew (Nat.le_of_ble_eq_true rfl) ?_
  intro J hJ hD
  refine hJ 0 _ _ _ ?_
  refine CALL_same (r := some (.int (m_X12_isUrchin (Ms.s m) u))) (h1 := hMs m) (by decide) (c_X12_isUrchin l hf m u) ?_
  refine And.intro (fun c1 => ?_) (fun c1 => ?_)
  · skip
    refine hJ 31 _ _ _ ?_
    exact And.intro True.intro (DPis (F := (fun z => hMs z)) (s' := m) (if_pos c1))
  · skip
    obtain ⟨q, hq, hqe⟩ := vp_in_of (ur_of hg.2.1 c1) (by decide)
    refine CALL_sub (h' := hMs m) [] (by decide) (c_X12_in l hf wt (nI 0) (nI 1)) rfl rfl (by decide) (by decide) rfl ?_
    refine And.intro (fun c2 => ?_) (fun c2 => ?_)
    · skip
      refine hJ 31 _ _ _ ?_
      exact And.intro True.intro (DPis (F := (fun z => hMs z)) (s' := m) ((if_neg c1).trans (if_pos c2)))
    · skip
      obtain ⟨r3, er3⟩ : ∃ z : Int32 × Ms, m_X12_fitting m (nI 1 + u) (nI 255) wt = z := ⟨_, rfl⟩
      have hr3 := c_X12_fitting l hf m (nI 1 + u) (nI 255) wt (k := 1 + q) (M := 255) (by rw [hqe]; exact nI_add 1 q) (by unfold fW; omega) rfl (by decide) hg hw
      rw [er3] at hr3
      refine CALL_same (r := some (.int r3.1)) (h1 := hMs r3.2) (by decide) (hr3) ?_
      refine hJ 32 _ _ _ ?_
      exact And.intro True.intro (DPis (F := (fun z => hMs z)) (s' := r3.2) ((if_neg c1).trans ((if_neg c2).trans (bindv_eq er3))))
def m_X12_firm (m : Ms) (u : Int32) (wt : Int32) : Int32 × Ms := if (m_X12_isUrchin (Ms.s m) u) = 0 then ((-nI 1), m) else (if (m_X12_in wt (nI 0) (nI 1)) = 0 then ((-nI 1), m) else (bindv (m_X12_fitting m (nI 30 + u) (nI 9) wt) (fun r3 => (r3.1, r3.2))))
set_option maxRecDepth 100000 in
set_option maxHeartbeats 4000000 in
theorem c_X12_firm (l : Launch) {fv : Value} (hf : FV fv) (m : Ms) (u : Int32) (wt : Int32) (hg : Gd 9999 m) (hw : hW m) : CT l fv 11 jX12_firm [.ref 0, .int u, .int wt] (hMs m) (DP (some (.int (m_X12_firm m u wt).1)) (hMs ((m_X12_firm m u wt).2))) := by
  refine CT_of [] mt_X12_firm (by decide +kernel) (tab_X12 hf) okX12_firm (Nat.le_of_ble_eq_true rfl) ?_
  intro J hJ hD
  refine hJ 0 _ _ _ ?_
  refine CALL_same (r := some (.int (m_X12_isUrchin (Ms.s m) u))) (h1 := hMs m) (by decide) (c_X12_isUrchin l hf m u) ?_
  refine And.intro (fun c1 => ?_) (fun c1 => ?_)
  · skip
    refine hJ 31 _ _ _ ?_
    exact And.intro True.intro (DPis (F := (fun z => hMs z)) (s' := m) (if_pos c1))
  · skip
    obtain ⟨q, hq, hqe⟩ := vp_in_of (ur_of hg.2.1 c1) (by decide)
    refine CALL_sub (h' := hMs m) [] (by decide) (c_X12_in l hf wt (nI 0) (nI 1)) rfl rfl (by decide) (by decide) rfl ?_
    refine And.intro (fun c2 => ?_) (fun c2 => ?_)
    · skip
      refine hJ 31 _ _ _ ?_
      exact And.intro True.intro (DPis (F := (fun z => hMs z)) (s' := m) ((if_neg c1).trans (if_pos c2)))
    · skip
      obtain ⟨r3, er3⟩ : ∃ z : Int32 × Ms, m_X12_fitting m (nI 30 + u) (nI 9) wt = z := ⟨_, rfl⟩
      have hr3 := c_X12_fitting l hf m (nI 30 + u) (nI 9) wt (k := 30 + q) (M := 9) (by rw [hqe]; exact nI_add 30 q) (by unfold fW; omega) rfl (by decide) hg hw
      rw [er3] at hr3
      refine CALL_same (r := some (.int r3.1)) (h1 := hMs r3.2) (by decide) (hr3) ?_
      refine hJ 32 _ _ _ ?_
      exact And.intro True.intro (DPis (F := (fun z => hMs z)) (s' := r3.2) ((if_neg c1).trans ((if_neg c2).trans (bindv_eq er3))))
theorem lc0 {y : Int64} {d : Nat} (h : y = lN d) (hd : d < 2 ^ 31) : lg_cmp y (lN 0) = 0 ↔ d = 0 := by
  have e : (lN 0 < lN d) ↔ 0 < d := pk_lLT (by decide) (by omega)
  unfold lg_cmp
  rw [h]
  by_cases z : d = 0
  · subst z; decide
  · rw [if_pos (e.mpr (by omega))]
    exact ⟨fun q => absurd q (by decide), fun q => absurd q z⟩
theorem lnz {y : Int64} {d : Nat} (h : y = lN d) (h0 : 0 < d) (hd : d < 2 ^ 31) : ¬ y = 0 := by
  intro e
  have e2 : lN d = lN 0 := by rw [← h, e]; rfl
  have := (pk_lEQ (by omega) (by decide)).mp e2
  omega
def l_X12_lowest_6  (up : Int64) (lo : Int64) (pa : Int32) : Nat → Int64 → Int64 → Int64
  | 0, _, _ => 0
  | n6 + 1, x, y => if (lg_cmp y (lN 0)) = 0 then (bindv (if pa = 0 then up else lo) (fun x2_0 => (x2_0 / x))) else l_X12_lowest_6 up lo pa n6 y (x - x / y * y)
theorem q_X12_lowest_6  (up : Int64) (lo : Int64) (pa : Int32) (n6 : Nat) (x : Int64) (y : Int64) : l_X12_lowest_6 up lo pa (n6 + 1) x y = (if (lg_cmp y (lN 0)) = 0 then (bindv (if pa = 0 then up else lo) (fun x2_0 => (x2_0 / x))) else l_X12_lowest_6 up lo pa n6 y (x - x / y * y)) := rfl
def m_X12_lowest  (up : Int64) (lo : Int64) (pa : Int32) : Int64 := l_X12_lowest_6 up lo pa 102 up lo
set_option maxRecDepth 100000 in
set_option maxHeartbeats 4000000 in
theorem c_X12_lowest (l : Launch) {fv : Value} (hf : FV fv)  (up : Int64) (lo : Int64) (pa : Int32) {a b : Nat} (ha : up = lN a) (hb : lo = lN b) (h0 : 0 < b) (h1 : a ≤ 100) (h2 : b ≤ 100) : CT l fv 1 jX12_lowest [.long up, .long lo, .int pa] ([]) (DP (some (.long (m_X12_lowest up lo pa))) ([])) := by
  refine CT_of [6, 41] mt_X12_lowest (by decide +kernel) (tab_X12 hf) okX12_lowest (Nat.le_of_ble_eq_true rfl) ?_
  intro J hJ hD
  refine hJ 0 _ _ _ ?_
  have L6 : ∀ (n6 : Nat) (x : Int64) (y : Int64), (∃ c d : Nat, x = lN c ∧ y = lN d ∧ d < n6 ∧ c ≤ 100 ∧ d ≤ 100 ∧ 0 < c + d) → m_X12_lowest up lo pa = l_X12_lowest_6 up lo pa n6 x y → J 6 [(0, .long up), (2, .long lo), (4, .int pa), (5, .long x), (7, .long y)] [] [] := by
    intro n6
    induction n6 with
    | zero =>
      intro x y hv
      obtain ⟨c, d, g1, g2, g3, g4⟩ := hv
      omega
    | succ n6 ih6 =>
      intro x y hv e6
      obtain ⟨c, d, g1, g2, g3, g4, g5, g6⟩ := hv
      refine hJ 6 _ _ _ ?_
      refine And.intro (fun c1 => ?_) (fun c1 => ?_)
      · skip
        have hz := (lc0 g2 (by omega)).mp c1
        refine hJ 31 _ _ _ ?_
        have K2 : ∀ (x2_0 : Int64), (if pa = 0 then up else lo) = x2_0 → J 41 [(5, .long x)] [.long x2_0] [] := by
          intro x2_0 ex2_0
          refine hJ 41 _ _ _ ?_
          refine And.intro (lnz g1 (by omega) (by omega)) ?_
          exact And.intro rfl (DPl (e6.trans ((q_X12_lowest_6 up lo pa n6 x y).trans ((if_pos c1).trans (bindv_eq ex2_0)))))
        refine And.intro (fun c3 => ?_) (fun c3 => ?_)
        · skip
          refine hJ 40 _ _ _ ?_
          exact hD _ _ [3] _ _ (K2 _ (if_neg c3))
        · skip
          exact hD _ _ [3] _ _ (K2 _ (if_pos c3))
      · skip
        have hz : 0 < d := Nat.pos_of_ne_zero (fun z => c1 ((lc0 g2 (by omega)).mpr z))
        refine And.intro (lnz g2 hz (by omega)) ?_
        exact hD _ _ [3, 4, 5, 1, 0] _ _ (ih6 _ _ ⟨d, c % d, g2, by rw [g1, g2]; exact pk_lRem (by omega) hz (by omega), by have := Nat.mod_lt c hz; omega, g5, by have := Nat.mod_lt c hz; omega, by omega⟩ (e6.trans ((q_X12_lowest_6 up lo pa n6 x y).trans (if_neg c1))))
  exact hD _ _ [2, 3, 4, 1, 0] _ _ (L6 102 _ _ ⟨a, b, ha, hb, by omega, h1, h2, by omega⟩ (rfl))
theorem goesOn_r {B N : Nat} {m r : Ms} {x : Int32} (e : m_X12_goesOn m x = r) (hx : x = nI N) (hN : N ≤ 1000) (g : Gd B m) : Gd (B + N) r ∧ Kp 7 m r ∧ Ms.fr r = Ms.fr m := by rw [← e]; exact ef_goesOn hx hN g
theorem bk_of {a : Nat} {t r1 r2 : Ms} (k : Kp a t r1 ∧ Ms.fr r1 = Ms.fr t) (ha : a ≤ 17) (e : m_X12_goesBack r1 = r2) : Bk t t r2 := by
  have g := ef_goesBack r1
  rw [e] at g
  exact ⟨(k.1.mono ha).tr g.1, g.2.1.trans k.2, fun j hj => (g.2.2 j hj).trans (by rw [k.2])⟩
theorem od_st {x y z : Int64} {a b n : Nat} (h1 : x = lN a) (h2 : y = lN b) (h3 : a ≤ n) (h4 : b ≤ n) (h5 : ∃ c, c ≤ 1 ∧ z = lN c) : ∃ a b, x + z = lN a ∧ y + lN 1 = lN b ∧ a ≤ n + 1 ∧ b ≤ n + 1 := by
  obtain ⟨c, hc, rfl⟩ := h5
  exact ⟨a + c, b + 1, by rw [h1, lN_add], by rw [h2, lN_add], by omega, by omega⟩
theorem bitL (y : Int32) : ∃ c, c ≤ 1 ∧ (y &&& nI 1).toInt64 = lN c := by
  obtain ⟨z, hz, e⟩ := pk_andE y 1 (m := nI 1) (by decide)
  exact ⟨z, by omega, by rw [e]; exact nI_l (by omega)⟩
def l_X12_odds_43 (m : Ms) (fact : Int32) (n : Int32) (pa : Int32) (r4 : Ms) : Nat → Int64 → Int64 → Int32 → Ms → Int64 × Ms
  | 0, _, _, _, _ => (0, m)
  | n43 + 1, up, ma, p, m1 => if (Ms.s m1 (nI 17).toNatClampNeg) ≤ p then (if (lg_cmp ma (lN 0)) = 0 then ((-9223372036854775808), m1) else ((m_X12_lowest up ma pa), m1)) else (if (Ms.s m1 (nI 7 + p).toNatClampNeg) = 0 then (bindv (m_X12_keeps m1) (fun r8 => bindv (m_X12_goesOn (Ms.th r8, (upd (Ms.s r8) (nI 1 + p).toNatClampNeg (nI 0)), Ms.im r8, Ms.fr r8, Ms.hi r8, Ms.ac r8, Ms.sp r8, Ms.en r8, Ms.wr r8, Ms.op r8, Ms.bb r8, Ms.tr r8, Ms.su r8, Ms.lf r8, Ms.lk r8, Ms.nx r8, Ms.bo r8, Ms.ra r8, Ms.ki r8, Ms.nu r8, Ms.tv r8) n) (fun r9 => bindv (m_X12_goesBack r9) (fun r10 => l_X12_odds_43 m fact n pa r4 n43 (up + (((m_X12_knownByAny (Ms.s r9)) >>> (fact &&& 31)) &&& nI 1).toInt64) (ma + lN 1) (p + nI 1) r10)))) else l_X12_odds_43 m fact n pa r4 n43 up ma (p + nI 1) m1)
theorem q_X12_odds_43 (m : Ms) (fact : Int32) (n : Int32) (pa : Int32) (r4 : Ms) (n43 : Nat) (up : Int64) (ma : Int64) (p : Int32) (m1 : Ms) : l_X12_odds_43 m fact n pa r4 (n43 + 1) up ma p m1 = (if (Ms.s m1 (nI 17).toNatClampNeg) ≤ p then (if (lg_cmp ma (lN 0)) = 0 then ((-9223372036854775808), m1) else ((m_X12_lowest up ma pa), m1)) else (if (Ms.s m1 (nI 7 + p).toNatClampNeg) = 0 then (bindv (m_X12_keeps m1) (fun r8 => bindv (m_X12_goesOn (Ms.th r8, (upd (Ms.s r8) (nI 1 + p).toNatClampNeg (nI 0)), Ms.im r8, Ms.fr r8, Ms.hi r8, Ms.ac r8, Ms.sp r8, Ms.en r8, Ms.wr r8, Ms.op r8, Ms.bb r8, Ms.tr r8, Ms.su r8, Ms.lf r8, Ms.lk r8, Ms.nx r8, Ms.bo r8, Ms.ra r8, Ms.ki r8, Ms.nu r8, Ms.tv r8) n) (fun r9 => bindv (m_X12_goesBack r9) (fun r10 => l_X12_odds_43 m fact n pa r4 n43 (up + (((m_X12_knownByAny (Ms.s r9)) >>> (fact &&& 31)) &&& nI 1).toInt64) (ma + lN 1) (p + nI 1) r10)))) else l_X12_odds_43 m fact n pa r4 n43 up ma (p + nI 1) m1)) := rfl
def m_X12_odds (m : Ms) (fact : Int32) (n : Int32) (pa : Int32) : Int64 × Ms := if (m_X12_isFact fact) = 0 then ((-9223372036854775808), m) else (if (m_X12_in n (nI 0) (nI 60)) = 0 then ((-9223372036854775808), m) else (if (m_X12_in pa (nI 0) (nI 1)) = 0 then ((-9223372036854775808), m) else (bindv (m_X12_looksAnew m) (fun r4 => l_X12_odds_43 m fact n pa r4 7 (lN 0) (lN 0) (nI 0) r4))))
set_option maxRecDepth 100000 in
set_option maxHeartbeats 4000000 in
theorem c_X12_odds (l : Launch) {fv : Value} (hf : FV fv) (m : Ms) (fact : Int32) (n : Int32) (pa : Int32) (hg : Gd 9999 m) : CT l fv 11 jX12_odds [.ref 0, .int fact, .int n, .int pa] (hMs m) (DP (some (.long (m_X12_odds m fact n pa).1)) (hMs ((m_X12_odds m fact n pa).2))) := by
  refine CT_of [43] mt_X12_odds (by decide +kernel) (tab_X12 hf) okX12_odds (Nat.le_of_ble_eq_true rfl) ?_
  intro J hJ hD
  refine hJ 0 _ _ _ ?_
  refine CALL_sub (h' := hMs m) [] (by decide) (c_X12_isFact l hf fact) rfl rfl (by decide) (by decide) rfl ?_
  refine And.intro (fun c1 => ?_) (fun c1 => ?_)
  · skip
    refine hJ 26 _ _ _ ?_
    exact And.intro rfl (DPls (F := (fun z => hMs z)) (s' := m) (if_pos c1))
  · skip
    refine CALL_sub (h' := hMs m) [] (by decide) (c_X12_in l hf n (nI 0) (nI 60)) rfl rfl (by decide) (by decide) rfl ?_
    refine And.intro (fun c2 => ?_) (fun c2 => ?_)
    · skip
      refine hJ 26 _ _ _ ?_
      exact And.intro rfl (DPls (F := (fun z => hMs z)) (s' := m) ((if_neg c1).trans (if_pos c2)))
    · skip
      obtain ⟨N, hN, hn⟩ := in_of c2 (by decide)
      refine CALL_sub (h' := hMs m) [] (by decide) (c_X12_in l hf pa (nI 0) (nI 1)) rfl rfl (by decide) (by decide) rfl ?_
      refine And.intro (fun c3 => ?_) (fun c3 => ?_)
      · skip
        refine hJ 30 _ _ _ ?_
        obtain ⟨r4, er4⟩ : ∃ z : Ms, m_X12_looksAnew m = z := ⟨_, rfl⟩
        have hr4 := c_X12_looksAnew l hf m
        rw [er4] at hr4
        have h1 := hg.k0 (ef_looksAnew m).1; rw [er4] at h1
        refine CALL_same (r := none) (h1 := hMs r4) (by decide) (hr4) ?_
        have L43 : ∀ (n43 : Nat) (up : Int64) (ma : Int64) (p : Int32) (m1 : Ms), (∃ z9 : Nat, z9 ≤ 6 ∧ n43 + z9 = 7 ∧ p = nI z9 ∧ Gd 9999 m1 ∧ ∃ a b, up = lN a ∧ ma = lN b ∧ a ≤ z9 ∧ b ≤ z9) → m_X12_odds m fact n pa = l_X12_odds_43 m fact n pa r4 n43 up ma p m1 → J 43 [(0, .ref 0), (1, .int fact), (2, .int n), (3, .int pa), (4, .long up), (6, .long ma), (8, .int p)] [] (hMs m1) := by
          intro n43
          induction n43 with
          | zero =>
            intro up ma p m1 hv
            obtain ⟨z9, h1, h2, h3, h5, a, b, h6, h7, h8, h9⟩ := hv
            omega
          | succ n43 ih43 =>
            intro up ma p m1 hv e43
            obtain ⟨z9, h1, h2, h3, h5, a, b, h6, h7, h8, h9⟩ := hv
            refine hJ 43 _ _ _ ?_
            refine And.intro (vp_in_nI (by decide) (by decide)) ?_
            refine And.intro (fun c5 => ?_) (fun c5 => ?_)
            · skip
              refine hJ 117 _ _ _ ?_
              refine And.intro (fun c6 => ?_) (fun c6 => ?_)
              · skip
                have hz : 0 < b := Nat.pos_of_ne_zero (fun z => c6 ((lc0 h7 (by omega)).mpr z))
                refine hJ 130 _ _ _ ?_
                refine CALL_sub (h' := hMs m1) [] (by decide) (c_X12_lowest l hf up ma pa h6 h7 hz (by omega) (by omega)) rfl rfl (by decide) (by decide) rfl ?_
                exact And.intro rfl (DPls (F := (fun z => hMs z)) (s' := m1) (e43.trans ((q_X12_odds_43 m fact n pa r4 n43 up ma p m1).trans ((if_pos c5).trans (if_neg c6)))))
              · skip
                refine hJ 138 _ _ _ ?_
                exact And.intro rfl (DPls (F := (fun z => hMs z)) (s' := m1) (e43.trans ((q_X12_odds_43 m fact n pa r4 n43 up ma p m1).trans ((if_pos c5).trans (if_pos c6)))))
            · skip
              have h4 := hU_lt h5.2.1 h3 h1 c5
              have hp := vp_nI h3 h4 (by decide)
              refine And.intro (vp_ad 7 hp (by decide) (by decide)) ?_
              refine And.intro (fun c7 => ?_) (fun c7 => ?_)
              · skip
                refine hJ 111 _ _ _ ?_
                exact hD _ _ [1, 2, 3, 4, 5, 6, 0] _ _ (ih43 _ _ _ _ ⟨z9 + 1, by omega, by omega, by rw [h3]; exact nI_add z9 1, by first | exact ⟨g3, od_st h6 h7 h8 h9 (bitL _)⟩ | exact ⟨h5, a, b, h6, h7, by omega, by omega⟩⟩ (e43.trans ((q_X12_odds_43 m fact n pa r4 n43 up ma p m1).trans ((if_neg c5).trans (if_neg c7)))))
              · skip
                obtain ⟨r8, er8⟩ : ∃ z : Ms, m_X12_keeps m1 = z := ⟨_, rfl⟩
                have hr8 := c_X12_keeps l hf m1
                rw [er8] at hr8
                have k1 := ef_keeps m1; rw [er8] at k1
                have g1 := h5.k0 k1.1
                refine CALL_same (r := none) (h1 := hMs r8) (by decide) (hr8) ?_
                refine And.intro (vp_ad 1 hp (by decide) (by decide)) ?_
                obtain ⟨r9, er9⟩ : ∃ z : Ms, m_X12_goesOn (Ms.th r8, (upd (Ms.s r8) (nI 1 + p).toNatClampNeg (nI 0)), Ms.im r8, Ms.fr r8, Ms.hi r8, Ms.ac r8, Ms.sp r8, Ms.en r8, Ms.wr r8, Ms.op r8, Ms.bb r8, Ms.tr r8, Ms.su r8, Ms.lf r8, Ms.lk r8, Ms.nx r8, Ms.bo r8, Ms.ra r8, Ms.ki r8, Ms.nu r8, Ms.tv r8) n = z := ⟨_, rfl⟩
                have hr9 := c_X12_goesOn l hf (Ms.th r8, (upd (Ms.s r8) (nI 1 + p).toNatClampNeg (nI 0)), Ms.im r8, Ms.fr r8, Ms.hi r8, Ms.ac r8, Ms.sp r8, Ms.en r8, Ms.wr r8, Ms.op r8, Ms.bb r8, Ms.tr r8, Ms.su r8, Ms.lf r8, Ms.lk r8, Ms.nx r8, Ms.bo r8, Ms.ra r8, Ms.ki r8, Ms.nu r8, Ms.tv r8) n (B := 9999) hn (by omega) (by omega) (by exact Gd.fs (a := 7) g1 (up_lo hp (by decide) (by decide)) (up_0 hp (by decide) (by decide)) (by decide))
                rw [er9] at hr9
                have q1 := goesOn_r er9 hn (by omega) (by exact Gd.fs (a := 7) g1 (up_lo hp (by decide) (by decide)) (up_0 hp (by decide) (by decide)) (by decide))
                refine CALL_same (r := none) (h1 := hMs r9) (by decide) (hr9) ?_
                refine CALL_same (r := some (.int (m_X12_knownByAny (Ms.s r9)))) (h1 := hMs r9) (by decide) (c_X12_knownByAny l hf r9 q1.1.2.1) ?_
                obtain ⟨r10, er10⟩ : ∃ z : Ms, m_X12_goesBack r9 = z := ⟨_, rfl⟩
                have hr10 := c_X12_goesBack l hf r9
                rw [er10] at hr10
                have g3 := h5.k0 (back2 (a := 7) k1 (up_lo hp (by decide) (by decide)) (by decide) (bk_of q1.2 (by decide) er10))
                refine CALL_same (r := none) (h1 := hMs r10) (by decide) (hr10) ?_
                exact hD _ _ [3, 4, 5, 6, 2, 1, 0] _ _ (ih43 _ _ _ _ ⟨z9 + 1, by omega, by omega, by rw [h3]; exact nI_add z9 1, by first | exact ⟨g3, od_st h6 h7 h8 h9 (bitL _)⟩ | exact ⟨h5, a, b, h6, h7, by omega, by omega⟩⟩ (e43.trans ((q_X12_odds_43 m fact n pa r4 n43 up ma p m1).trans ((if_neg c5).trans ((if_pos c7).trans ((bindv_eq er8).trans ((bindv_eq er9).trans (bindv_eq er10))))))))
        exact hD _ _ [3, 4, 5, 6, 2, 1, 0] _ _ (L43 7 _ _ _ _ ⟨0, by decide, by decide, rfl, h1, 0, 0, rfl, rfl, Nat.le_refl _, Nat.le_refl _⟩ ((if_neg c1).trans ((if_neg c2).trans ((if_neg c3).trans (bindv_eq er4)))))
      · skip
        exact And.intro rfl (DPls (F := (fun z => hMs z)) (s' := m) ((if_neg c1).trans ((if_neg c2).trans (if_pos c3))))

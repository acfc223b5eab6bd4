/-! a ledge is read, by both: tests, parts, clauses -/
def RS (m0 : Ms) (a e : Nat) (T0 : Fn) (n p d : Nat) (op : Int32) (A : Int32 × Lr) (M : Ms) : Prop := (A.1 = nI 1 ∧ Ms.op M = op ∧ ∃ n' p' dp', PS m0 a e T0 A.2 M n' p' dp' ∧ dp' n' = d ∧ p ≤ p' ∧ n' + p ≤ n + p') ∨ (A.1 = nI 0 ∧ FS m0 a T0 A.2 M)
def amV4 (h : Int32) : Nat → Int32 → Int32
  | 0, _ => 0
  | n + 1, k => if nI 6 ≤ k then (-nI 1) else (if h = m_J0_charAt_5068e_1004 k then k else amV4 h n (k + nI 1))
def amV5 (h : Int32) : Nat → Int32 → Int32
  | 0, _ => 0
  | n + 1, k => if nI 3 ≤ k then (-nI 1) else (if h = m_J0_charAt_5068e_1005 k then k else amV5 h n (k + nI 1))
def upS (m : Ms) : Ms := (Ms.th m, Ms.s m, Ms.im m, Ms.fr m, Ms.hi m, Ms.ac m, (Ms.sp m + nI 1), Ms.en m, Ms.wr m, Ms.op m, Ms.bb m, Ms.tr m, Ms.su m, Ms.lf m, Ms.lk m, Ms.nx m, Ms.bo m, Ms.ra m, Ms.ki m, Ms.nu m, Ms.tv m)
set_option maxHeartbeats 200000 in
theorem am4_l (m : Ms) : ∀ (n k : Nat) (i : Int32), k ≤ 6 → n + k = 7 → i = nI k → l_X12_among_1004_2 m n i = if amV4 (m_X12_here (Ms.s m) (Ms.sp m) (Ms.en m)) n i = (-nI 1) then ((-nI 1), m) else (amV4 (m_X12_here (Ms.s m) (Ms.sp m) (Ms.en m)) n i, upS m) := by
  intro n
  induction n with
  | zero => intro k i h1 h2; omega
  | succ n ih =>
    intro k i h1 h2 h3
    rw [q_X12_among_1004_2]
    unfold amV4
    by_cases c : nI 6 ≤ i
    · rw [if_pos c, if_pos c, if_pos rfl]
    · rw [if_neg c, if_neg c]
      by_cases d : m_X12_here (Ms.s m) (Ms.sp m) (Ms.en m) = m_J0_charAt_5068e_1004 i
      · rw [if_pos d, if_pos d, if_neg (by rw [h3]; exact fun q => m1_ne (by omega) q.symm)]
        rfl
      · rw [if_neg d, if_neg d]
        have hk := cnt_lt h3 h1 (by decide) c
        exact ih (k + 1) _ (by omega) (by omega) (by rw [h3]; exact nI_add k 1)
set_option maxHeartbeats 200000 in
theorem am5_l (m : Ms) : ∀ (n k : Nat) (i : Int32), k ≤ 3 → n + k = 4 → i = nI k → l_X12_among_1005_2 m n i = if amV5 (m_X12_here (Ms.s m) (Ms.sp m) (Ms.en m)) n i = (-nI 1) then ((-nI 1), m) else (amV5 (m_X12_here (Ms.s m) (Ms.sp m) (Ms.en m)) n i, upS m) := by
  intro n
  induction n with
  | zero => intro k i h1 h2; omega
  | succ n ih =>
    intro k i h1 h2 h3
    rw [q_X12_among_1005_2]
    unfold amV5
    by_cases c : nI 3 ≤ i
    · rw [if_pos c, if_pos c, if_pos rfl]
    · rw [if_neg c, if_neg c]
      by_cases d : m_X12_here (Ms.s m) (Ms.sp m) (Ms.en m) = m_J0_charAt_5068e_1005 i
      · rw [if_pos d, if_pos d, if_neg (by rw [h3]; exact fun q => m1_ne (by omega) q.symm)]
        rfl
      · rw [if_neg d, if_neg d]
        have hk := cnt_lt h3 h1 (by decide) c
        exact ih (k + 1) _ (by omega) (by omega) (by rw [h3]; exact nI_add k 1)
set_option maxHeartbeats 200000 in
theorem am4_f : ∀ x, x < 128 → m_X4_placeOf_1004 (nI x) = amV4 (nI x) 7 (nI 0) ∧ (amV4 (nI x) 7 (nI 0) = (-nI 1) ∨ ((amV4 (nI x) 7 (nI 0)).toNatClampNeg < 6 ∧ amV4 (nI x) 7 (nI 0) = nI (amV4 (nI x) 7 (nI 0)).toNatClampNeg)) := by decide +kernel
set_option maxHeartbeats 200000 in
theorem am5_f : ∀ x, x < 128 → m_X4_placeOf_1005 (nI x) = amV5 (nI x) 4 (nI 0) ∧ (amV5 (nI x) 4 (nI 0) = (-nI 1) ∨ ((amV5 (nI x) 4 (nI 0)).toNatClampNeg < 3 ∧ amV5 (nI x) 4 (nI 0) = nI (amV5 (nI x) 4 (nI 0)).toNatClampNeg)) := by decide +kernel
set_option maxHeartbeats 200000 in
theorem am4_m : m_X4_placeOf_1004 (-nI 1) = (-nI 1) ∧ amV4 (-nI 1) 7 (nI 0) = (-nI 1) := by decide +kernel
set_option maxHeartbeats 200000 in
theorem am5_m : m_X4_placeOf_1005 (-nI 1) = (-nI 1) ∧ amV5 (-nI 1) 4 (nI 0) = (-nI 1) := by decide +kernel
set_option maxHeartbeats 200000 in
theorem m1_le : ¬ 0 ≤ (-nI 1 : Int32) := by decide
/-- whose, or how: by both -/
theorem am4_x {m0 : Ms} {a e : Nat} {T0 : Fn} {t : Lr} {m : Ms} {n p : Nat} {dp : Nat → Nat} (h : PS m0 a e T0 t m n p dp) : (¬ 0 ≤ m_X4_placeOf_1004 (Lr.si t) ∧ m_X12_among_1004 m = ((-nI 1), m)) ∨ (p < e ∧ ∃ l, l < 6 ∧ m_X4_placeOf_1004 (Lr.si t) = nI l ∧ m_X12_among_1004 m = (nI l, upS m)) := by
  have q := am4_l m 7 0 (nI 0) (by decide) rfl rfl
  rw [h.here] at q
  unfold m_X12_among_1004
  rw [q]
  rcases h.si with ⟨z, ch, hc, es⟩ | ⟨-, es⟩
  · rw [es]
    obtain ⟨f1, f2⟩ := am4_f ch hc
    rw [f1]
    rcases f2 with f2 | ⟨f2, f3⟩
    · rw [f2, if_pos rfl]; exact Or.inl ⟨m1_le, rfl⟩
    · generalize (amV4 (nI ch) 7 (nI 0)).toNatClampNeg = l at f2 f3
      rw [f3, if_neg (fun q => m1_ne (by omega) q.symm)]
      exact Or.inr ⟨z, l, f2, rfl, rfl⟩
  · rw [es, am4_m.1, am4_m.2, if_pos rfl]
    exact Or.inl ⟨m1_le, rfl⟩
set_option maxHeartbeats 200000 in
theorem am5_x {m0 : Ms} {a e : Nat} {T0 : Fn} {t : Lr} {m : Ms} {n p : Nat} {dp : Nat → Nat} (h : PS m0 a e T0 t m n p dp) : (¬ 0 ≤ m_X4_placeOf_1005 (Lr.si t) ∧ m_X12_among_1005 m = ((-nI 1), m)) ∨ (p < e ∧ ∃ l, l < 3 ∧ m_X4_placeOf_1005 (Lr.si t) = nI l ∧ m_X12_among_1005 m = (nI l, upS m)) := by
  have q := am5_l m 4 0 (nI 0) (by decide) rfl rfl
  rw [h.here] at q
  unfold m_X12_among_1005
  rw [q]
  rcases h.si with ⟨z, ch, hc, es⟩ | ⟨-, es⟩
  · rw [es]
    obtain ⟨f1, f2⟩ := am5_f ch hc
    rw [f1]
    rcases f2 with f2 | ⟨f2, f3⟩
    · rw [f2, if_pos rfl]; exact Or.inl ⟨m1_le, rfl⟩
    · generalize (amV5 (nI ch) 4 (nI 0)).toNatClampNeg = l at f2 f3
      rw [f3, if_neg (fun q => m1_ne (by omega) q.symm)]
      exact Or.inr ⟨z, l, f2, rfl, rfl⟩
  · rw [es, am5_m.1, am5_m.2, if_pos rfl]
    exact Or.inl ⟨m1_le, rfl⟩
def tsC (t : Lr) : Int32 × Lr := bindv (m_X4_readTest t) (fun r29 => if r29.1 = 0 then (nI 0, r29.2) else (bindv (m_X4_readNumber r29.2) (fun r31 => if r31.1 = 0 then (nI 0, r31.2) else (bindv (m_X4_put r31.2 (Lr.te r31.2 + Lr.nu r31.2)) (fun r33 => if r33.1 = 0 then (nI 0, r33.2) else (nI 1, r33.2))))))
def wrS (m : Ms) (w : Int32) : Ms := (Ms.th m, Ms.s m, Ms.im m, Ms.fr m, Ms.hi m, Ms.ac m, Ms.sp m, Ms.en m, w, Ms.op m, Ms.bb m, Ms.tr m, Ms.su m, Ms.lf m, Ms.lk m, Ms.nx m, Ms.bo m, Ms.ra m, Ms.ki m, Ms.nu m, Ms.tv m)
def tsM (m : Ms) : Ms := bindv (m_X12_among_1004 m) (fun r13 => if r13.1 = (-nI 1) then (bindv (m_X12_figures (wrS r13.2 (nI 1))) (fun r27 => bindv (m_X12_emits r27.2 ((r13.1 + (nI 8 * nI 0)) + (nI 32 * r27.1))) (fun r28 => r28))) else (bindv (m_X12_among_1005 (wrS r13.2 (nI 0))) (fun r16 => if Ms.wr r16.2 = 0 then (if r16.1 = (-nI 1) then (bindv (m_X12_figures (wrS r16.2 (nI 1))) (fun r23 => bindv (m_X12_emits r23.2 ((r13.1 + (nI 8 * r16.1)) + (nI 32 * r23.1))) (fun r24 => r24))) else (bindv (m_X12_figures (wrS r16.2 (nI 0))) (fun r21 => bindv (m_X12_emits r21.2 ((r13.1 + (nI 8 * r16.1)) + (nI 32 * r21.1))) (fun r22 => r22)))) else (bindv (m_X12_figures (wrS r16.2 (nI 1))) (fun r18 => bindv (m_X12_emits r18.2 ((r13.1 + (nI 8 * r16.1)) + (nI 32 * r18.1))) (fun r19 => r19))))))
set_option maxHeartbeats 200000 in
theorem wr1 (m : Ms) : ¬ Ms.wr (wrS m (nI 1)) = 0 := by
  show ¬ nI 1 = 0
  decide
set_option maxHeartbeats 200000 in
theorem sk_tail {m : Ms} (x : Int32) (f : Int32 → Int32) : Sk (wrS m (nI 1)) (m_X12_emits (m_X12_figures (wrS m (nI 1))).2 x) := by
  have s := sk_figures (wr1 m)
  exact s.tr (sk_emits s.1 _)
def rsC (r29 : Int32 × Lr) : Int32 × Lr := if r29.1 = 0 then (nI 0, r29.2) else (bindv (m_X4_readNumber r29.2) (fun r31 => if r31.1 = 0 then (nI 0, r31.2) else (bindv (m_X4_put r31.2 (Lr.te r31.2 + Lr.nu r31.2)) (fun r33 => if r33.1 = 0 then (nI 0, r33.2) else (nI 1, r33.2)))))
def tsC2 (l : Nat) (ta : Lr) : Int32 × Lr := if 0 ≤ m_X4_placeOf_1005 (Lr.si ta) then (bindv (m_X4_advance ta) (fun r4 => (nI 1, (Lr.st r4, Lr.sz r4, Lr.ke r4, Lr.pa r4, Lr.sg r4, Lr.at r4, Lr.si r4, ((nI l * nI 300) + (m_X4_placeOf_1005 (Lr.si ta) * nI 100)), Lr.nu r4, Lr.tp r4)))) else (nI 0, ta)
def tsM2 (l : Nat) (ma : Ms) : Ms := bindv (m_X12_among_1005 ma) (fun r16 => if Ms.wr r16.2 = 0 then (if r16.1 = (-nI 1) then (bindv (m_X12_figures (wrS r16.2 (nI 1))) (fun r23 => bindv (m_X12_emits r23.2 ((nI l + (nI 8 * r16.1)) + (nI 32 * r23.1))) (fun r24 => r24))) else (bindv (m_X12_figures (wrS r16.2 (nI 0))) (fun r21 => bindv (m_X12_emits r21.2 ((nI l + (nI 8 * r16.1)) + (nI 32 * r21.1))) (fun r22 => r22)))) else (bindv (m_X12_figures (wrS r16.2 (nI 1))) (fun r18 => bindv (m_X12_emits r18.2 ((nI l + (nI 8 * r16.1)) + (nI 32 * r18.1))) (fun r19 => r19))))
set_option maxHeartbeats 200000 in
theorem tsM_1 {m : Ms} {l : Nat} (hl : l < 6) (z2 : m_X12_among_1004 m = (nI l, upS m)) : tsM m = tsM2 l (wrS (upS m) (nI 0)) := by
  unfold tsM
  rw [z2]
  exact if_neg (show ¬ nI l = (-nI 1) from fun q => m1_ne (by omega) q.symm)
set_option maxHeartbeats 200000 in
theorem tsC_1 {t : Lr} {l : Nat} (hl : l < 6) (z1 : m_X4_placeOf_1004 (Lr.si t) = nI l) : tsC t = rsC (tsC2 l (m_X4_advance t)) := by
  have e : m_X4_readTest t = tsC2 l (m_X4_advance t) := by
    unfold m_X4_readTest tsC2
    rw [if_pos (by rw [z1]; exact nI_le (Nat.zero_le l) (by omega)), z1]
    generalize m_X4_advance t = ta
    rfl
  unfold tsC
  rw [e]
  generalize tsC2 l (m_X4_advance t) = A
  rfl
set_option maxHeartbeats 200000 in
theorem test_z {m0 : Ms} {a e : Nat} {T0 : Fn} {tb : Lr} {mb : Ms} {n p d l o : Nat} {dp : Nat → Nat} (hl : l < 6) (ho : o < 3) (np : n ≤ p) (h2 : PS m0 a e T0 tb mb n (p + 1 + 1) dp) (hd : dp n = d) (d20 : d < 20) (et : Lr.te tb = nI (l * 300 + o * 100)) : RS m0 a e T0 n p (d + 1) (Ms.op mb) (rsC (nI 1, tb)) (bindv (m_X12_figures mb) (fun r21 => bindv (m_X12_emits r21.2 ((nI l + (nI 8 * nI o)) + (nI 32 * r21.1))) (fun r22 => r22))) := by
  unfold rsC
  simp only [bindv]
  rw [if_neg (show ¬ nI 1 = 0 by decide)]
  have nx := num_x h2
  rw [et] at nx
  generalize m_X4_readNumber tb = A at nx ⊢
  generalize m_X12_figures mb = B at nx ⊢
  rcases nx with ⟨w1, w2⟩ | ⟨w1, v, p', v1, v2, v3, v4, v5, v6, v7⟩
  · rw [if_pos (by rw [w1]; rfl)]
    exact Or.inr ⟨rfl, w2.sk (sk_emits w2.wr _)⟩
  · rw [if_neg (by rw [w1]; decide), v3, v6, v4]
    have ev : nI (l * 300 + o * 100) + nI v = nI (l * 300 + o * 100 + v) := nI_add _ _
    have ew : (nI l + (nI 8 * nI o)) + (nI 32 * nI v) = nI (l + 8 * o + 32 * v) := by rw [pk_mul, pk_mul, nI_add, nI_add]
    rw [ev, ew]
    obtain ⟨u1, u2, dp', u3, u4⟩ := v5.put (by omega) (x := nI (l * 300 + o * 100 + v)) (y := nI (l + 8 * o + 32 * v)) (d1 := d + 1) (Or.inl ⟨l, o, v, hl, ho, v1, rfl, rfl, by omega, by rw [hd]⟩)
    rw [if_neg (by rw [u1]; decide)]
    exact Or.inl ⟨rfl, u2.trans v7, n + 1, p', dp', u3, u4, by omega, by omega⟩
set_option maxHeartbeats 200000 in
theorem test_y {m0 : Ms} {a e : Nat} {T0 : Fn} {ta : Lr} {ma : Ms} {n p d l : Nat} {dp : Nat → Nat} (hl : l < 6) (np : n ≤ p) (h1 : PS m0 a e T0 ta ma n (p + 1) dp) (hd : dp n = d) (d20 : d < 20) : RS m0 a e T0 n p (d + 1) (Ms.op ma) (rsC (tsC2 l ta)) (tsM2 l ma) := by
  unfold tsC2 tsM2
  rcases am5_x h1 with ⟨y1, y2⟩ | ⟨hp2, o, ho, y1, y2⟩
  · rw [if_neg y1, y2]
    unfold rsC
    rw [if_pos (show nI 0 = 0 from rfl)]
    simp only [bindv]
    rw [if_pos h1.wr, if_pos trivial]
    have w : FS m0 a T0 ta (wrS ma (nI 1)) := h1.wrong (wr1 ma) rfl (Sm.rf ma)
    exact Or.inr ⟨rfl, w.sk (sk_tail _ id)⟩
  · rw [if_pos (by rw [y1]; exact nI_le (Nat.zero_le o) (by omega)), y2, y1]
    have h2 : PS m0 a e T0 (Lr.st (m_X4_advance ta), Lr.sz (m_X4_advance ta), Lr.ke (m_X4_advance ta), Lr.pa (m_X4_advance ta), Lr.sg (m_X4_advance ta), Lr.at (m_X4_advance ta), Lr.si (m_X4_advance ta), ((nI l * nI 300) + (nI o * nI 100)), Lr.nu (m_X4_advance ta), Lr.tp (m_X4_advance ta)) (wrS (upS ma) (nI 0)) n (p + 1 + 1) dp := (h1.adv (m' := upS ma) hp2 rfl rfl rfl rfl rfl rfl rfl (Sm.rf ma) rfl h1.wr).sm rfl rfl rfl rfl rfl rfl rfl rfl (Sm.rf ma) rfl rfl
    have et : Lr.te (Lr.st (m_X4_advance ta), Lr.sz (m_X4_advance ta), Lr.ke (m_X4_advance ta), Lr.pa (m_X4_advance ta), Lr.sg (m_X4_advance ta), Lr.at (m_X4_advance ta), Lr.si (m_X4_advance ta), ((nI l * nI 300) + (nI o * nI 100)), Lr.nu (m_X4_advance ta), Lr.tp (m_X4_advance ta)) = nI (l * 300 + o * 100) := by
      show (nI l * nI 300) + (nI o * nI 100) = _
      rw [pk_mul, pk_mul, nI_add]
    have r := test_z hl ho np h2 hd d20 et
    have e1 : (if Ms.wr (upS ma) = 0 then (if nI o = (-nI 1) then (bindv (m_X12_figures (wrS (upS ma) (nI 1))) (fun r23 => bindv (m_X12_emits r23.2 ((nI l + (nI 8 * nI o)) + (nI 32 * r23.1))) (fun r24 => r24))) else (bindv (m_X12_figures (wrS (upS ma) (nI 0))) (fun r21 => bindv (m_X12_emits r21.2 ((nI l + (nI 8 * nI o)) + (nI 32 * r21.1))) (fun r22 => r22)))) else (bindv (m_X12_figures (wrS (upS ma) (nI 1))) (fun r18 => bindv (m_X12_emits r18.2 ((nI l + (nI 8 * nI o)) + (nI 32 * r18.1))) (fun r19 => r19)))) = bindv (m_X12_figures (wrS (upS ma) (nI 0))) (fun r21 => bindv (m_X12_emits r21.2 ((nI l + (nI 8 * nI o)) + (nI 32 * r21.1))) (fun r22 => r22)) := by
      rw [if_pos (show Ms.wr (upS ma) = 0 from h1.wr), if_neg (show ¬ nI o = (-nI 1) from fun q => m1_ne (by omega) q.symm)]
    rw [← e1] at r
    exact r
set_option maxHeartbeats 200000 in
theorem test_x {m0 : Ms} {a e : Nat} {T0 : Fn} {t : Lr} {m : Ms} {n p d : Nat} {dp : Nat → Nat} (h : PS m0 a e T0 t m n p dp) (hd : dp n = d) (d20 : d < 20) : RS m0 a e T0 n p (d + 1) (Ms.op m) (tsC t) (tsM m) := by
  rcases am4_x h with ⟨z1, z2⟩ | ⟨hp, l, hl, z1, z2⟩
  · unfold tsC tsM m_X4_readTest
    rw [if_neg z1, z2]
    simp only [bindv]
    rw [if_pos (show nI 0 = 0 from rfl), if_pos trivial]
    have w : FS m0 a T0 t (wrS m (nI 1)) := h.wrong (wr1 m) rfl (Sm.rf m)
    exact Or.inr ⟨rfl, w.sk (sk_tail _ id)⟩
  · have h1 : PS m0 a e T0 (m_X4_advance t) (wrS (upS m) (nI 0)) n (p + 1) dp := h.adv hp rfl rfl rfl rfl rfl rfl rfl (Sm.rf m) rfl rfl
    have r := test_y hl h.2.2.2.1.1 h1 hd d20
    rw [tsM_1 hl z2, tsC_1 hl z1]
    exact r
/-- parts of k and fewer nestings are read alike -/
def GP (k : Nat) : Prop := ∀ (m0 : Ms) (a e : Nat) (T0 : Fn) (t : Lr) (m : Ms) (n p d : Nat) (dp : Nat → Nat), PS m0 a e T0 t m n p dp → dp n = d → d + 2 * k ≤ 14 → Ms.op m = nI (6 - k) → RS m0 a e T0 n p (d + 1) (Ms.op m) (part_n k (nI (6 - k)) t) (fac_n k m)
set_option maxHeartbeats 200000 in
theorem both_l {k : Nat} (g : GP k) {m0 : Ms} {a e : Nat} {T0 : Fn} {n p d : Nat} (hk : d + 1 + 2 * k ≤ 14) (hnp : n ≤ p) (ts : Lr) (o : Int32) (rr : Int32 × Lr) (mm r1 : Ms) : ∀ (x c : Nat) (i : Int32) (t : Lr) (m : Ms) (n1 p1 : Nat) (dp1 : Nat → Nat), c ≤ 100 → x + c = 101 → i = nI c → PS m0 a e T0 t m n1 p1 dp1 → dp1 n1 = d + 1 → p ≤ p1 → n1 + p ≤ n + p1 → c ≤ p1 → Ms.op m = nI (6 - k) → RS m0 a e T0 n p (d + 1) (nI (6 - k)) (l_X4_readBoth_12 ts (part_n k (nI (6 - k))) o rr x i t) (l_X12_every_4 mm (fac_n k) r1 (x + 1) m) := by
  intro x
  induction x with
  | zero => intro c i t m n1 p1 dp1 h1 h2; omega
  | succ x ih =>
    intro c i t m n1 p1 dp1 h1 h2 h3 h hd hp hs hc ho
    rw [q_X4_readBoth_12, q_X12_every_4, if_pos h.wr, h.here]
    by_cases z : nI 100 ≤ i
    · rw [if_pos z]
      rw [h3, nI_leI (by decide) (by omega)] at z
      have e9 := h.1.2.1
      rw [if_neg (fun q => by have := h.lt (c := 38) (by decide) q; omega)]
      exact Or.inl ⟨rfl, ho, n1, p1, dp1, h, hd, hp, hs⟩
    · rw [if_neg z]
      rw [h3, nI_leI (by decide) (by omega)] at z
      by_cases y : Lr.si t = nI 38
      · rw [if_pos y, take_y t y]
        simp only [bindv]
        rw [if_neg (show ¬ nI 1 = 0 by decide)]
        have ha : PS m0 a e T0 (m_X4_advance t) (upS m) n1 (p1 + 1) dp1 := h.adv (h.lt (by decide) y) rfl rfl rfl rfl rfl rfl rfl (Sm.rf m) rfl h.wr
        have oa : Ms.op (upS m) = nI (6 - k) := ho
        have um : (Ms.th m, Ms.s m, Ms.im m, Ms.fr m, Ms.hi m, Ms.ac m, (Ms.sp m + nI 1), Ms.en m, Ms.wr m, Ms.op m, Ms.bb m, Ms.tr m, Ms.su m, Ms.lf m, Ms.lk m, Ms.nx m, Ms.bo m, Ms.ra m, Ms.ki m, Ms.nu m, Ms.tv m) = upS m := rfl
        rw [um]
        have r := g m0 a e T0 (m_X4_advance t) (upS m) n1 (p1 + 1) (d + 1) dp1 ha hd (by omega) oa
        generalize part_n k (nI (6 - k)) (m_X4_advance t) = A at r ⊢
        generalize fac_n k (upS m) = M at r ⊢
        rcases r with ⟨r1', r2, n2, p2, dp2, r3, r4, r5, r6⟩ | ⟨r1', r2⟩
        · rw [if_neg (by rw [r1']; decide)]
          have np1 := h.2.2.2.1.1
          obtain ⟨u1, u2, dp3, u3, u4⟩ := r3.put (by omega) (x := (-nI 2)) (y := (-nI 2)) (d1 := d + 1) (Or.inr (Or.inr (Or.inl ⟨rfl, rfl, by omega, by omega, by omega⟩)))
          rw [if_neg (by rw [u1]; decide)]
          exact ih (c + 1) _ _ _ (n2 + 1) p2 dp3 (by omega) (by omega) (by rw [h3]; exact nI_add c 1) u3 u4 (by omega) (by omega) (by omega) (u2.trans (r2.trans oa))
        · rw [if_pos (by rw [r1']; rfl)]
          have s := sk_emits r2.wr (-nI 2)
          rw [q_X12_every_4, if_neg s.1]
          exact Or.inr ⟨rfl, r2.sk s⟩
      · rw [if_neg y, take_n t y]
        simp only [bindv]
        rw [if_pos (show nI 0 = 0 from rfl)]
        exact Or.inl ⟨rfl, ho, n1, p1, dp1, h, hd, hp, hs⟩
set_option maxHeartbeats 200000 in
theorem both_x {k : Nat} (g : GP k) {m0 : Ms} {a e : Nat} {T0 : Fn} {t : Lr} {m : Ms} {n p d : Nat} {dp : Nat → Nat} (h : PS m0 a e T0 t m n p dp) (hd : dp n = d) (hk : d + 1 + 2 * k ≤ 14) (ho : Ms.op m = nI (6 - k)) (o : Int32) : RS m0 a e T0 n p (d + 1) (nI (6 - k)) (m_X4_readBoth t (part_n k (nI (6 - k))) o) (m_X12_every m (fac_n k)) := by
  have r := g m0 a e T0 t m n p d dp h hd (by omega) ho
  unfold m_X4_readBoth m_X12_every
  rw [bindv, bindv]
  generalize part_n k (nI (6 - k)) t = A at r ⊢
  generalize fac_n k m = M at r ⊢
  rcases r with ⟨r1, r2, n2, p2, dp2, r3, r4, r5, r6⟩ | ⟨r1, r2⟩
  · rw [if_neg (by rw [r1]; decide)]
    exact both_l g hk h.2.2.2.1.1 t o A m M 101 0 (nI 0) A.2 M n2 p2 dp2 (by decide) rfl rfl r3 r4 r5 r6 (Nat.zero_le _) (r2.trans ho)
  · rw [if_pos (by rw [r1]; rfl), q_X12_every_4, if_neg r2.wr]
    exact Or.inr ⟨rfl, r2⟩
set_option maxHeartbeats 200000 in
theorem either_l {k : Nat} (g : GP k) {m0 : Ms} {a e : Nat} {T0 : Fn} {n p d : Nat} (hk : d + 2 + 2 * k ≤ 14) (hnp : n ≤ p) (ts : Lr) (o : Int32) (rr : Int32 × Lr) (mm r1 : Ms) : ∀ (x c : Nat) (i : Int32) (t : Lr) (m : Ms) (n1 p1 : Nat) (dp1 : Nat → Nat), c ≤ 100 → x + c = 101 → i = nI c → PS m0 a e T0 t m n1 p1 dp1 → dp1 n1 = d + 1 → p ≤ p1 → n1 + p ≤ n + p1 → c ≤ p1 → Ms.op m = nI (6 - k) → RS m0 a e T0 n p (d + 1) (nI (6 - k)) (l_X4_readEither_12 ts (part_n k (nI (6 - k))) o rr x i t) (l_X12_some_4 mm (fac_n k) r1 (x + 1) m) := by
  intro x
  induction x with
  | zero => intro c i t m n1 p1 dp1 h1 h2; omega
  | succ x ih =>
    intro c i t m n1 p1 dp1 h1 h2 h3 h hd hp hs hc ho
    rw [q_X4_readEither_12, q_X12_some_4, if_pos h.wr, h.here]
    by_cases z : nI 100 ≤ i
    · rw [if_pos z]
      rw [h3, nI_leI (by decide) (by omega)] at z
      have e9 := h.1.2.1
      rw [if_neg (fun q => by have := h.lt (c := 124) (by decide) q; omega)]
      exact Or.inl ⟨rfl, ho, n1, p1, dp1, h, hd, hp, hs⟩
    · rw [if_neg z]
      rw [h3, nI_leI (by decide) (by omega)] at z
      by_cases y : Lr.si t = nI 124
      · rw [if_pos y, take_y t y]
        simp only [bindv]
        rw [if_neg (show ¬ nI 1 = 0 by decide)]
        have ha : PS m0 a e T0 (m_X4_advance t) (upS m) n1 (p1 + 1) dp1 := h.adv (h.lt (by decide) y) rfl rfl rfl rfl rfl rfl rfl (Sm.rf m) rfl h.wr
        have oa : Ms.op (upS m) = nI (6 - k) := ho
        have um : (Ms.th m, Ms.s m, Ms.im m, Ms.fr m, Ms.hi m, Ms.ac m, (Ms.sp m + nI 1), Ms.en m, Ms.wr m, Ms.op m, Ms.bb m, Ms.tr m, Ms.su m, Ms.lf m, Ms.lk m, Ms.nx m, Ms.bo m, Ms.ra m, Ms.ki m, Ms.nu m, Ms.tv m) = upS m := rfl
        rw [um]
        have r := both_x g ha hd (by omega) oa o
        generalize m_X4_readBoth (m_X4_advance t) (part_n k (nI (6 - k))) o = A at r ⊢
        generalize m_X12_every (upS m) (fac_n k) = M at r ⊢
        rcases r with ⟨r1', r2, n2, p2, dp2, r3, r4, r5, r6⟩ | ⟨r1', r2⟩
        · rw [if_neg (by rw [r1']; decide)]
          have np1 := h.2.2.2.1.1
          obtain ⟨u1, u2, dp3, u3, u4⟩ := r3.put (by omega) (x := (-nI 3)) (y := (-nI 3)) (d1 := d + 1) (Or.inr (Or.inr (Or.inr (Or.inl ⟨rfl, rfl, by omega, by omega, by omega⟩))))
          rw [if_neg (by rw [u1]; decide)]
          exact ih (c + 1) _ _ _ (n2 + 1) p2 dp3 (by omega) (by omega) (by rw [h3]; exact nI_add c 1) u3 u4 (by omega) (by omega) (by omega) (u2.trans r2)
        · rw [if_pos (by rw [r1']; rfl)]
          have s := sk_emits r2.wr (-nI 3)
          rw [q_X12_some_4, if_neg s.1]
          exact Or.inr ⟨rfl, r2.sk s⟩
      · rw [if_neg y, take_n t y]
        simp only [bindv]
        rw [if_pos (show nI 0 = 0 from rfl)]
        exact Or.inl ⟨rfl, ho, n1, p1, dp1, h, hd, hp, hs⟩
set_option maxHeartbeats 200000 in
theorem either_x {k : Nat} (g : GP k) {m0 : Ms} {a e : Nat} {T0 : Fn} {t : Lr} {m : Ms} {n p d : Nat} {dp : Nat → Nat} (h : PS m0 a e T0 t m n p dp) (hd : dp n = d) (hk : d + 2 + 2 * k ≤ 14) (ho : Ms.op m = nI (6 - k)) (o : Int32) : RS m0 a e T0 n p (d + 1) (nI (6 - k)) (m_X4_readEither t (part_n k (nI (6 - k))) o) (m_X12_some m (fac_n k)) := by
  have r := both_x g h hd (by omega) ho o
  unfold m_X4_readEither m_X12_some
  rw [bindv, bindv]
  generalize m_X4_readBoth t (part_n k (nI (6 - k))) o = A at r ⊢
  generalize m_X12_every m (fac_n k) = M at r ⊢
  rcases r with ⟨r1, r2, n2, p2, dp2, r3, r4, r5, r6⟩ | ⟨r1, r2⟩
  · rw [if_neg (by rw [r1]; decide)]
    exact either_l g hk h.2.2.2.1.1 t o A m M 101 0 (nI 0) A.2 M n2 p2 dp2 (by decide) rfl rfl r3 r4 r5 r6 (Nat.zero_le _) r2
  · rw [if_pos (by rw [r1]; rfl), q_X12_some_4, if_neg r2.wr]
    exact Or.inr ⟨rfl, r2⟩
def nestS (m : Ms) (x w : Int32) : Ms := (Ms.th m, Ms.s m, Ms.im m, Ms.fr m, Ms.hi m, Ms.ac m, (Ms.sp m + x), Ms.en m, w, (Ms.op m + nI 1), Ms.bb m, Ms.tr m, Ms.su m, Ms.lf m, Ms.lk m, Ms.nx m, Ms.bo m, Ms.ra m, Ms.ki m, Ms.nu m, Ms.tv m)
def opS (m : Ms) : Ms := (Ms.th m, Ms.s m, Ms.im m, Ms.fr m, Ms.hi m, Ms.ac m, Ms.sp m, Ms.en m, Ms.wr m, (Ms.op m - nI 1), Ms.bb m, Ms.tr m, Ms.su m, Ms.lf m, Ms.lk m, Ms.nx m, Ms.bo m, Ms.ra m, Ms.ki m, Ms.nu m, Ms.tv m)
set_option maxHeartbeats 200000 in
theorem sk_opS {m : Ms} (h : ¬ Ms.wr m = 0) : Sk m (opS m) := ⟨h, rfl, Sm.rf m⟩
set_option maxHeartbeats 200000 in
theorem PS.opS {m0 : Ms} {a e : Nat} {T0 : Fn} {t : Lr} {m : Ms} {n p : Nat} {dp : Nat → Nat} (h : PS m0 a e T0 t m n p dp) : PS m0 a e T0 t (opS m) n p dp := h.sm rfl rfl rfl rfl rfl rfl rfl rfl (Sm.rf m) rfl h.wr
set_option maxHeartbeats 200000 in
theorem nest_w {m0 : Ms} {a e : Nat} {T0 : Fn} {t : Lr} {m : Ms} {n p : Nat} {dp : Nat → Nat} (h : PS m0 a e T0 t m n p dp) : FS m0 a T0 t (nestS m (nI 0) (nI 1)) := h.wrong (show ¬ nI 1 = 0 by decide) (add0 _) (Sm.rf m)
set_option maxHeartbeats 200000 in
theorem fac_u (k : Nat) (m : Ms) : fac_n (k + 1) m = (if Ms.wr m = 0 then (if (m_X12_here (Ms.s m) (Ms.sp m) (Ms.en m)) = nI 33 then (if Ms.op m = nI 5 then opS (m_X12_emits (fac_n k (nestS m (nI 0) (nI 1))) (-nI 1)) else opS (m_X12_emits (fac_n k (nestS m (nI 1) (nI 0))) (-nI 1))) else (if (m_X12_here (Ms.s m) (Ms.sp m) (Ms.en m)) = nI 40 then (if Ms.op m = nI 5 then opS (m_X12_must (m_X12_some (nestS m (nI 0) (nI 1)) (fac_n k)) (nI 41)) else opS (m_X12_must (m_X12_some (nestS m (nI 1) (nI 0)) (fac_n k)) (nI 41))) else tsM m)) else m) := rfl
set_option maxHeartbeats 200000 in
theorem part_u (k : Nat) (op : Int32) (s : Lr) : part_n (k + 1) op s = m_X4_readPart s (part_n k (op + nI 1)) op := rfl
set_option maxHeartbeats 200000 in
theorem gp_step {k : Nat} (g : 1 ≤ k → GP k) (hk6 : k < 6) : GP (k + 1) := by
  intro m0 a e T0 t m n p d dp h hd hdk ho
  rw [fac_u, part_u, if_pos h.wr, h.here]
  have np := h.2.2.2.1.1
  have eo : nI (6 - (k + 1)) + nI 1 = nI (6 - k) := by rw [nI_add]; congr 1; omega
  rw [eo, ho]
  unfold m_X4_readPart
  have o5 : (nI (6 - (k + 1)) = nI 5) ↔ k = 0 := by
    constructor
    · intro q
      have := nI_inj q (by omega) (by decide)
      omega
    · rintro rfl; rfl
  have l5 : (nI (6 - (k + 1)) < nI 5) ↔ 1 ≤ k := by rw [nI_ltI (by omega) (by decide)]; omega
  by_cases c33 : Lr.si t = nI 33
  · rw [if_pos c33, if_pos c33]
    by_cases k0 : k = 0
    · rw [if_pos (o5.mpr k0), if_neg (fun q => by have := l5.mp q; omega)]
      have w := nest_w h
      have s1 := sk_fac w.wr k
      have s2 := sk_emits s1.1 (-nI 1)
      exact Or.inr ⟨rfl, w.sk ((s1.tr s2).tr (sk_opS s2.1))⟩
    · rw [if_neg (fun q => k0 (o5.mp q)), if_pos (l5.mpr (by omega)), take_y t c33]
      simp only [bindv]
      rw [if_neg (show ¬ nI 1 = 0 by decide)]
      have ha : PS m0 a e T0 (m_X4_advance t) (nestS m (nI 1) (nI 0)) n (p + 1) dp := h.adv (h.lt (by decide) c33) rfl rfl rfl rfl rfl rfl rfl (Sm.rf m) rfl rfl
      have oa : Ms.op (nestS m (nI 1) (nI 0)) = nI (6 - k) := by
        show Ms.op m + nI 1 = _
        rw [ho]; exact eo
      have r := g (by omega) m0 a e T0 (m_X4_advance t) (nestS m (nI 1) (nI 0)) n (p + 1) d dp ha hd (by omega) oa
      generalize part_n k (nI (6 - k)) (m_X4_advance t) = A at r ⊢
      generalize fac_n k (nestS m (nI 1) (nI 0)) = M at r ⊢
      rcases r with ⟨r1, r2, n2, p2, dp2, r3, r4, r5, r6⟩ | ⟨r1, r2⟩
      · rw [if_neg (by rw [r1]; decide)]
        obtain ⟨u1, u2, dp3, u3, u4⟩ := r3.put (by omega) (x := (-nI 1)) (y := (-nI 1)) (d1 := d + 1) (Or.inr (Or.inl ⟨rfl, rfl, by omega, by omega, by omega⟩))
        rw [if_neg (by rw [u1]; decide)]
        refine Or.inl ⟨rfl, ?_, n2 + 1, p2, dp3, u3.opS, u4, by omega, by omega⟩
        show Ms.op (m_X12_emits M (-nI 1)) - nI 1 = _
        rw [u2, r2, oa, pk_sub (by omega)]; congr 1
      · rw [if_pos (by rw [r1]; rfl)]
        have s2 := sk_emits r2.wr (-nI 1)
        exact Or.inr ⟨rfl, r2.sk (s2.tr (sk_opS s2.1))⟩
  · rw [if_neg c33, if_neg c33]
    by_cases c40 : Lr.si t = nI 40
    · rw [if_pos c40, if_pos c40]
      by_cases k0 : k = 0
      · rw [if_pos (o5.mpr k0), if_neg (fun q => by have := l5.mp q; omega)]
        have w := nest_w h
        have s1 := sk_some (fun m hm => sk_fac hm k) w.wr
        have s2 := sk_must s1.1 (nI 41)
        exact Or.inr ⟨rfl, w.sk ((s1.tr s2).tr (sk_opS s2.1))⟩
      · rw [if_neg (fun q => k0 (o5.mp q)), if_pos (l5.mpr (by omega)), take_n t c33]
        simp only [bindv]
        rw [if_pos (show nI 0 = 0 from rfl), take_y t c40]
        simp only []
        rw [if_neg (show ¬ nI 1 = 0 by decide)]
        have ha : PS m0 a e T0 (m_X4_advance t) (nestS m (nI 1) (nI 0)) n (p + 1) dp := h.adv (h.lt (by decide) c40) rfl rfl rfl rfl rfl rfl rfl (Sm.rf m) rfl rfl
        have oa : Ms.op (nestS m (nI 1) (nI 0)) = nI (6 - k) := by
          show Ms.op m + nI 1 = _
          rw [ho]; exact eo
        have r := either_x (g (by omega)) ha hd (by omega) oa (nI (6 - k))
        rw [eo]
        generalize m_X4_readEither (m_X4_advance t) (part_n k (nI (6 - k))) (nI (6 - k)) = A at r ⊢
        generalize m_X12_some (nestS m (nI 1) (nI 0)) (fac_n k) = M at r ⊢
        rcases r with ⟨r1, r2, n2, p2, dp2, r3, r4, r5, r6⟩ | ⟨r1, r2⟩
        · rw [if_neg (by rw [r1]; decide)]
          rcases must_x r3 (c := 41) (by decide) with ⟨u1, u2, u3, u5⟩ | ⟨u1, u2⟩
          · rw [if_neg (by rw [u1]; decide)]
            refine Or.inl ⟨rfl, ?_, n2, p2 + 1, dp2, u2.opS, r4, by omega, by omega⟩
            show Ms.op (m_X12_must M (nI 41)) - nI 1 = _
            rw [u3, r2, pk_sub (by omega)]; congr 1
          · rw [if_pos (by rw [u1]; rfl)]
            exact Or.inr ⟨rfl, u2.sk (sk_opS u2.wr)⟩
        · rw [if_pos (by rw [r1]; rfl)]
          have s2 := sk_must r2.wr (nI 41)
          exact Or.inr ⟨rfl, r2.sk (s2.tr (sk_opS s2.1))⟩
    · rw [if_neg c40, if_neg c40]
      have r := test_x h hd (by omega)
      rw [ho] at r
      exact r
set_option maxHeartbeats 200000 in
theorem gp_all : ∀ k, 1 ≤ k → k ≤ 6 → GP k := by
  intro k
  induction k with
  | zero => intro h; omega
  | succ k ih => intro _ h6; exact gp_step (fun q => ih q (by omega)) (by omega)

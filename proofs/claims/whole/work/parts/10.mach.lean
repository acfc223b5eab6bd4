/-! THE ABSTRACT MACHINE: a frame whose references are places in a list of cells. 'xs code' says, for what stands ahead of it, what must hold so that the method goes on well: a value computed by unfolding alone. J: where the walk may stand (a jump), RT: what is returned, CT: contracts of what is called. -/
abbrev AE : Type := (Nat × vp_A) ⊕ (Nat × List Value)
abbrev LV : Type := List (Nat × Value)
abbrev JP : Type := Nat → LV → List Value → List AE → Prop
abbrev RP : Type := Option Value → List AE → Prop
/-- rank, number of the method, arguments, cells, what holds behind it -/
abbrev CTP : Type := Nat → Nat → List Value → List AE → RP → Prop
/-- fields: entry ↦ (place, kind of type, kinds of cells); calls: entry ↦ (kind, arguments, (receiver's kind, method)); constants; statics; fields and arrays that nobody writes -/
abbrev Pool : Type := List (Nat × Nat × Nat × List Nat) × List (Nat × Nat × Nat × List (Nat × Nat)) × List (Nat × Value) × List (Nat × Value) × List (Nat × Value) × List (Nat × Nat × Nat × (Nat → Int32))
abbrev Ins : Type := Nat × Instr × Nat
def a_look {α : Type} : List (Nat × α) → Nat → Option α
  | [], _ => none
  | (j, v) :: t, i => bif Nat.beq j i then some v else a_look t i
theorem a_look_mem {α : Type} : ∀ {l : List (Nat × α)} {i : Nat} {v : α}, a_look l i = some v → (i, v) ∈ l
  | [], _, _, h => by simp [a_look] at h
  | (j, w) :: t, i, v, h => by
    cases hb : Nat.beq j i with
    | true =>
      simp only [a_look, hb, cond_true, Option.some.injEq] at h
      rw [Nat.eq_of_beq_eq_true hb, h]
      exact List.mem_cons_self
    | false =>
      simp only [a_look, hb, cond_false] at h
      exact List.mem_cons_of_mem _ (a_look_mem h)
def a_mem : Nat → List Nat → Bool
  | _, [] => false
  | i, j :: t => bif Nat.beq j i then true else a_mem i t
theorem a_mem_mem : ∀ {i : Nat} {l : List Nat}, a_mem i l = true → i ∈ l
  | _, [], h => by simp [a_mem] at h
  | i, j :: t, h => by
    cases hb : Nat.beq j i with
    | true => rw [Nat.eq_of_beq_eq_true hb]; exact List.mem_cons_self
    | false =>
      simp only [a_mem, hb, cond_false] at h
      exact List.mem_cons_of_mem _ (a_mem_mem h)
def l_get {α : Type} : List α → Nat → Option α
  | [], _ => none
  | c :: _, 0 => some c
  | _ :: t, n + 1 => l_get t n
theorem l_get_eq {α : Type} : ∀ (l : List α) (n : Nat), l_get l n = l[n]?
  | [], n => by simp [l_get]
  | c :: _, 0 => by simp [l_get]
  | _ :: t, n + 1 => by simp [l_get, l_get_eq t n]
/-- a list with one entry anew, handed on in full -/
def l_put {α : Type} : List α → Nat → α → (List α → Prop) → Prop
  | [], _, _, k => k []
  | _ :: t, 0, v, k => k (v :: t)
  | c :: t, n + 1, v, k => l_put t n v (fun t' => k (c :: t'))
theorem l_put_eq {α : Type} : ∀ (l : List α) (n : Nat) (v : α) (k : List α → Prop), l_put l n v k → k (l.set n v)
  | [], _, _, _, h => h
  | _ :: _, 0, _, _, h => h
  | c :: t, n + 1, v, k, h => l_put_eq t n v (fun t' => k (c :: t')) h
def v_two : Value → Bool
  | .long _ => true
  | .double _ => true
  | _ => false
theorem v_two_eq (v : Value) : v_two v = (v.category == 2) := by cases v <;> rfl
theorem nb_eq (i j : Nat) : Nat.beq i j = (i == j) := by
  cases h : Nat.beq i j with
  | true => rw [Nat.eq_of_beq_eq_true h]; simp
  | false => have := Nat.ne_of_beq_eq_false h; simp [this]
/-- locals without place i -/
def ls_out : LV → Nat → (LV → Prop) → Prop
  | [], _, k => k []
  | (j, w) :: t, i, k => bif (Nat.beq j i || (Nat.beq (j + 1) i && v_two w)) then ls_out t i k else ls_out t i (fun t' => k ((j, w) :: t'))
theorem ls_out_eq : ∀ (l : LV) (i : Nat) (k : LV → Prop), ls_out l i k → k (l.filter (fun q => !(q.1 == i) && !(q.1 + 1 == i && q.2.category == 2)))
  | [], _, _, h => h
  | (j, w) :: t, i, k, h => by
    have e1 : Nat.beq j i = (j == i) := nb_eq _ _
    have e2 : Nat.beq (j + 1) i = (j + 1 == i) := nb_eq _ _
    unfold ls_out at h
    rw [e1, e2, v_two_eq] at h
    rw [List.filter_cons]
    cases hb : ((j == i) || (j + 1 == i && w.category == 2)) with
    | true =>
      rw [hb] at h
      have hn : (!(j == i) && !(j + 1 == i && w.category == 2)) = false := by rw [← Bool.not_or, hb]; rfl
      simp only [hn, Bool.false_eq_true, if_false]
      exact ls_out_eq t i k h
    | false =>
      rw [hb] at h
      have hn : (!(j == i) && !(j + 1 == i && w.category == 2)) = true := by rw [← Bool.not_or, hb]; rfl
      simp only [hn, if_true]
      exact ls_out_eq t i (fun t' => k ((j, w) :: t')) h
def ls_out2 : LV → Nat → (LV → Prop) → Prop
  | [], _, k => k []
  | (j, w) :: t, i, k => bif (Nat.beq j i || (Nat.beq j (i + 1) || (Nat.beq (j + 1) i && v_two w))) then ls_out2 t i k else ls_out2 t i (fun t' => k ((j, w) :: t'))
theorem ls_out2_eq : ∀ (l : LV) (i : Nat) (k : LV → Prop), ls_out2 l i k → k (l.filter (fun q => !(q.1 == i) && (!(q.1 == i + 1) && !(q.1 + 1 == i && q.2.category == 2))))
  | [], _, _, h => h
  | (j, w) :: t, i, k, h => by
    have e1 : Nat.beq j i = (j == i) := nb_eq _ _
    have e3 : Nat.beq j (i + 1) = (j == i + 1) := nb_eq _ _
    have e2 : Nat.beq (j + 1) i = (j + 1 == i) := nb_eq _ _
    unfold ls_out2 at h
    rw [e1, e2, e3, v_two_eq] at h
    rw [List.filter_cons]
    cases hb : ((j == i) || ((j == i + 1) || (j + 1 == i && w.category == 2))) with
    | true =>
      rw [hb] at h
      have hn : (!(j == i) && (!(j == i + 1) && !(j + 1 == i && w.category == 2))) = false := by rw [← Bool.not_or, ← Bool.not_or, hb]; rfl
      simp only [hn, Bool.false_eq_true, if_false]
      exact ls_out2_eq t i k h
    | false =>
      rw [hb] at h
      have hn : (!(j == i) && (!(j == i + 1) && !(j + 1 == i && w.category == 2))) = true := by rw [← Bool.not_or, ← Bool.not_or, hb]; rfl
      simp only [hn, if_true]
      exact ls_out2_eq t i (fun t' => k ((j, w) :: t')) h
/-- renaming of places: by a list; what lies beyond it keeps its number -/
def r_n (em : List Nat) (i : Nat) : Nat := match l_get em i with
  | some j => j
  | none => i
def r_v (em : List Nat) : Value → Value
  | .ref i => .ref (r_n em i)
  | v => v
def r_o (em : List Nat) : Option Value → Option Value
  | some v => some (r_v em v)
  | none => none
def r_e (em : List Nat) : AE → AE
  | .inl (t, n, .inr (.inr (.inr (.inr f)))) => .inl (t, n, .inr (.inr (.inr (.inr (fun j => (f j).map (r_n em))))))
  | .inl a => .inl a
  | .inr (ci, fs) => .inr (ci, fs.map (r_v em))
/-- the cells at the places em are those, renamed -/
def w_sub (h : List AE) (em : List Nat) (h0 : List AE) : Prop := em.map (fun i => l_get h i) = h0.map (fun c => some (r_e em c))
/-- they are put back -/
def w_back : List AE → List Nat → List AE → List AE
  | h, i :: em, c :: h1 => w_back (h.set i c) em h1
  | h, _, _ => h
/-- a call: by the whole world, or by a part of it -/
def CALL (CT : CTP) (d j : Nat) (as : List Value) (h : List AE) (k : Option Value → List AE → Prop) : Prop :=
  (∃ (d1 : Nat) (P : RP), d1 < d ∧ CT d1 j as h P ∧ ∀ r h1, P r h1 → h1.length = h.length → k r h1) ∨
  (∃ (d1 : Nat) (em : List Nat) (as0 : List Value) (h0 : List AE) (P : RP), d1 < d ∧ CT d1 j as0 h0 P ∧ as0.map (r_v em) = as ∧ w_sub h em h0 ∧ em.Nodup ∧ em.length ≤ 1000 ∧
    ∀ r h1, P r h1 → h1.length = h0.length → k (r_o em r) (w_back h em (h1.map (r_e em))))
/-- the last n of the stack, in the order of a call -/
def x_pop : Nat → List Value → List Value → Option (List Value × List Value)
  | 0, st, acc => some (acc, st)
  | n + 1, v :: st, acc => x_pop n st (v :: acc)
  | _ + 1, [], _ => none
theorem x_pop_eq : ∀ (n : Nat) (st acc as rest : List Value), x_pop n st acc = some (as, rest) → ∃ a1, as = a1 ++ acc ∧ st = a1.reverse ++ rest ∧ a1.length = n
  | 0, st, acc, as, rest, h => by
    simp only [x_pop, Option.some.injEq, Prod.mk.injEq] at h
    exact ⟨[], by rw [← h.1]; rfl, by rw [← h.2]; rfl, rfl⟩
  | n + 1, [], acc, as, rest, h => by simp [x_pop] at h
  | n + 1, v :: st, acc, as, rest, h => by
    obtain ⟨a1, h1, h2, h3⟩ := x_pop_eq n st (v :: acc) as rest h
    exact ⟨a1 ++ [v], by rw [h1]; simp, by rw [h2]; simp, by simp [h3]⟩
def x_cat : List Value → Nat
  | [] => 0
  | v :: t => (bif v_two v then 2 else 1) + x_cat t
theorem x_cat_eq : ∀ l : List Value, x_cat l = (l.map fun v => v.category).sum
  | [] => rfl
  | v :: t => by
    rw [x_cat, List.map_cons, List.sum_cons, x_cat_eq t]
    cases v <;> rfl
def x_push : Option Value → List Value → List Value
  | none, st => st
  | some v, st => v :: st
def x_int : Int → (Int32 → Prop) → Prop
  | .ofNat n, k => k (nI n)
  | .negSucc n, k => k (-(nI (n + 1)))
def x_sml (b : Nat) : Int → (Int32 → Prop) → Prop
  | .ofNat n, k => bif Nat.blt n b then k (nI n) else False
  | .negSucc n, k => bif Nat.blt n b then k (-(nI (n + 1))) else False
theorem x_neg (n : Nat) : Int32.ofInt (Int.negSucc n) = -(nI (n + 1)) := by
  rw [Int.negSucc_eq, ← Int32.neg_ofInt]
  rfl
theorem x_sml_eq {b : Nat} {k : Int32 → Prop} : ∀ {n : Int}, x_sml b n k → -(b : Int) ≤ n ∧ n < b ∧ k (Int32.ofInt n)
  | .ofNat n, h => by
    have h : (bif Nat.blt n b then k (nI n) else False) := h
    cases hb : Nat.blt n b with
    | false => rw [hb] at h; exact h.elim
    | true =>
      rw [hb] at h
      have : n < b := by simpa using hb
      exact ⟨by show -(b : Int) ≤ (n : Int); omega, by show (n : Int) < b; omega, h⟩
  | .negSucc n, h => by
    have h : (bif Nat.blt n b then k (-(nI (n + 1))) else False) := h
    cases hb : Nat.blt n b with
    | false => rw [hb] at h; exact h.elim
    | true =>
      rw [hb] at h
      have : n < b := by simpa using hb
      exact ⟨by rw [Int.negSucc_eq]; omega, by rw [Int.negSucc_eq]; omega, by rw [x_neg]; exact h⟩
theorem x_int_eq {k : Int32 → Prop} : ∀ {n : Int}, x_int n k → k (Int32.ofInt n)
  | .ofNat n, h => h
  | .negSucc n, h => by rw [x_neg]; exact h
theorem x_i8 {n : Int} (h1 : -128 ≤ n) (h2 : n < 128) : (Int8.ofInt n).toInt32 = Int32.ofInt n := by
  apply Int32.toInt_inj.mp
  rw [Int8.toInt_toInt32, Int8.toInt_ofInt_of_le (by omega) (by omega), Int32.toInt_ofInt_of_le (by omega) (by omega)]
theorem x_i16 {n : Int} (h1 : -32768 ≤ n) (h2 : n < 32768) : (Int16.ofInt n).toInt32 = Int32.ofInt n := by
  apply Int32.toInt_inj.mp
  rw [Int16.toInt_toInt32, Int16.toInt_ofInt_of_le (by omega) (by omega), Int32.toInt_ofInt_of_le (by omega) (by omega)]
def x_jmp (J : Nat → Prop) (pc : Nat) : Int → Prop
  | .ofNat n => J (pc + n)
  | .negSucc n => bif Nat.ble (n + 1) pc then J (pc - (n + 1)) else False
theorem x_jmp_eq {J : Nat → Prop} {pc : Nat} : ∀ {off : Int}, x_jmp J pc off → ∃ t : Nat, (pc : Int) + off = (t : Int) ∧ J t
  | .ofNat n, h => ⟨pc + n, by simp, h⟩
  | .negSucc n, h => by
    have h : (bif Nat.ble (n + 1) pc then J (pc - (n + 1)) else False) := h
    cases hb : Nat.ble (n + 1) pc with
    | false => rw [hb] at h; exact h.elim
    | true =>
      rw [hb] at h
      have := Nat.le_of_ble_eq_true hb
      exact ⟨pc - (n + 1), by rw [Int.negSucc_eq]; omega, h⟩
/-- the arms of a switch over successive numbers -/
def x_arms (J : Nat → Prop) (pc : Nat) (x : Int32) : Int → List Int → Prop
  | _, [] => True
  | lo, o :: t => (x.toInt = lo → x_jmp J pc o) ∧ x_arms J pc x (lo + 1) t
def x_pairs (J : Nat → Prop) (pc : Nat) (x : Int32) (d : Int) : List (Int × Int) → Prop
  | [] => x_jmp J pc d
  | (a, o) :: t => (x.toInt = a → x_jmp J pc o) ∧ (¬ x.toInt = a → x_pairs J pc x d t)
def x_ret (ty : Option FieldType) (x : Int32) : Prop := match ty with
  | some .int => True
  | some .boolean => x &&& 1 = x
  | some t => narrow t (.int x) = .int x
  | none => False
/-- a field's entry: its place, if the cell's kind is among those of the entry -/
def x_fld (P : Pool) (h : List AE) (idx i : Nat) : Option Value := match a_look P.1 idx with
  | some (kk, _, cis) => match l_get h i with
    | some (.inr (ci, fs)) => bif a_mem ci cis then l_get fs kk else none
    | some (.inl _) => none
    | none => bif a_mem 50 cis then a_look P.2.2.2.2.1 (16 * i + kk) else none
  | none => none
def x_kind (h : List AE) (i : Nat) : Option Nat := match l_get h i with
  | some (.inr (ci, _)) => some ci
  | some (.inl _) => none
  | none => bif Nat.ble 1000 i && Nat.blt i 1006 then some 50 else none
def x_ints (P : Pool) (h : List AE) (i t : Nat) : Option (Nat × (Nat → Int32)) := match l_get h i with
  | some (.inl (t', n, .inl f)) => bif Nat.beq t' t then some (n, f) else none
  | some _ => none
  | none => match a_look P.2.2.2.2.2 i with
    | some (t', n, f) => bif Nat.beq t' t then some (n, f) else none
    | none => none
def x_len (P : Pool) (h : List AE) (i : Nat) : Option Nat := match l_get h i with
  | some (.inl (t, n, _)) => bif Nat.blt t 5 then some n else none
  | some (.inr _) => none
  | none => match a_look P.2.2.2.2.2 i with
    | some (_, n, _) => some n
    | none => none
def x_own (h : List AE) (i t : Nat) : Option (Nat × (Nat → Int32)) := match l_get h i with
  | some (.inl (t', n, .inl f)) => bif Nat.beq t' t then some (n, f) else none
  | _ => none
def x_refs (h : List AE) (i : Nat) : Option (Nat × Nat × (Nat → Option Nat)) := match l_get h i with
  | some (.inl (t, n, .inr (.inr (.inr (.inr f))))) => some (t, n, f)
  | _ => none
def x_c0 (c : ClassFile.Cond) (x : Int32) (A B : Prop) : Prop := match c with
  | .eq => (x = 0 → A) ∧ (¬ x = 0 → B)
  | .ne => (¬ x = 0 → A) ∧ (x = 0 → B)
  | .lt => (x < 0 → A) ∧ (¬ x < 0 → B)
  | .ge => (0 ≤ x → A) ∧ (¬ 0 ≤ x → B)
  | .gt => (0 < x → A) ∧ (¬ 0 < x → B)
  | .le => (x ≤ 0 → A) ∧ (¬ x ≤ 0 → B)
def x_c2 (c : ClassFile.Cond) (x y : Int32) (A B : Prop) : Prop := match c with
  | .eq => (x = y → A) ∧ (¬ x = y → B)
  | .ne => (¬ x = y → A) ∧ (x = y → B)
  | .lt => (x < y → A) ∧ (¬ x < y → B)
  | .ge => (y ≤ x → A) ∧ (¬ y ≤ x → B)
  | .gt => (y < x → A) ∧ (¬ y < x → B)
  | .le => (x ≤ y → A) ∧ (¬ x ≤ y → B)
/-- loads, stores: what stands there must be of the kind that the instruction names -/
def x_ld (ls : LV) (i kd : Nat) : Option Value := match a_look ls i with
  | some (.int x) => bif Nat.beq kd 0 then some (.int x) else none
  | some (.long x) => bif Nat.beq kd 1 then some (.long x) else none
  | some (.ref a) => bif Nat.beq kd 2 then some (.ref a) else none
  | _ => none
def x_put (P : Pool) (h : List AE) (idx i : Nat) (v : Value) (k : List AE → Prop) : Prop := match a_look P.1 idx with
  | some (kk, ty, cis) => match l_get h i with
    | some (.inr (ci, fs)) => bif a_mem ci cis && Nat.blt kk fs.length then (match v with
        | .int x => (bif Nat.beq ty 0 then True else bif Nat.beq ty 1 then (x = 0 ∨ x = 1) else False) ∧ l_put fs kk (.int x) (fun fs' => l_put h i (.inr (ci, fs')) k)
        | .ref a => bif Nat.beq ty 2 then l_put fs kk (.ref a) (fun fs' => l_put h i (.inr (ci, fs')) k) else False
        | .null => bif Nat.beq ty 2 then l_put fs kk .null (fun fs' => l_put h i (.inr (ci, fs')) k) else False
        | _ => False) else False
    | _ => False
  | none => False
abbrev KP : Type := LV → List Value → List AE → Prop
def x_st1 (ls : LV) (nL i : Nat) (v : Value) (k : LV → Prop) : Prop := bif Nat.blt i nL then ls_out ls i (fun t => k ((i, v) :: t)) else False
def x_st2 (ls : LV) (nL i : Nat) (v : Value) (k : LV → Prop) : Prop := bif Nat.blt (i + 1) nL then ls_out2 ls i (fun t => k ((i, v) :: t)) else False
def x_inv (P : Pool) (CT : CTP) (d : Nat) (kd idx : Nat) (ls : LV) (st : List Value) (h : List AE) (k : KP) : Prop := match a_look P.2.1 idx with
  | some (kd', na, tg) => bif Nat.beq kd' kd then (match x_pop na st [] with
    | some (as, rest) => (bif Nat.beq kd 1 then (match a_look tg 0 with
        | some j => bif Nat.ble (x_cat rest) 8 then CALL CT d j as h (fun r h' => k ls (x_push r rest) h') else False
        | none => False)
      else match rest with
        | .ref b :: rest => (match x_kind h b with
          | some ci => (match a_look tg ci with
            | some j => bif Nat.ble (x_cat rest) 8 then CALL CT d j (.ref b :: as) h (fun r h' => k ls (x_push r rest) h') else False
            | none => False)
          | none => False)
        | _ => False)
    | none => False) else False
  | none => False
/-- System.arraycopy over arrays of ints or bytes -/
def x_copy (P : Pool) (d : Nat) (idx : Nat) (ls : LV) (st : List Value) (h : List AE) (k : KP) : Prop := match a_look P.2.1 idx with
  | some (kd, _, _) => bif Nat.beq kd 5 then (match st with
    | .int n :: .int dp :: .ref a :: .int sp :: .ref b :: rest => (match l_get h b, l_get h a with
      | some (.inl (t0, n0, .inl f)), some (.inl (t1, n1, .inl g)) => bif Nat.beq t0 t1 && Nat.blt t0 2 && Nat.ble (x_cat rest) 8 && Nat.ble 1 d then
          (¬ sp < 0 ∧ ¬ dp < 0 ∧ ¬ n < 0 ∧ sp.toNatClampNeg + n.toNatClampNeg ≤ n0 ∧ dp.toNatClampNeg + n.toNatClampNeg ≤ n1 ∧ (∀ i, i < n.toNatClampNeg → fits (bif Nat.beq t0 0 then .int else .byte) (.int (f (sp.toNatClampNeg + i))) = true) ∧
            l_put h a (.inl (t1, n1, .inl (va_cpy f g sp.toNatClampNeg dp.toNatClampNeg n.toNatClampNeg))) (fun h' => k ls rest h')) else False
      | _, _ => False)
    | _ => False) else False
  | none => False
/-- one instruction: k goes on behind it, J where it jumps, RT at a return -/
def x_step (P : Pool) (CT : CTP) (d nL : Nat) (ty : Option FieldType) (J : JP) (RT : RP) (pc : Nat) (ls : LV) (st : List Value) (h : List AE) (k : KP) : Instr → Prop
  | .iconst n => x_int n (fun v => k ls (.int v :: st) h)
  | .bipush n => x_sml 128 n (fun v => k ls (.int v :: st) h)
  | .sipush n => x_sml 32768 n (fun v => k ls (.int v :: st) h)
  | .lconst n => k ls (.long (lN n.val) :: st) h
  | .aconst_null => k ls (.null :: st) h
  | .ldc ix => match a_look P.2.2.1 ix with
    | some (.int v) => k ls (.int v :: st) h
    | some (.ref a) => k ls (.ref a :: st) h
    | _ => False
  | .ldc_w ix => match a_look P.2.2.1 ix with
    | some (.int v) => k ls (.int v :: st) h
    | _ => False
  | .ldc2_w ix => match a_look P.2.2.1 ix with
    | some (.long v) => k ls (.long v :: st) h
    | _ => False
  | .getstatic ix => match a_look P.2.2.2.1 ix with
    | some v => k ls (v :: st) h
    | none => False
  | .iload n => match x_ld ls n 0 with
    | some v => k ls (v :: st) h
    | none => False
  | .iload_n n => match x_ld ls n.val 0 with
    | some v => k ls (v :: st) h
    | none => False
  | .lload n => match x_ld ls n 1 with
    | some v => k ls (v :: st) h
    | none => False
  | .lload_n n => match x_ld ls n.val 1 with
    | some v => k ls (v :: st) h
    | none => False
  | .aload n => match x_ld ls n 2 with
    | some v => k ls (v :: st) h
    | none => False
  | .aload_n n => match x_ld ls n.val 2 with
    | some v => k ls (v :: st) h
    | none => False
  | .istore n => match st with
    | .int x :: r => x_st1 ls nL n (.int x) (fun ls' => k ls' r h)
    | _ => False
  | .istore_n n => match st with
    | .int x :: r => x_st1 ls nL n.val (.int x) (fun ls' => k ls' r h)
    | _ => False
  | .lstore n => match st with
    | .long x :: r => x_st2 ls nL n (.long x) (fun ls' => k ls' r h)
    | _ => False
  | .lstore_n n => match st with
    | .long x :: r => x_st2 ls nL n.val (.long x) (fun ls' => k ls' r h)
    | _ => False
  | .astore n => match st with
    | .ref x :: r => x_st1 ls nL n (.ref x) (fun ls' => k ls' r h)
    | _ => False
  | .astore_n n => match st with
    | .ref x :: r => x_st1 ls nL n.val (.ref x) (fun ls' => k ls' r h)
    | _ => False
  | .iinc n c => match a_look ls n with
    | some (.int x) => x_int c (fun v => x_st1 ls nL n (.int (x + v)) (fun ls' => k ls' st h))
    | _ => False
  | .dup => match st with
    | v :: r => bif v_two v then False else k ls (v :: v :: r) h
    | _ => False
  | .dup2 => match st with
    | v :: w :: r => bif v_two v || v_two w then False else k ls (v :: w :: v :: w :: r) h
    | _ => False
  | .pop => match st with
    | v :: r => bif v_two v then False else k ls r h
    | _ => False
  | .iadd => match st with
    | .int y :: .int x :: r => k ls (.int (x + y) :: r) h
    | _ => False
  | .isub => match st with
    | .int y :: .int x :: r => k ls (.int (x - y) :: r) h
    | _ => False
  | .imul => match st with
    | .int y :: .int x :: r => k ls (.int (x * y) :: r) h
    | _ => False
  | .idiv => match st with
    | .int y :: .int x :: r => ¬ y = 0 ∧ k ls (.int (x / y) :: r) h
    | _ => False
  | .irem => match st with
    | .int y :: .int x :: r => ¬ y = 0 ∧ k ls (.int (x - x / y * y) :: r) h
    | _ => False
  | .iand => match st with
    | .int y :: .int x :: r => k ls (.int (x &&& y) :: r) h
    | _ => False
  | .ior => match st with
    | .int y :: .int x :: r => k ls (.int (x ||| y) :: r) h
    | _ => False
  | .ixor => match st with
    | .int y :: .int x :: r => k ls (.int (x ^^^ y) :: r) h
    | _ => False
  | .ishl => match st with
    | .int y :: .int x :: r => k ls (.int (x <<< (y &&& 31)) :: r) h
    | _ => False
  | .ishr => match st with
    | .int y :: .int x :: r => k ls (.int (x >>> (y &&& 31)) :: r) h
    | _ => False
  | .iushr => match st with
    | .int y :: .int x :: r => k ls (.int ((x.toUInt32 >>> (y.toUInt32 &&& Int32.toUInt32 31)).toInt32) :: r) h
    | _ => False
  | .ineg => match st with
    | .int x :: r => k ls (.int (-x) :: r) h
    | _ => False
  | .i2l => match st with
    | .int x :: r => k ls (.long x.toInt64 :: r) h
    | _ => False
  | .i2b => match st with
    | .int x :: r => k ls (.int x.toInt8.toInt32 :: r) h
    | _ => False
  | .i2c => match st with
    | .int x :: r => k ls (.int (x.toUInt32 % 65536).toInt32 :: r) h
    | _ => False
  | .ladd => match st with
    | .long y :: .long x :: r => k ls (.long (x + y) :: r) h
    | _ => False
  | .lsub => match st with
    | .long y :: .long x :: r => k ls (.long (x - y) :: r) h
    | _ => False
  | .ldiv => match st with
    | .long y :: .long x :: r => ¬ y = 0 ∧ k ls (.long (x / y) :: r) h
    | _ => False
  | .lrem => match st with
    | .long y :: .long x :: r => ¬ y = 0 ∧ k ls (.long (x - x / y * y) :: r) h
    | _ => False
  | .lcmp => match st with
    | .long y :: .long x :: r => k ls (.int (lg_cmp x y) :: r) h
    | _ => False
  | .goto o => x_jmp (fun t => J t ls st h) pc o
  | .ifCond c o => match st with
    | .int x :: r => x_jmp (fun t => x_c0 c x (J t ls r h) (k ls r h)) pc o
    | _ => False
  | .if_icmp c o => match st with
    | .int y :: .int x :: r => x_jmp (fun t => x_c2 c x y (J t ls r h) (k ls r h)) pc o
    | _ => False
  | .ifnull o => match st with
    | .ref _ :: r => k ls r h
    | .null :: r => x_jmp (fun t => J t ls r h) pc o
    | _ => False
  | .ifnonnull o => match st with
    | .ref _ :: r => x_jmp (fun t => J t ls r h) pc o
    | .null :: r => k ls r h
    | _ => False
  | .tableswitch df lo hi offs => match st with
    | .int x :: r => (x.toInt < lo ∨ hi < x.toInt → x_jmp (fun t => J t ls r h) pc df) ∧ (hi = lo + offs.toList.length - 1 ∧ x_arms (fun t => J t ls r h) pc x lo offs.toList)
    | _ => False
  | .lookupswitch df ps => match st with
    | .int x :: r => (ps.toList.zip (ps.toList.drop 1)).all (fun (a, next) => a.1 < next.1) = true ∧ x_pairs (fun t => J t ls r h) pc x df ps.toList
    | _ => False
  | .getfield ix => match st with
    | .ref a :: r => (match x_fld P h ix a with
      | some v => k ls (v :: r) h
      | none => False)
    | _ => False
  | .putfield ix => match st with
    | v :: .ref a :: r => x_put P h ix a v (fun h' => k ls r h')
    | _ => False
  | .arraylength => match st with
    | .ref a :: r => (match x_len P h a with
      | some n => k ls (.int (nI n) :: r) h
      | none => False)
    | _ => False
  | .iaload => match st with
    | .int i :: .ref a :: r => (match x_ints P h a 0 with
      | some (n, f) => vp_in i n ∧ k ls (.int (f i.toNatClampNeg) :: r) h
      | none => False)
    | _ => False
  | .baload => match st with
    | .int i :: .ref a :: r => (match x_ints P h a 1 with
      | some (n, f) => vp_in i n ∧ k ls (.int (f i.toNatClampNeg) :: r) h
      | none => (match x_own h a 2 with
        | some (n, f) => vp_in i n ∧ k ls (.int (f i.toNatClampNeg) :: r) h
        | none => False))
    | _ => False
  | .iastore => match st with
    | .int x :: .int i :: .ref a :: r => (match x_own h a 0 with
      | some (n, f) => vp_in i n ∧ l_put h a (.inl (0, n, .inl (upd f i.toNatClampNeg x))) (fun h' => k ls r h')
      | none => False)
    | _ => False
  | .bastore => match st with
    | .int x :: .int i :: .ref a :: r => (match x_own h a 1 with
      | some (n, f) => vp_in i n ∧ l_put h a (.inl (1, n, .inl (upd f i.toNatClampNeg (vp_nar .byte x)))) (fun h' => k ls r h')
      | none => (match x_own h a 2 with
        | some (n, f) => vp_in i n ∧ l_put h a (.inl (2, n, .inl (upd f i.toNatClampNeg (vp_nar .boolean x)))) (fun h' => k ls r h')
        | none => False))
    | _ => False
  | .aaload => match st with
    | .int i :: .ref a :: r => (match x_refs h a with
      | some (t, n, f) => (t = 3 ∨ t = 4) ∧ vp_in i n ∧ ∃ q, f i.toNatClampNeg = some q ∧ k ls (.ref q :: r) h
      | none => False)
    | _ => False
  | .invokevirtual ix => x_inv P CT d 0 ix ls st h k
  | .invokestatic ix => match a_look P.2.1 ix with
    | some (5, _, _) => x_copy P d ix ls st h k
    | _ => x_inv P CT d 1 ix ls st h k
  | .invokespecial ix => x_inv P CT d 2 ix ls st h k
  | .ireturn => match st with
    | [.int x] => x_ret ty x ∧ RT (some (.int x)) h
    | _ => False
  | .lreturn => match st with
    | [.long x] => ty = some .long ∧ RT (some (.long x)) h
    | _ => False
  | .areturn => match st with
    | [.ref x] => (∃ n, ty = some (.object n)) ∧ RT (some (.ref x)) h
    | _ => False
  | .return_ => match st with
    | [] => ty = none ∧ RT none h
    | _ => False
  | _ => False
/-- at a cut the walk stands: J is asked for -/
def x_next (cuts : List Nat) (J : JP) (t : List Ins) (k : KP) : KP := match t with
  | [] => k
  | (q, _, _) :: _ => bif a_mem q cuts then J q else k
/-- the instructions ahead, one behind another -/
def xs (P : Pool) (CT : CTP) (d nL : Nat) (ty : Option FieldType) (cuts : List Nat) (J : JP) (RT : RP) : List Ins → KP
  | [] => fun _ _ _ => False
  | (pc, i, _) :: t => fun ls st h => x_step P CT d nL ty J RT pc ls st h (x_next cuts J t (xs P CT d nL ty cuts J RT t)) i
def seek (pc : Nat) : List Ins → List Ins
  | [] => []
  | (q, i, n) :: t => bif Nat.beq q pc then (q, i, n) :: t else seek pc t
/-- J stands for all that goes well from a place on -/
def Runs (P : Pool) (CT : CTP) (d nL : Nat) (ty : Option FieldType) (cuts : List Nat) (code : List Ins) (J : JP) (RT : RP) : Prop :=
  ∀ pc ls st h, xs P CT d nL ty cuts J RT (seek pc code) ls st h → J pc ls st h
/-- fewer locals, in any order: by their places -/
def ls_pick (ls : LV) (ks : List Nat) : LV := ks.filterMap (fun k => l_get ls k)
def Drops (J : JP) : Prop := ∀ pc ls ks st h, J pc (ls_pick ls ks) st h → J pc ls st h
/-- a body: from every start whose J is right, by whatever J -/
def Body (P : Pool) (CT : CTP) (d nL : Nat) (ty : Option FieldType) (cuts : List Nat) (code : List Ins) (as : List Value) (h : List AE) (RT : RP) : Prop :=
  ∀ J : JP, Runs P CT d nL ty cuts code J RT → Drops J → J 0 (lv_args 0 as) [] h

/-! sums: the class's by bits, the check's by truths -/
def b2i (b : Bool) : Int32 := if b then nI 1 else nI 0
theorem gb_shl (x : Int32) {j : Nat} (hj : j < 32) : (x <<< (nI 1 &&& 31)).toBitVec.getLsbD j = (decide (1 ≤ j) && x.toBitVec.getLsbD (j - 1)) := by
  rw [Int32.toBitVec_shiftLeft]
  have e : ((nI 1 &&& 31 : Int32).toBitVec.smod 32) = 1#32 := by decide
  rw [e, BitVec.shiftLeft_eq', BitVec.getLsbD_shiftLeft]
  simp only [show (1#32).toNat = 1 from rfl]
  by_cases h : j < 1
  · simp [h, hj]; omega
  · simp [h, hj]; omega
theorem gb_shr (x : Int32) {j : Nat} (hj : j < 31) : (x >>> (nI 1 &&& 31)).toBitVec.getLsbD j = x.toBitVec.getLsbD (j + 1) := by
  rw [Int32.toBitVec_shiftRight]
  have e : ((nI 1 &&& 31 : Int32).toBitVec.smod 32) = 1#32 := by decide
  rw [e, BitVec.sshiftRight_eq', BitVec.getLsbD_sshiftRight]
  simp only [show (1#32).toNat = 1 from rfl]
  have h1 : ¬ 32 ≤ j := by omega
  have h2 : 1 + j < 32 := by omega
  simp [h1, h2, Nat.add_comm]
  intro h
  omega
theorem gb_or (x y : Int32) (j : Nat) : (x ||| y).toBitVec.getLsbD j = (x.toBitVec.getLsbD j || y.toBitVec.getLsbD j) := by
  rw [Int32.toBitVec_or, BitVec.getLsbD_or]
theorem gb_and (x y : Int32) (j : Nat) : (x &&& y).toBitVec.getLsbD j = (x.toBitVec.getLsbD j && y.toBitVec.getLsbD j) := by
  rw [Int32.toBitVec_and, BitVec.getLsbD_and]
theorem gb_xor (x y : Int32) (j : Nat) : (x ^^^ y).toBitVec.getLsbD j = (x.toBitVec.getLsbD j ^^ y.toBitVec.getLsbD j) := by
  rw [Int32.toBitVec_xor, BitVec.getLsbD_xor]
theorem gb_1 : ∀ j, j < 32 → (nI 1).toBitVec.getLsbD j = decide (j = 0) := by decide +kernel
theorem gb_0 (j : Nat) : (nI 0).toBitVec.getLsbD j = false := by
  show (0#32).getLsbD j = false
  simp
theorem gb_m2 : ∀ j, j < 32 → (-nI 2 : Int32).toBitVec.getLsbD j = decide (1 ≤ j) := by decide +kernel
theorem gb_b2i (b : Bool) {j : Nat} (hj : j < 32) : (b2i b).toBitVec.getLsbD j = (decide (j = 0) && b) := by
  cases b
  · show (nI 0).toBitVec.getLsbD j = _
    rw [gb_0]; simp
  · show (nI 1).toBitVec.getLsbD j = _
    rw [gb_1 j hj]; simp
theorem and1 (x : Int32) : x &&& nI 1 = b2i (x.toBitVec.getLsbD 0) := by
  apply Int32.toBitVec_inj.mp
  apply BitVec.eq_of_getLsbD_eq
  intro j hj
  rw [gb_and, gb_1 j hj, gb_b2i _ hj]
  by_cases h : j = 0
  · subst h; simp
  · simp [h]
/-- the bits are the truths, the last one lowest -/
def RB (bi : Int32) (top : Nat) (tr : Fn) : Prop := ∀ j, j < top → tr (top - 1 - j) = b2i (bi.toBitVec.getLsbD j)
theorem RB.nil (bi : Int32) (tr : Fn) : RB bi 0 tr := fun j h => by omega
theorem RB.push {bi : Int32} {top : Nat} {tr : Fn} (h : RB bi top tr) (ht : top < 30) (b : Bool) : RB ((bi <<< (nI 1 &&& 31)) ||| b2i b) (top + 1) (upd tr top (b2i b)) := by
  intro j hj
  rw [gb_or, gb_shl bi (by omega), gb_b2i b (by omega)]
  by_cases z : j = 0
  · subst z
    rw [show top + 1 - 1 - 0 = top by omega, pk_us]; simp
  · rw [pk_un (by omega), show top + 1 - 1 - j = top - 1 - (j - 1) by omega, h (j - 1) (by omega)]
    have : 1 ≤ j := by omega
    simp [z, this]
theorem RB.neg {bi : Int32} {top : Nat} {tr : Fn} (h : RB bi top tr) (h1 : 1 ≤ top) (ht : top < 30) : RB (bi ^^^ nI 1) top (upd tr (top - 1) (b2i (!bi.toBitVec.getLsbD 0))) := by
  intro j hj
  rw [gb_xor, gb_1 j (by omega)]
  by_cases z : j = 0
  · subst z
    rw [show top - 1 - 0 = top - 1 by omega, pk_us]; simp
  · rw [pk_un (by omega), h j hj]; simp [z]
theorem RB.two {bi x : Int32} {top : Nat} {tr : Fn} (h : RB bi top tr) (h1 : 2 ≤ top) (ht : top < 30) : RB (((bi >>> (nI 1 &&& 31)) &&& (-nI 2)) ||| (x &&& nI 1)) (top - 1) (upd tr (top - 2) (b2i (x.toBitVec.getLsbD 0))) := by
  intro j hj
  rw [gb_or, gb_and, gb_shr bi (by omega), gb_m2 j (by omega), and1, gb_b2i _ (by omega)]
  by_cases z : j = 0
  · subst z
    rw [show top - 1 - 1 - 0 = top - 2 by omega, pk_us]; simp
  · rw [pk_un (by omega), show top - 1 - 1 - j = top - 1 - (j + 1) by omega, h (j + 1) (by omega)]
    have : 1 ≤ j := by omega
    simp [z, this]
theorem RB.top {bi : Int32} {top : Nat} {tr : Fn} (h : RB bi top tr) (h1 : 1 ≤ top) : tr (top - 1) = b2i (bi.toBitVec.getLsbD 0) := h 0 (by omega)
theorem RB.top2 {bi : Int32} {top : Nat} {tr : Fn} (h : RB bi top tr) (h1 : 2 ≤ top) : tr (top - 2) = b2i (bi.toBitVec.getLsbD 1) := h 1 (by omega)

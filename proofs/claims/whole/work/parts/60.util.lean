/-! bits of longs and ints -/
def lb (x : Int64) (d : Nat) : Bool := x.toBitVec.getLsbD d
def ib (x : Int) (d : Nat) : Bool := (oi x).toBitVec.getLsbD d
theorem lb_ext {x y : Int64} (h : ∀ i, i < 64 → lb x i = lb y i) : x = y := Int64.toBitVec.inj (BitVec.eq_of_getLsbD_eq (fun i hi => h i hi))
theorem lb_or (x y : Int64) (i : Nat) : lb (x ||| y) i = (lb x i || lb y i) := by simp [lb]
theorem lb_and (x y : Int64) (i : Nat) : lb (x &&& y) i = (lb x i && lb y i) := by simp [lb]
theorem lb_xor (x y : Int64) (i : Nat) : lb (x ^^^ y) i = (lb x i ^^ lb y i) := by simp [lb]
theorem lb_0 (i : Nat) : lb 0 i = false := by simp [lb]
theorem lb_big {x : Int64} {i : Nat} (h : 64 ≤ i) : lb x i = false := BitVec.getLsbD_of_ge _ _ h
theorem lb_m1 {i : Nat} (h : i < 64) : lb (-1) i = true := by
  have e : (-1 : Int64).toBitVec = BitVec.allOnes 64 := by decide
  unfold lb
  rw [e, BitVec.getLsbD_allOnes]
  simp [h]
theorem lb_not {x : Int64} {i : Nat} (h : i < 64) : lb (x ^^^ (-1)) i = !lb x i := by rw [lb_xor, lb_m1 h]; simp
theorem lb_1 (i : Nat) : lb 1 i = decide (i = 0) := by
  have : (1 : Int64).toBitVec = 1#64 := by decide
  simp [lb, this]
theorem sh64 : ∀ k : Nat, k < 64 → (((oi (k : Int)).toInt64 &&& 63).toBitVec.smod 64).toNat = k := by decide +kernel
theorem lShl_bv (x : Int64) {k : Nat} (hk : k < 64) : (lShl x (k : Int)).toBitVec = x.toBitVec <<< k := by
  unfold lShl
  rw [Int64.toBitVec_shiftLeft]
  show x.toBitVec <<< (((oi (k : Int)).toInt64 &&& 63).toBitVec.smod 64) = _
  rw [BitVec.shiftLeft_eq', sh64 k hk]
theorem lShr_bv (x : Int64) {k : Nat} (hk : k < 64) : (lShr x (k : Int)).toBitVec = x.toBitVec.sshiftRight k := by
  unfold lShr
  rw [Int64.toBitVec_shiftRight]
  show x.toBitVec.sshiftRight' (((oi (k : Int)).toInt64 &&& 63).toBitVec.smod 64) = _
  rw [BitVec.sshiftRight_eq', sh64 k hk]
theorem lb_shl1 {k : Nat} (hk : k < 64) {i : Nat} (hi : i < 64) : lb (lShl 1 (k : Int)) i = decide (i = k) := by
  have h1 : (1 : Int64).toBitVec = 1#64 := by decide
  unfold lb
  rw [lShl_bv 1 hk, h1, BitVec.getLsbD_shiftLeft]
  simp only [hi, decide_true, Bool.true_and, BitVec.getLsbD_one]
  by_cases h : i < k
  · simp [h]; omega
  · simp [h]; omega
theorem lb_shr (x : Int64) {k : Nat} (hk : k < 64) {i : Nat} (hi : i < 64) : lb (lShr x (k : Int)) i = if k + i < 64 then lb x (k + i) else lb x 63 := by
  unfold lb
  rw [lShr_bv x hk, BitVec.getLsbD_sshiftRight]
  simp only [show ¬ 64 ≤ i by omega, decide_false, Bool.not_false, Bool.true_and]
  by_cases h : k + i < 64
  · simp [h]
  · simp [h, BitVec.msb_eq_getLsbD_last]
/-- the bit that is asked for -/
theorem lbit (x : Int64) {k : Nat} (hk : k < 64) : (lShr x (k : Int) &&& 1) = if lb x k then 1 else 0 := by
  apply lb_ext
  intro i hi
  rw [lb_and, lb_1, lb_shr x hk hi]
  by_cases h0 : i = 0
  · subst h0
    simp only [Nat.add_zero, hk, if_true, decide_true, Bool.and_true]
    cases lb x k
    · simp [lb_0]
    · simp [lb_1]
  · simp only [h0, decide_false, Bool.and_false]
    cases lb x k
    · simp [lb_0]
    · simp [lb_1, h0]
theorem lbit0 (x : Int64) {k : Nat} (hk : k < 64) : (lShr x (k : Int) &&& 1) = 0 ↔ lb x k = false := by
  rw [lbit x hk]
  cases lb x k <;> simp
theorem lbit1 (x : Int64) {k : Nat} (hk : k < 64) : (lShr x (k : Int) &&& 1) = 1 ↔ lb x k = true := by
  rw [lbit x hk]
  cases lb x k <;> simp
/-- nothing is left from k on -/
theorem lrest0 (x : Int64) {k : Nat} (hk : k < 64) : lShr x (k : Int) = 0 ↔ ∀ i, k ≤ i → lb x i = false := by
  constructor
  · intro h i hi
    by_cases h6 : i < 64
    · have := lb_shr x hk (i := i - k) (by omega)
      rw [h, lb_0] at this
      rw [if_pos (by omega)] at this
      rw [show i = k + (i - k) by omega]
      exact this.symm
    · exact lb_big (by omega)
  · intro h
    apply lb_ext
    intro i hi
    rw [lb_0, lb_shr x hk hi]
    by_cases h6 : k + i < 64
    · rw [if_pos h6]; exact h _ (by omega)
    · rw [if_neg h6]; exact h _ (by omega)
theorem leq0 (x : Int64) : x = 0 ↔ ∀ i, lb x i = false := by
  constructor
  · intro h i; rw [h, lb_0]
  · intro h; exact lb_ext (fun i _ => by rw [h, lb_0])
theorem lUsr_bit (x : Int64) {k : Nat} (hk : k < 64) : (lUsr x (k : Int) &&& 1) = if lb x k then 1 else 0 := by
  have hs : ∀ k : Nat, k < 64 → ((((oi (k : Int)).toInt64.toUInt64 &&& Int64.toUInt64 63)).toBitVec % 64).toNat = k := by decide +kernel
  have hb : (lUsr x (k : Int)).toBitVec = x.toBitVec >>> k := by
    unfold lUsr
    show (x.toUInt64 >>> ((oi (k : Int)).toInt64.toUInt64 &&& Int64.toUInt64 63)).toBitVec = _
    rw [UInt64.toBitVec_shiftRight]
    show x.toBitVec >>> ((((oi (k : Int)).toInt64.toUInt64 &&& Int64.toUInt64 63)).toBitVec % 64) = _
    rw [BitVec.ushiftRight_eq', hs k hk]
  apply lb_ext
  intro i hi
  rw [lb_and, lb_1]
  have h1 : lb (lUsr x (k : Int)) i = lb x (k + i) := by
    unfold lb
    rw [hb, BitVec.getLsbD_ushiftRight]
  rw [h1]
  by_cases h0 : i = 0
  · subst h0
    simp only [Nat.add_zero, decide_true, Bool.and_true]
    cases lb x k
    · simp [lb_0]
    · simp [lb_1]
  · simp only [h0, decide_false, Bool.and_false]
    cases lb x k
    · simp [lb_0]
    · simp [lb_1, h0]
theorem sh32 : ∀ k : Nat, k < 32 → ((oi (k : Int) &&& 31).toBitVec.smod 32).toNat = k := by decide +kernel
theorem ib_of (v : Int32) (i : Nat) : ib v.toInt i = v.toBitVec.getLsbD i := by unfold ib; rw [oi_of]
theorem ib_or (x y : Int) (i : Nat) : ib (iOr x y) i = (ib x i || ib y i) := by
  unfold iOr; rw [ib_of]; simp [ib]
theorem ib_shl1 {k : Nat} (hk : k < 32) {i : Nat} (hi : i < 32) : ib (iShl 1 (k : Int)) i = decide (i = k) := by
  unfold iShl
  rw [ib_of, Int32.toBitVec_shiftLeft]
  show (1#32 <<< ((oi (k : Int) &&& 31).toBitVec.smod 32)).getLsbD i = _
  rw [BitVec.shiftLeft_eq', sh32 k hk, BitVec.getLsbD_shiftLeft]
  simp only [hi, decide_true, Bool.true_and, BitVec.getLsbD_one]
  by_cases h : i < k
  · simp [h]; omega
  · simp [h]; omega
theorem ibit (x : Int) {k : Nat} (hk : k < 32) : iAnd (iShr x (k : Int)) 1 = if ib x k then 1 else 0 := by
  have hb : (oi (iShr x (k : Int))).toBitVec = (oi x).toBitVec.sshiftRight k := by
    unfold iShr
    rw [oi_of, Int32.toBitVec_shiftRight]
    show (oi x).toBitVec.sshiftRight' ((oi (k : Int) &&& 31).toBitVec.smod 32) = _
    rw [BitVec.sshiftRight_eq', sh32 k hk]
  have h1 : (oi (iShr x (k : Int)) &&& oi 1) = if ib x k then 1 else 0 := by
    apply Int32.toBitVec.inj
    apply BitVec.eq_of_getLsbD_eq
    intro i hi
    rw [Int32.toBitVec_and, hb, BitVec.getLsbD_and, BitVec.getLsbD_sshiftRight]
    have ho : (oi 1).toBitVec = 1#32 := by decide
    have h0b : (0 : Int32).toBitVec = 0#32 := by decide
    have h1b : (1 : Int32).toBitVec = 1#32 := by decide
    rw [ho, BitVec.getLsbD_one]
    by_cases h0 : i = 0
    · subst h0
      cases hx : ib x k
      · simp [h0b, hk]; exact hx
      · simp [h1b, hk]; exact hx
    · cases ib x k <;> simp [h0, h0b, h1b]
  unfold iAnd
  rw [h1]
  cases ib x k <;> decide
/-! reading what was written -/
theorem stI_1 (σ : Mm) (k j : Nat) (v : Int) (a b : Nat) : (stI σ k j v).1 a b = if a = k ∧ b = j then v else σ.1 a b := rfl
theorem stI_2 (σ : Mm) (k j : Nat) (v : Int) : (stI σ k j v).2 = σ.2 := rfl
theorem stL_1 (σ : Mm) (k j : Nat) (v : Int64) : (stL σ k j v).1 = σ.1 := rfl
theorem stL_2 (σ : Mm) (k j : Nat) (v : Int64) (a b : Nat) : (stL σ k j v).2 a b = if a = k ∧ b = j then v else σ.2 a b := rfl
theorem cpI_1 (σ : Mm) (k0 k1 sp dp n a b : Nat) : (cpI σ k0 k1 sp dp n).1 a b = if a = k1 ∧ dp ≤ b ∧ b < dp + n then σ.1 k0 (sp + (b - dp)) else σ.1 a b := rfl
theorem cpI_2 (σ : Mm) (k0 k1 sp dp n : Nat) : (cpI σ k0 k1 sp dp n).2 = σ.2 := rfl
theorem bind_s {α β : Type} (a : α) (f : α → Option β) : (some a).bind f = f a := rfl

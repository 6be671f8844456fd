/-! bits of longs -/
def lb (x : Int64) (j : Nat) : Bool := x.toBitVec.getLsbD j
theorem lb_or (x y : Int64) (j : Nat) : lb (x ||| y) j = (lb x j || lb y j) := by
  unfold lb
  rw [Int64.toBitVec_or, BitVec.getLsbD_or]
theorem lb_and (x y : Int64) (j : Nat) : lb (x &&& y) j = (lb x j && lb y j) := by
  unfold lb
  rw [Int64.toBitVec_and, BitVec.getLsbD_and]
theorem lb_xor (x y : Int64) (j : Nat) : lb (x ^^^ y) j = (lb x j ^^ lb y j) := by
  unfold lb
  rw [Int64.toBitVec_xor, BitVec.getLsbD_xor]
theorem lb_0 (j : Nat) : lb 0 j = false := by
  unfold lb
  simp
theorem lb_big {x : Int64} {j : Nat} (h : 64 ≤ j) : lb x j = false := by
  unfold lb
  exact BitVec.getLsbD_of_ge _ _ h
theorem lb_ext {x y : Int64} (h : ∀ j, lb x j = lb y j) : x = y := by
  apply Int64.toBitVec_inj.mp
  apply BitVec.eq_of_getLsbD_eq
  intro j _
  exact h j
theorem lb_eq0 {x : Int64} : x = 0 ↔ ∀ j, lb x j = false := ⟨fun h j => by rw [h, lb_0], fun h => lb_ext (fun j => by rw [h j, lb_0])⟩
theorem lb_ne0 {x : Int64} : ¬ x = 0 ↔ ∃ j, lb x j = true := by
  rw [lb_eq0]
  constructor
  · intro h
    apply Classical.byContradiction
    intro h2
    exact h (fun j => by
      cases hj : lb x j with
      | false => rfl
      | true => exact absurd ⟨j, hj⟩ h2)
  · rintro ⟨j, hj⟩ h
    rw [h j] at hj
    cases hj
theorem lb_ushr1 (x : Int64) (j : Nat) : lb ((x.toUInt64 >>> ((1 : Int32).toInt64.toUInt64 &&& Int64.toUInt64 63)).toInt64) j = lb x (j + 1) := by
  have e : ((1 : Int32).toInt64.toUInt64 &&& Int64.toUInt64 63) = 1 := by decide
  rw [e]
  unfold lb
  have e2 : ((x.toUInt64 >>> (1 : UInt64)).toInt64).toBitVec = x.toBitVec >>> 1 := by
    show (x.toUInt64 >>> (1 : UInt64)).toBitVec = _
    rw [UInt64.toBitVec_shiftRight]
    rfl
  rw [e2, BitVec.getLsbD_ushiftRight, Nat.add_comm]
theorem lb_and1 (x : Int64) : (x &&& 1) = 0 ↔ lb x 0 = false := by
  have h1 : ∀ j, lb (1 : Int64) j = decide (j = 0) := by
    intro j
    unfold lb
    show (1#64).getLsbD j = _
    rw [BitVec.getLsbD_one]
    by_cases h : j = 0 <;> simp [h]
  rw [lb_eq0]
  constructor
  · intro h
    have := h 0
    rw [lb_and, h1] at this
    simpa using this
  · intro h j
    rw [lb_and, h1]
    by_cases hj : j = 0
    · rw [hj, h]; rfl
    · simp [hj]
/-- the bit k -/
theorem lb_shl {k : Nat} (hk : k < 64) (j : Nat) : lb ((1 : Int64) <<< ((nI k).toInt64 &&& 63)) j = decide (j = k) := by
  have e : ∀ k, k < 64 → ((1 : Int64) <<< ((nI k).toInt64 &&& 63)).toBitVec = BitVec.twoPow 64 k := by decide +kernel
  unfold lb
  rw [e k hk, BitVec.getLsbD_twoPow]
  by_cases h : j = k
  · subst h; simp [hk]
  · simp [h, Ne.symm h]
theorem lb_ushrk {k : Nat} (hk : k < 64) (x : Int64) (j : Nat) : lb ((x.toUInt64 >>> ((nI k).toInt64.toUInt64 &&& Int64.toUInt64 63)).toInt64) j = lb x (j + k) := by
  have e : ∀ k, k < 64 → ((nI k).toInt64.toUInt64 &&& Int64.toUInt64 63).toBitVec % 64#64 = BitVec.ofNat 64 k := by decide +kernel
  unfold lb
  have e2 : ((x.toUInt64 >>> ((nI k).toInt64.toUInt64 &&& Int64.toUInt64 63)).toInt64).toBitVec = x.toBitVec >>> k := by
    show (x.toUInt64 >>> _).toBitVec = _
    rw [UInt64.toBitVec_shiftRight]
    show x.toBitVec >>> (_ % 64#64) = _
    rw [e k hk]
    show x.toBitVec >>> (BitVec.ofNat 64 k).toNat = _
    rw [BitVec.toNat_ofNat, Nat.mod_eq_of_lt (by omega)]
  rw [e2, BitVec.getLsbD_ushiftRight, Nat.add_comm]

/-! Sets of points as bits. -/
def zz_bit (m : Int) (p : Nat) : Prop := (BitVec.ofInt 32 m).getLsbD p = true
theorem zz_bvI (z : Int32) : BitVec.ofInt 32 z.toInt = z.toBitVec := BitVec.ofInt_toInt
theorem zz_bit_and {x y : Int} {p : Nat} : zz_bit (qq_and x y) p ↔ zz_bit x p ∧ zz_bit y p := by
  unfold zz_bit qq_and
  rw [zz_bvI, Int32.toBitVec_and, BitVec.getLsbD_and, Int32.toBitVec_ofInt, Int32.toBitVec_ofInt, Bool.and_eq_true]
theorem zz_bit_or {x y : Int} {p : Nat} : zz_bit (qq_or x y) p ↔ zz_bit x p ∨ zz_bit y p := by
  unfold zz_bit qq_or
  rw [zz_bvI, Int32.toBitVec_or, BitVec.getLsbD_or, Int32.toBitVec_ofInt, Int32.toBitVec_ofInt, Bool.or_eq_true]
theorem zz_bit_m1 {p : Nat} : zz_bit (-1) p ↔ p < 32 := by
  unfold zz_bit
  rw [show BitVec.ofInt 32 (-1) = BitVec.allOnes 32 by decide, BitVec.getLsbD_allOnes]
  simp
theorem zz_bit_0 {p : Nat} : ¬ zz_bit 0 p := by
  unfold zz_bit
  rw [show BitVec.ofInt 32 0 = 0#32 by decide]
  simp
theorem zz_bit_lt {m : Int} {p : Nat} (h : zz_bit m p) : p < 32 := BitVec.lt_of_getLsbD h
theorem zz_bit_not {x : Int} {p : Nat} (hp : p < 32) : zz_bit (qq_xor x (-1)) p ↔ ¬ zz_bit x p := by
  unfold zz_bit qq_xor
  rw [zz_bvI, Int32.toBitVec_xor, BitVec.getLsbD_xor, Int32.toBitVec_ofInt, Int32.toBitVec_ofInt, show BitVec.ofInt 32 (-1) = BitVec.allOnes 32 by decide, BitVec.getLsbD_allOnes]
  simp [hp]
theorem zz_shl1 : ∀ k : Fin 32, BitVec.ofInt 32 (qq_shl 1 (k.val : Int)) = BitVec.twoPow 32 k.val := by decide +kernel
theorem zz_bit_shl {y : Int} {p : Nat} (hy : 0 ≤ y ∧ y < 32) : zz_bit (qq_shl 1 y) p ↔ (p : Int) = y := by
  have e := zz_shl1 ⟨y.toNat, by omega⟩
  have e2 : ((y.toNat : Nat) : Int) = y := by omega
  simp only [e2] at e
  unfold zz_bit
  rw [e, BitVec.getLsbD_twoPow]
  simp
  omega
/-- nothing in common -/
theorem zz_bit_dis {x y : Int} : qq_and x y = 0 ↔ ∀ p : Nat, ¬ (zz_bit x p ∧ zz_bit y p) := by
  constructor
  · intro h p hp
    have := zz_bit_and.mpr hp
    rw [h] at this
    exact zz_bit_0 this
  · intro h
    have e : BitVec.ofInt 32 (qq_and x y) = 0#32 := by
      apply BitVec.eq_of_getLsbD_eq
      intro i hi
      have := fun z => h i (zz_bit_and.mp z)
      unfold zz_bit at this
      simp only [BitVec.getLsbD_zero]
      cases hh : (BitVec.ofInt 32 (qq_and x y)).getLsbD i
      · rfl
      · exact absurd hh this
    unfold qq_and at e ⊢
    rw [zz_bvI] at e
    show (Int32.ofInt x &&& Int32.ofInt y).toBitVec.toInt = 0
    rw [e]
    rfl
theorem zz_bit_shr {m y : Int} (hy : 0 ≤ y ∧ y < 32) : qq_and (qq_shr m y) 1 = 0 ↔ ¬ zz_bit m y.toNat := by
  have e1 : zz_bit (qq_shr m y) 0 ↔ zz_bit m y.toNat := by
    unfold zz_bit qq_shr
    rw [zz_bvI]
    have e : ∀ k : Fin 32, ((Int32.ofInt (k.val : Int) &&& 31).toBitVec.smod 32).toNat = k.val := by decide +kernel
    have e := e ⟨y.toNat, by omega⟩
    have e2 : ((y.toNat : Nat) : Int) = y := by omega
    simp only [e2] at e
    rw [Int32.toBitVec_shiftRight]
    rw [BitVec.sshiftRight_eq', BitVec.getLsbD_sshiftRight, e, Int32.toBitVec_ofInt]
    simp
    omega
  have b1 : ∀ p : Nat, zz_bit 1 p ↔ p = 0 := fun p => by
    have := zz_bit_shl (y := 0) (p := p) (by omega)
    rw [show qq_shl 1 0 = 1 by decide +kernel] at this
    rw [this]
    omega
  rw [zz_bit_dis]
  constructor
  · intro z w
    exact z 0 ⟨e1.mpr w, (b1 0).mpr rfl⟩
  · intro z p w
    rw [(b1 p).mp w.2] at w
    exact z (e1.mp w.1)

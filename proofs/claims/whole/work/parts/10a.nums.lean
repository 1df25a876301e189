/-! own arithmetic: ints that are small numbers -/
theorem z_toInt {n : Nat} (h : n < 2147483648) : (Int32.ofNat n).toInt = n := by
  exact Int32.toInt_ofNat_of_lt (by omega)
theorem z_ix {n : Nat} (h : n < 2147483648) : (Int32.ofNat n).toNatClampNeg = n := by
  show ((Int32.ofNat n).toInt).toNat = n
  rw [z_toInt h]; omega
theorem z_lt {a b : Nat} (ha : a < 2147483648) (hb : b < 2147483648) : (Int32.ofNat a < Int32.ofNat b) ↔ a < b := by
  rw [Int32.lt_iff_toInt_lt, z_toInt ha, z_toInt hb]; omega
theorem z_le {a b : Nat} (ha : a < 2147483648) (hb : b < 2147483648) : (Int32.ofNat a ≤ Int32.ofNat b) ↔ a ≤ b := by
  rw [Int32.le_iff_toInt_le, z_toInt ha, z_toInt hb]; omega
theorem z_eq {a b : Nat} (ha : a < 2147483648) (hb : b < 2147483648) : (Int32.ofNat a = Int32.ofNat b) ↔ a = b := by
  rw [← Int32.toInt_inj, z_toInt ha, z_toInt hb]; omega
theorem z_add (a b : Nat) : Int32.ofNat a + Int32.ofNat b = Int32.ofNat (a + b) := (Int32.ofNat_add a b).symm
theorem z_mul (a b : Nat) : Int32.ofNat a * Int32.ofNat b = Int32.ofNat (a * b) := (Int32.ofNat_mul a b).symm
theorem z_succ (a : Nat) : Int32.ofNat a + 1 = Int32.ofNat (a + 1) := z_add a 1
theorem z_nn {n : Nat} (h : n < 2147483648) : ¬ (Int32.ofNat n < 0) := by
  rw [show (0 : Int32) = Int32.ofNat 0 from rfl, z_lt h (by omega)]; omega
theorem z_sub {a b : Nat} (h : b ≤ a) : Int32.ofNat a - Int32.ofNat b = Int32.ofNat (a - b) := by
  have e : Int32.ofNat a = Int32.ofNat (a - b) + Int32.ofNat b := by rw [z_add, Nat.sub_add_cancel h]
  rw [e, Int32.add_sub_cancel]
theorem z_in {i m : Nat} (h : i < 2147483648) : nh_in (Int32.ofNat i) m = decide (i < m) := by
  unfold nh_in
  rw [z_ix h]
  have := z_nn h
  by_cases hm : i < m
  · simp [this, hm]
  · simp [this, hm]
theorem z_cases (x : Int32) : x < 0 ∨ ∃ k : Nat, x = Int32.ofNat k ∧ k < 2147483648 := by
  by_cases h : x < 0
  · exact Or.inl h
  · right
    have h0 : (0 : Int) ≤ x.toInt := by
      rw [Int32.lt_iff_toInt_lt, Int32.toInt_zero] at h; omega
    have h1 : x.toInt < 2147483648 := by have := Int32.toInt_lt x; omega
    refine ⟨x.toInt.toNat, ?_, by omega⟩
    rw [← Int32.toInt_inj, z_toInt (by omega)]; omega
/-- a thing as a number, 6 for nothing: as the class holds it -/
def cH (h : Nat) : Int32 := if h = 6 then -9 else Int32.ofNat h
theorem cH_lt {h : Nat} (hh : h < 6) : cH h = Int32.ofNat h := by unfold cH; rw [if_neg (by omega)]
theorem z_set : ∀ k : Nat, k < 64 → ∀ s : Nat, s < 6 → (Int32.ofNat k >>> (Int32.ofNat s &&& 31) &&& 1) = if k.testBit s then 1 else 0 := by decide +kernel
theorem z_or : ∀ k : Nat, k < 64 → ∀ s : Nat, s < 6 → (Int32.ofNat k ||| ((1 : Int32) <<< (Int32.ofNat s &&& 31))) = Int32.ofNat (k ||| 2 ^ s) := by decide +kernel
theorem z_bit : ∀ s : Nat, s < 6 → ((1 : Int32) <<< (Int32.ofNat s &&& 31)) = Int32.ofNat (2 ^ s) := by decide +kernel
theorem z_oro : ∀ k : Nat, k < 64 → ∀ j : Nat, j < 64 → (Int32.ofNat k ||| Int32.ofNat j) = Int32.ofNat (k ||| j) := by decide +kernel
theorem z_or_lt : ∀ k : Nat, k < 64 → ∀ s : Nat, s < 6 → k ||| 2 ^ s < 64 := by decide +kernel
theorem z_off : ∀ k : Nat, k < 64 → ∀ s : Nat, s < 6 → k.testBit s = false → (Int32.ofNat (k ||| 2 ^ s) &&& (Int32.ofNat (2 ^ s) ^^^ (-1))) = Int32.ofNat k := by decide +kernel

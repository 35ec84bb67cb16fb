/-! numbers of the functions as natural numbers -/
theorem on_lit (k : Nat) : (OfNat.ofNat k : Int32) = nI k := rfl
theorem on_m1 : (-1 : Int32).toInt = -1 := by decide
theorem on_toInt {a : Nat} (h : a < 2 ^ 31) : (nI a).toInt = (a : Int) := nI_toInt h
theorem on_sub {a b : Nat} (h : b ≤ a) : nI a - nI b = nI (a - b) := by
  have h1 : nI a = nI (a - b) + nI b := by rw [nI_add, Nat.sub_add_cancel h]
  rw [h1]
  exact Int32.add_sub_cancel _ _
theorem on_mul (a b : Nat) : nI a * nI b = nI (a * b) := (Int32.ofNat_mul a b).symm
theorem on_ltm1 {a : Nat} (h : a < 2 ^ 31) : ¬ nI a = (-1 : Int32) := fun q => by
  have h1 := congrArg Int32.toInt q
  rw [on_toInt h, on_m1] at h1
  omega
theorem on_in {a N : Nat} (h : a < N) (hN : N < 2 ^ 31) : oa_in (nI a) N = true := decide_eq_true (nI_in h hN)
theorem on_bv (a : Nat) : (nI a).toBitVec = BitVec.ofNat 32 a := rfl
theorem on_inj {x y : Int32} (h : x.toBitVec = y.toBitVec) : x = y := Int32.toBitVec_inj.mp h
theorem on_and (a b : Nat) : nI a &&& nI b = nI (a &&& b) := on_inj (by
  rw [Int32.toBitVec_and, on_bv, on_bv, on_bv]
  apply BitVec.eq_of_toNat_eq
  simp [BitVec.toNat_and, BitVec.toNat_ofNat, Nat.and_mod_two_pow])
theorem on_or (a b : Nat) : nI a ||| nI b = nI (a ||| b) := on_inj (by
  rw [Int32.toBitVec_or, on_bv, on_bv, on_bv]
  apply BitVec.eq_of_toNat_eq
  simp [BitVec.toNat_or, BitVec.toNat_ofNat, Nat.or_mod_two_pow])
theorem on_xor (a b : Nat) : nI a ^^^ nI b = nI (a ^^^ b) := on_inj (by
  rw [Int32.toBitVec_xor, on_bv, on_bv, on_bv]
  apply BitVec.eq_of_toNat_eq
  simp [BitVec.toNat_xor, BitVec.toNat_ofNat, Nat.xor_mod_two_pow])
theorem on_m1n : (-1 : Int32) = nI (2 ^ 32 - 1) := by decide
theorem on_and31 {m : Nat} (h : m < 32) : nI m &&& 31 = nI m := by
  rw [on_lit, on_and, show m &&& 31 = m % 2 ^ 5 from Nat.and_two_pow_sub_one_eq_mod m 5, Nat.mod_eq_of_lt h]
theorem on_smod : ∀ m : Fin 32, ((BitVec.ofNat 32 m.val).smod 32#32).toNat = m.val := by decide
theorem on_shl (a : Nat) {m : Nat} (h : m < 32) : nI a <<< (nI m &&& 31) = nI (a * 2 ^ m) := by
  rw [on_and31 h]
  refine on_inj ?_
  apply BitVec.eq_of_toNat_eq
  rw [Int32.toBitVec_shiftLeft]
  have h1 : ((BitVec.ofNat 32 m).smod 32#32).toNat = m := on_smod ⟨m, h⟩
  simp [on_bv, h1, BitVec.toNat_ofNat, Nat.shiftLeft_eq]
theorem on_shr {a m : Nat} (ha : a < 2 ^ 31) (h : m < 32) : nI a >>> (nI m &&& 31) = nI (a / 2 ^ m) := by
  rw [on_and31 h]
  refine on_inj ?_
  apply BitVec.eq_of_toNat_eq
  rw [Int32.toBitVec_shiftRight]
  have h1 : ((BitVec.ofNat 32 m).smod 32#32).toNat = m := on_smod ⟨m, h⟩
  have h2 : (BitVec.ofNat 32 a).msb = false := by
    rw [BitVec.msb_eq_false_iff_two_mul_lt, BitVec.toNat_ofNat]
    omega
  have h3 : a % 2 ^ 32 = a := Nat.mod_eq_of_lt (by omega)
  have h4 : a / 2 ^ m % 2 ^ 32 = a / 2 ^ m := Nat.mod_eq_of_lt (Nat.lt_of_le_of_lt (Nat.div_le_self _ _) (by omega))
  rw [on_bv, on_bv, on_bv]
  show ((BitVec.ofNat 32 a).sshiftRight ((BitVec.ofNat 32 m).smod 32#32).toNat).toNat = _
  rw [h1, BitVec.sshiftRight_eq_of_msb_false h2, BitVec.toNat_ushiftRight, BitVec.toNat_ofNat, BitVec.toNat_ofNat, h3, h4, Nat.shiftRight_eq_div_pow]
theorem on_div {a b : Nat} (ha : a < 2 ^ 31) (hb : b < 2 ^ 31) : nI a / nI b = nI (a / b) := by
  have h1 := Nat.div_le_self a b
  refine Int32.toInt_inj.mp ?_
  rw [Int32.toInt_div, on_toInt ha, on_toInt hb, on_toInt (Nat.lt_of_le_of_lt h1 ha), ← Int.ofNat_tdiv]
  generalize a / b = q at h1 ⊢
  exact Int.bmod_eq_of_le (by omega) (by omega)
theorem on_rem {a b : Nat} (ha : a < 2 ^ 31) (hb : b < 2 ^ 31) : oa_rem (nI a) (nI b) = nI (a % b) := by
  show nI a - nI a / nI b * nI b = _
  rw [on_div ha hb, on_mul, on_sub (Nat.div_mul_le_self a b)]
  congr 1
  have h1 := Nat.div_add_mod a b
  rw [Nat.mul_comm] at h1
  omega
theorem on_nz {b : Bool} : oa_nz (if b then 1 else 0) = (if b then 1 else 0) := by cases b <;> rfl
theorem on_nc {a : Nat} (h : a < 65536) : oa_nc (nI a) = nI a := by
  show (nI a).toUInt32.toUInt16.toUInt32.toInt32 = nI a
  refine on_inj ?_
  apply BitVec.eq_of_toNat_eq
  have h1 : a % 4294967296 = a := Nat.mod_eq_of_lt (by omega)
  have h2 : a % 65536 = a := Nat.mod_eq_of_lt h
  simp [on_bv, BitVec.toNat_setWidth, BitVec.toNat_ofNat, h1, h2]
theorem on_i2c {a : Nat} (h : a < 65536) : oa_i2c (nI a) = nI a := by
  show ((nI a).toUInt32 % 65536).toInt32 = nI a
  refine on_inj ?_
  apply BitVec.eq_of_toNat_eq
  have h1 : a % 4294967296 = a := Nat.mod_eq_of_lt (by omega)
  have h2 : a % 65536 = a := Nat.mod_eq_of_lt h
  simp [on_bv, BitVec.toNat_umod, BitVec.toNat_ofNat, h1, h2]
theorem on_i2cn (x : Int32) : ∃ a : Nat, a < 65536 ∧ oa_i2c x = nI a := by
  refine ⟨x.toUInt32.toNat % 65536, Nat.mod_lt _ (by decide), ?_⟩
  refine on_inj ?_
  apply BitVec.eq_of_toNat_eq
  have h1 : x.toUInt32.toNat % 65536 % 4294967296 = x.toUInt32.toNat % 65536 := Nat.mod_eq_of_lt (by omega)
  rw [on_bv, BitVec.toNat_ofNat, h1]
  simp [oa_i2c]
  rfl
theorem on_ncr {a : Nat} (h : a < 65536) : vp_nar .char (nI a) = nI a := on_nc h
theorem ob_d {α : Type} (r : Int32) (M : oa_M) (k : Int32 → oa_M → Option α) : oa_bd (some (r, M)) k = k r M := rfl
theorem ob_v {α : Type} (M : oa_M) (k : oa_M → Option α) : oa_bv (some M) k = k M := rfl
theorem ob_x0 (M : oa_M) (k : oa_M → Option (Nat × Int32 × oa_M)) : oa_bx (some (0, M)) k = k M := rfl

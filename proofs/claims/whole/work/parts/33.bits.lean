/-! counting bits -/
theorem ob_ushr {a k : Nat} (ha : a < 2 ^ 31) (hk : k < 32) : oa_ushr (nI a) (nI k) = nI (a / 2 ^ k) := by
  refine on_inj ?_
  apply BitVec.eq_of_toNat_eq
  have h1 : a % 4294967296 = a := Nat.mod_eq_of_lt (by omega)
  have h2 : a / 2 ^ k % 4294967296 = a / 2 ^ k := Nat.mod_eq_of_lt (Nat.lt_of_le_of_lt (Nat.div_le_self _ _) (by omega))
  have h3 : (nI k).toUInt32 &&& Int32.toUInt32 31 = (nI k).toUInt32 := by
    have := on_and31 hk
    have h4 := congrArg Int32.toUInt32 this
    rw [Int32.toUInt32_and] at h4
    exact h4
  have h5 : k % 4294967296 % 32 = k := by omega
  show ((nI a).toUInt32 >>> ((nI k).toUInt32 &&& Int32.toUInt32 31)).toInt32.toBitVec.toNat = _
  rw [h3]
  simp [on_bv, BitVec.toNat_ofNat, h1, h2, h5, Nat.shiftRight_eq_div_pow]
theorem ob_land {u v p q : Nat} (hv : v < 256) (hq : q < 256) : (256 * u + v) &&& (256 * p + q) = 256 * (u &&& p) + (v &&& q) := by
  have hvq : v &&& q < 2 ^ 8 := Nat.and_lt_two_pow v hq
  apply Nat.eq_of_testBit_eq
  intro j
  rw [Nat.testBit_and, show (256 : Nat) = 2 ^ 8 from rfl, Nat.testBit_two_pow_mul_add _ (show v < 2 ^ 8 from hv), Nat.testBit_two_pow_mul_add _ (show q < 2 ^ 8 from hq), Nat.testBit_two_pow_mul_add _ hvq]
  by_cases h : j < 8
  · rw [if_pos h, if_pos h, if_pos h, Nat.testBit_and]
  · rw [if_neg h, if_neg h, if_neg h, Nat.testBit_and]
def ob_h (b : Nat) : Nat := b / 2 &&& 85
def ob_g1 (b : Nat) : Nat := b - ob_h b
def ob_g2 (c : Nat) : Nat := (c &&& 51) + (c / 4 &&& 51)
def ob_g3 (d : Nat) : Nat := d + d / 16 &&& 15
def ob_pc (b : Nat) : Nat := ob_g3 (ob_g2 (ob_g1 b))
theorem ob_c1 : ∀ t, t < 2 → ∀ b, b < 256 → (128 * t + b / 2) &&& 85 = ob_h b := by decide +kernel
theorem ob_c2 : ∀ b, b < 256 → (b / 2 &&& 21845) = ob_h b ∧ ob_h b ≤ b := by decide +kernel
theorem ob_c3 : ∀ t, t < 4 → ∀ c, c < 256 → (64 * t + c / 4) &&& 51 = (c / 4 &&& 51) := by decide +kernel
theorem ob_c4 : ∀ c, c < 256 → (c &&& 13107) = (c &&& 51) ∧ (c / 4 &&& 13107) = (c / 4 &&& 51) := by decide +kernel
theorem ob_c5 : ∀ b, b < 256 → ob_g1 b < 256 ∧ ob_g2 (ob_g1 b) ≤ 68 ∧ ob_g2 (ob_g1 b) % 16 ≤ 4 ∧ ob_pc b ≤ 8 := by decide +kernel
theorem ob_c6 : ∀ t, t < 5 → ∀ d, d < 69 → (d + d / 16 + 16 * t) &&& 15 = ob_g3 d := by decide +kernel
theorem ob_c7 : ∀ d, d < 69 → (d + d / 16 &&& 3855) = ob_g3 d := by decide +kernel
theorem ob_c8 : ∀ p0 p1 p2 p3 p4 p5 p6 p7 : Bool, ob_pc (128 * p0.toNat + 64 * p1.toNat + 32 * p2.toNat + 16 * p3.toNat + 8 * p4.toNat + 4 * p5.toNat + 2 * p6.toNat + p7.toNat) = p0.toNat + p1.toNat + p2.toNat + p3.toNat + p4.toNat + p5.toNat + p6.toNat + p7.toNat := by decide +kernel
theorem ob_s1 {b0 b1 b2 : Nat} (h0 : b0 < 256) (h1 : b1 < 256) (h2 : b2 < 256) : (256 * (256 * b2 + b1) + b0) - ((256 * (256 * b2 + b1) + b0) / 2 &&& 1431655765) = 256 * (256 * ob_g1 b2 + ob_g1 b1) + ob_g1 b0 := by
  rw [show (256 * (256 * b2 + b1) + b0) / 2 = 256 * (256 * (b2 / 2) + (128 * (b2 % 2) + b1 / 2)) + (128 * (b1 % 2) + b0 / 2) by omega, show (1431655765 : Nat) = 256 * (256 * 21845 + 85) + 85 from rfl, ob_land (by omega) (by decide), ob_land (by omega) (by decide), ob_c1 _ (by omega) _ h0, ob_c1 _ (by omega) _ h1, (ob_c2 _ h2).1]
  have e0 := (ob_c2 _ h0).2
  have e1 := (ob_c2 _ h1).2
  have e2 := (ob_c2 _ h2).2
  unfold ob_g1
  omega
theorem ob_s2 {c0 c1 c2 : Nat} (h0 : c0 < 256) (h1 : c1 < 256) (h2 : c2 < 256) : ((256 * (256 * c2 + c1) + c0) &&& 858993459) + ((256 * (256 * c2 + c1) + c0) / 4 &&& 858993459) = 256 * (256 * ob_g2 c2 + ob_g2 c1) + ob_g2 c0 := by
  rw [show (256 * (256 * c2 + c1) + c0) / 4 = 256 * (256 * (c2 / 4) + (64 * (c2 % 4) + c1 / 4)) + (64 * (c1 % 4) + c0 / 4) by omega, show (858993459 : Nat) = 256 * (256 * 13107 + 51) + 51 from rfl, ob_land h0 (by decide), ob_land h1 (by decide), ob_land (by omega) (by decide), ob_land (by omega) (by decide), ob_c3 _ (by omega) _ h0, ob_c3 _ (by omega) _ h1, (ob_c4 _ h2).1, (ob_c4 _ h2).2]
  unfold ob_g2
  omega
theorem ob_s3 {d0 d1 d2 : Nat} (h0 : d0 ≤ 68) (h1 : d1 ≤ 68) (h2 : d2 ≤ 68) (k1 : d1 % 16 ≤ 4) (k2 : d2 % 16 ≤ 4) : ((256 * (256 * d2 + d1) + d0) + (256 * (256 * d2 + d1) + d0) / 16 &&& 252645135) = 256 * (256 * ob_g3 d2 + ob_g3 d1) + ob_g3 d0 := by
  rw [show (256 * (256 * d2 + d1) + d0) + (256 * (256 * d2 + d1) + d0) / 16 = 256 * (256 * (d2 + d2 / 16) + (d1 + d1 / 16 + 16 * (d2 % 16))) + (d0 + d0 / 16 + 16 * (d1 % 16)) by omega, show (252645135 : Nat) = 256 * (256 * 3855 + 15) + 15 from rfl, ob_land (by omega) (by decide), ob_land (by omega) (by decide), ob_c6 _ (by omega) _ (by omega), ob_c6 _ (by omega) _ (by omega), ob_c7 _ (by omega)]
theorem ob_count (n : Nat) {b0 b1 b2 : Nat} (h0 : b0 < 256) (h1 : b1 < 256) (h2 : b2 < 256) (M : oa_M) : FJ6_bitCount_0f7a4 n (nI (256 * (256 * b2 + b1) + b0)) M = some (nI (ob_pc b0 + ob_pc b1 + ob_pc b2), M) := by
  obtain ⟨p0, q0, r0, t0⟩ := ob_c5 _ h0
  obtain ⟨p1, q1, r1, t1⟩ := ob_c5 _ h1
  obtain ⟨p2, q2, r2, t2⟩ := ob_c5 _ h2
  have hx : 256 * (256 * b2 + b1) + b0 < 2 ^ 31 := by omega
  generalize hxe : 256 * (256 * b2 + b1) + b0 = x at hx ⊢
  have a1 : nI x - ((oa_ushr (nI x) (1 : Int32)) &&& (1431655765 : Int32)) = nI (256 * (256 * ob_g1 b2 + ob_g1 b1) + ob_g1 b0) := by
    rw [show (1 : Int32) = nI 1 from rfl, ob_ushr hx (by decide), show (1431655765 : Int32) = nI 1431655765 from rfl, on_and, on_sub, ← ob_s1 h0 h1 h2, hxe]
    rw [Nat.pow_one]
    exact Nat.le_trans Nat.and_le_left (Nat.div_le_self _ _)
  have a2 : (nI (256 * (256 * ob_g1 b2 + ob_g1 b1) + ob_g1 b0) &&& (858993459 : Int32)) + ((oa_ushr (nI (256 * (256 * ob_g1 b2 + ob_g1 b1) + ob_g1 b0)) (2 : Int32)) &&& (858993459 : Int32)) = nI (256 * (256 * ob_g2 (ob_g1 b2) + ob_g2 (ob_g1 b1)) + ob_g2 (ob_g1 b0)) := by
    rw [show (2 : Int32) = nI 2 from rfl, ob_ushr (by omega) (by decide), show (858993459 : Int32) = nI 858993459 from rfl, on_and, on_and, nI_add, show (2 : Nat) ^ 2 = 4 from rfl, ob_s2 p0 p1 p2]
  have a3 : (nI (256 * (256 * ob_g2 (ob_g1 b2) + ob_g2 (ob_g1 b1)) + ob_g2 (ob_g1 b0)) + (oa_ushr (nI (256 * (256 * ob_g2 (ob_g1 b2) + ob_g2 (ob_g1 b1)) + ob_g2 (ob_g1 b0))) (4 : Int32))) &&& (252645135 : Int32) = nI (256 * (256 * ob_pc b2 + ob_pc b1) + ob_pc b0) := by
    rw [show (4 : Int32) = nI 4 from rfl, ob_ushr (by omega) (by decide), show (252645135 : Int32) = nI 252645135 from rfl, nI_add, on_and, show (2 : Nat) ^ 4 = 16 from rfl, ob_s3 q0 q1 q2 r1 r2]
    rfl
  have a4 : nI (256 * (256 * ob_pc b2 + ob_pc b1) + ob_pc b0) + (oa_ushr (nI (256 * (256 * ob_pc b2 + ob_pc b1) + ob_pc b0)) (8 : Int32)) = nI (256 * (256 * ob_pc b2 + (ob_pc b1 + ob_pc b2)) + (ob_pc b0 + ob_pc b1)) := by
    rw [show (8 : Int32) = nI 8 from rfl, ob_ushr (by omega) (by decide), nI_add, show (2 : Nat) ^ 8 = 256 from rfl]
    congr 1
    omega
  have a5 : nI (256 * (256 * ob_pc b2 + (ob_pc b1 + ob_pc b2)) + (ob_pc b0 + ob_pc b1)) + (oa_ushr (nI (256 * (256 * ob_pc b2 + (ob_pc b1 + ob_pc b2)) + (ob_pc b0 + ob_pc b1))) (16 : Int32)) = nI (256 * (256 * ob_pc b2 + (ob_pc b1 + ob_pc b2)) + (ob_pc b0 + ob_pc b1 + ob_pc b2)) := by
    rw [show (16 : Int32) = nI 16 from rfl, ob_ushr (by omega) (by decide), nI_add, show (2 : Nat) ^ 16 = 65536 from rfl]
    congr 1
    omega
  unfold FJ6_bitCount_0f7a4
  rw [a1, a2, a3, a4, a5, show (63 : Int32) = nI 63 from rfl, on_and, show ∀ y : Nat, y &&& 63 = y % 2 ^ 6 from fun y => Nat.and_two_pow_sub_one_eq_mod y 6, show (256 * (256 * ob_pc b2 + (ob_pc b1 + ob_pc b2)) + (ob_pc b0 + ob_pc b1 + ob_pc b2)) % 2 ^ 6 = ob_pc b0 + ob_pc b1 + ob_pc b2 by omega]
theorem ob_if (p : Bool) (m : Nat) : (if p then m else 0) = m * p.toNat := by cases p <;> simp
theorem ob_if1 (p : Bool) : (if p then 1 else 0) = p.toNat := by cases p <;> rfl
set_option maxRecDepth 100000 in
theorem ob_bits24 (n : Nat) (P : Nat → Bool) (M : oa_M) : FJ6_bitCount_0f7a4 n (nI (os_bits P 24)) M = some (nI (os_cnt P 24), M) := by
  have hb : ∀ k : Nat, (P k).toNat ≤ 1 := fun k => by cases P k <;> decide
  have e : os_bits P 24 = 256 * (256 * (128 * (P 0).toNat + 64 * (P 1).toNat + 32 * (P 2).toNat + 16 * (P 3).toNat + 8 * (P 4).toNat + 4 * (P 5).toNat + 2 * (P 6).toNat + (P 7).toNat) + (128 * (P 8).toNat + 64 * (P 9).toNat + 32 * (P 10).toNat + 16 * (P 11).toNat + 8 * (P 12).toNat + 4 * (P 13).toNat + 2 * (P 14).toNat + (P 15).toNat)) + (128 * (P 16).toNat + 64 * (P 17).toNat + 32 * (P 18).toNat + 16 * (P 19).toNat + 8 * (P 20).toNat + 4 * (P 21).toNat + 2 * (P 22).toNat + (P 23).toNat) := by
    simp only [os_bits, ob_if]
    omega
  have e2 : os_cnt P 24 = ((P 16).toNat + (P 17).toNat + (P 18).toNat + (P 19).toNat + (P 20).toNat + (P 21).toNat + (P 22).toNat + (P 23).toNat) + ((P 8).toNat + (P 9).toNat + (P 10).toNat + (P 11).toNat + (P 12).toNat + (P 13).toNat + (P 14).toNat + (P 15).toNat) + ((P 0).toNat + (P 1).toNat + (P 2).toNat + (P 3).toNat + (P 4).toNat + (P 5).toNat + (P 6).toNat + (P 7).toNat) := by
    simp only [os_cnt, ob_if1]
    omega
  have g := hb 0
  rw [e, e2, ob_count n (by have := hb 16; have := hb 17; have := hb 18; have := hb 19; have := hb 20; have := hb 21; have := hb 22; have := hb 23; omega) (by have := hb 8; have := hb 9; have := hb 10; have := hb 11; have := hb 12; have := hb 13; have := hb 14; have := hb 15; omega) (by have := hb 0; have := hb 1; have := hb 2; have := hb 3; have := hb 4; have := hb 5; have := hb 6; have := hb 7; omega), ob_c8, ob_c8, ob_c8]
/-! bits of a row of signs -/
theorem os_bits_lt (P : Nat → Bool) : ∀ n, n ≤ 24 → os_bits P n + 2 ^ (24 - n) ≤ 2 ^ 24
  | 0, _ => by simp [os_bits]
  | n + 1, h => by
    have ih := os_bits_lt P n (by omega)
    have e : 2 ^ (24 - n) = 2 ^ (23 - n) + 2 ^ (23 - n) := by rw [show 24 - n = (23 - n) + 1 by omega, Nat.pow_succ]; omega
    have e2 : 24 - (n + 1) = 23 - n := by omega
    simp only [os_bits]
    rw [e2]
    have hp : 0 < 2 ^ (23 - n) := Nat.pow_pos (by decide)
    split <;> omega
theorem os_bits24 (P : Nat → Bool) : os_bits P 24 < 2 ^ 24 := by
  have := os_bits_lt P 24 (Nat.le_refl _)
  simp at this
  omega
theorem os_bits_dvd (P : Nat → Bool) : ∀ n, n ≤ 24 → ∃ q, os_bits P n = 2 ^ (24 - n) * q
  | 0, _ => ⟨0, rfl⟩
  | n + 1, h => by
    obtain ⟨q, hq⟩ := os_bits_dvd P n (by omega)
    refine ⟨2 * q + (if P n then 1 else 0), ?_⟩
    simp only [os_bits]
    rw [hq, show 24 - n = (23 - n) + 1 by omega, Nat.pow_succ, show 24 - (n + 1) = 23 - n by omega, Nat.mul_add]
    have : 2 ^ (23 - n) * 2 * q = 2 ^ (23 - n) * (2 * q) := Nat.mul_assoc _ _ _
    split <;> simp [this]
theorem os_bits_test (P : Nat → Bool) (b : Nat) : ∀ n, n ≤ 24 → Nat.testBit (os_bits P n) b = (decide (b < 24) && (decide (23 - b < n) && P (23 - b)))
  | 0, _ => by simp [os_bits]
  | n + 1, h => by
    have ih := os_bits_test P b n (by omega)
    obtain ⟨q, hq⟩ := os_bits_dvd P n (by omega)
    simp only [os_bits]
    by_cases hP : P n = true
    · rw [if_pos hP]
      have e : os_bits P n + 2 ^ (23 - n) = 2 ^ (24 - n) * q + 2 ^ (23 - n) := by rw [hq]
      have hlt : 2 ^ (23 - n) < 2 ^ (24 - n) := Nat.pow_lt_pow_right (by decide) (by omega)
      rw [hq] at ih
      have ih2 := Nat.testBit_two_pow_mul_add (i := 24 - n) q (b := 0) (Nat.pow_pos (by decide)) b
      rw [Nat.add_zero, ih] at ih2
      rw [e, Nat.testBit_two_pow_mul_add q hlt b, Nat.testBit_two_pow]
      by_cases hb : b < 24 - n
      · rw [if_pos hb]
        by_cases hb2 : 23 - n = b
        · subst hb2
          simp [show 23 - (23 - n) = n by omega, hP]
          omega
        · have : ¬ 23 - b < n + 1 := by omega
          simp [hb2, this]
      · rw [if_neg hb] at ih2 ⊢
        rw [← ih2]
        by_cases h24 : b < 24
        · have : (23 - b < n) = (23 - b < n + 1) := propext ⟨fun _ => by omega, fun _ => by omega⟩
          simp [this]
        · simp [h24]
    · rw [if_neg hP, Nat.add_zero, ih]
      by_cases hb : 23 - b = n
      · subst hb
        simp at hP
        simp [hP]
      · have : (23 - b < n) = (23 - b < n + 1) := propext ⟨fun _ => by omega, fun _ => by omega⟩
        simp [this]
theorem os_bt (P : Nat → Bool) {k : Nat} (h : k < 24) : Nat.testBit (os_bits P 24) (23 - k) = P k := by
  rw [os_bits_test P _ 24 (Nat.le_refl _)]
  simp [show 23 - (23 - k) = k by omega, h]
  omega

/-! assemble: the bits of an instruction -/
/-- the signs of an operand at which its field has a one -/
def os_Q (P : Nat → Bool) (fl k : Nat) : Bool := P k && Nat.testBit fl (os_cnt P 24 - os_cnt P (k + 1))
theorem os_cnt_mono (P : Nat → Bool) (a : Nat) : ∀ d, os_cnt P a ≤ os_cnt P (a + d)
  | 0 => Nat.le_refl _
  | d + 1 => by
    have := os_cnt_mono P a d
    rw [← Nat.add_assoc]
    simp only [os_cnt]
    split <;> omega
theorem os_cnt_le24 (P : Nat → Bool) {a : Nat} (h : a ≤ 24) : os_cnt P a ≤ os_cnt P 24 := by
  have := os_cnt_mono P a (24 - a)
  rwa [show a + (24 - a) = 24 by omega] at this
theorem os_one (q : Bool) {b : Nat} (hb : b < 24) : os_bits (fun k => decide (k = 23 - b) && q) 24 = q.toNat * 2 ^ b := by
  apply Nat.eq_of_testBit_eq
  intro c
  rw [os_bits_test _ c 24 (Nat.le_refl _)]
  cases q with
  | false => simp
  | true =>
    rw [show true.toNat * 2 ^ b = 2 ^ b from Nat.one_mul _, Nat.testBit_two_pow]
    by_cases h : b = c
    · subst h
      simp [hb]
      omega
    · simp [h]
      omega
theorem os_and1 (x : Int32) : x &&& (1 : Int32) = nI (x.toBitVec.getLsbD 0).toNat := by
  refine on_inj ?_
  apply BitVec.eq_of_toNat_eq
  rw [Int32.toBitVec_and, BitVec.toNat_and, on_bv, BitVec.toNat_ofNat]
  show x.toBitVec.toNat &&& 1 = _
  rw [Nat.and_one_is_mod]
  have : x.toBitVec.getLsbD 0 = x.toBitVec.toNat.testBit 0 := rfl
  rw [this, Nat.testBit_zero]
  rcases Nat.mod_two_eq_zero_or_one x.toBitVec.toNat with q | q <;> rw [q] <;> rfl
theorem os_shr1 (x : Int32) : (x >>> ((1 : Int32) &&& 31)).toBitVec = x.toBitVec.sshiftRight 1 := by
  rw [Int32.toBitVec_shiftRight]
  rfl
theorem os_bfloop {M : oa_M} {q : Nat} {P : Nat → Bool} (h0 : M 7 q 0 = nI (os_bits P 24)) (hc2 : os_cnt P 24 ≤ 16) (w bh nu : Int32) :
    ∀ (r b n : Nat) (x3 : Int32), b + r = 24 → r < n → x3.toBitVec = nu.toBitVec.sshiftRight (os_cnt P 24 - os_cnt P (24 - b)) → BX2_bitsFor_31 n q w bh x3 (nI (os_bits (fun k => decide (24 - b ≤ k) && os_Q P (nu.toBitVec.toNat % 2 ^ os_cnt P 24) k) 24)) (nI b) M = some (nI (os_bits (os_Q P (nu.toBitVec.toNat % 2 ^ os_cnt P 24)) 24), M) := by
  intro r
  induction r with
  | zero =>
    intro b n x3 hb hn hx
    obtain ⟨n', rfl⟩ : ∃ n', n = n' + 1 := ⟨n - 1, by omega⟩
    have hb : b = 24 := by omega
    subst hb
    rw [BX2_bitsFor_31, if_pos (show (24 : Int32) ≤ nI 24 from by decide)]
    congr 3
    try exact os_ext (fun k _ => by simp)
  | succ r ih =>
    intro b n x3 hb hn hx
    obtain ⟨n', rfl⟩ : ∃ n', n = n' + 1 := ⟨n - 1, by omega⟩
    have eb : 23 - (23 - b) = b := by omega
    have hP := os_bt P (k := 23 - b) (by omega)
    rw [eb] at hP
    have ec : os_cnt P (24 - b) = os_cnt P (23 - b) + (if P (23 - b) then 1 else 0) := by
      rw [show 24 - b = (23 - b) + 1 by omega]
      rfl
    have hle := os_cnt_le24 P (show 24 - b ≤ 24 by omega)
    rw [BX2_bitsFor_31, if_neg (show ¬ (24 : Int32) ≤ nI b from nI_ge (b := 24) (by omega) (by decide)), h0, on_shr (os_b31 P) (by omega), show ((nI (os_bits P 24 / 2 ^ b)) &&& (1 : Int32)) = nI (P (23 - b)).toNat from by rw [show (1 : Int32) = nI 1 from rfl, on_and, os_bit1, hP]]
    unfold BX2_bitsFor_66
    rw [nI_1]
    rcases Bool.eq_false_or_eq_true (P (23 - b)) with hp | hp
    · rw [hp] at ec ⊢
      simp only [if_true] at ec
      rw [if_pos (show nI true.toNat = (1 : Int32) from rfl), os_and1, on_shl _ (by omega), on_or]
      have hbit : x3.toBitVec.getLsbD 0 = Nat.testBit (nu.toBitVec.toNat % 2 ^ os_cnt P 24) (os_cnt P 24 - os_cnt P (24 - b)) := by
        rw [hx, BitVec.getLsbD_sshiftRight, Nat.testBit_mod_two_pow]
        simp [show os_cnt P 24 - os_cnt P (24 - b) < 32 by omega, show os_cnt P 24 - os_cnt P (24 - b) < os_cnt P 24 by omega]
        rfl
      rw [hbit, ← os_one _ (show b < 24 by omega), os_bor, ← ih (b + 1) n' (x3 >>> ((1 : Int32) &&& 31)) (by omega) (by omega) (by
        rw [os_shr1, hx, ← BitVec.sshiftRight_add]
        congr 1
        rw [show 24 - (b + 1) = 23 - b by omega]
        omega)]
      congr 2
      refine os_ext (fun k hk => ?_)
      by_cases h1 : k = 23 - b
      · subst h1
        simp [show ¬ 24 - b ≤ 23 - b by omega, os_Q, hp, show 23 - b + 1 = 24 - b by omega]
      · have : (24 - (b + 1) ≤ k) = (24 - b ≤ k) := propext ⟨fun _ => by omega, fun _ => by omega⟩
        simp only [h1, this, decide_false, Bool.false_and, Bool.or_false]
    · rw [hp] at ec ⊢
      simp only [Bool.false_eq_true, if_false, Nat.add_zero] at ec
      rw [if_neg (show ¬ nI false.toNat = (1 : Int32) from by decide), ← ih (b + 1) n' x3 (by omega) (by omega) (by
        rw [hx, show 24 - (b + 1) = 23 - b by omega, ec])]
      congr 2
      refine os_ext (fun k hk => ?_)
      by_cases h1 : k = 23 - b
      · subst h1
        simp [os_Q, hp]
      · have : (24 - (b + 1) ≤ k) = (24 - b ≤ k) := propext ⟨fun _ => by omega, fun _ => by omega⟩
        simp only [this]
theorem os_bitsF {M : oa_M} {q kd sc : Nat} {P : Nat → Bool} (h0 : M 7 q 0 = nI (os_bits P 24)) (h1 : M 7 q 2 = nI kd) (hk : kd ≤ 2) (h2 : M 7 q 3 = nI sc) (hs : 1 ≤ sc ∧ sc ≤ 8) (hc2 : os_cnt P 24 ≤ 16) (w bh : Int32) {n : Nat} (hn : 24 < n) : FX2_bitsFor n q w bh M = some (nI (os_bits (os_Q P (os_fl kd (os_cnt P 24) (nI sc) (M 7 q 4) w bh)) 24), M) := by
  have n0 : ¬ nI sc = 0 := nI_ne0 (by omega) (by omega)
  unfold FX2_bitsFor BX2_bitsFor_24
  rw [h2, if_pos (show (1 : Int32) ≤ nI sc from nI_le (a := 1) (by omega) (by omega)), os_cbase n h1 hk, ob_d, h2, if_pos n0]
  have := os_bfloop h0 hc2 w bh (os_dd kd (M 7 q 4) w bh / nI sc) 24 0 n (os_dd kd (M 7 q 4) w bh / nI sc) rfl hn (by
    rw [show os_cnt P 24 - os_cnt P (24 - 0) = 0 by simp]
    exact (BitVec.sshiftRight_zero).symm)
  rw [show os_bits (fun k => decide (24 - 0 ≤ k) && os_Q P ((os_dd kd (M 7 q 4) w bh / nI sc).toBitVec.toNat % 2 ^ os_cnt P 24) k) 24 = 0 from os_zero.mpr (fun k hk => by simp [show ¬ 24 ≤ k by omega])] at this
  exact this
/-- the bytes of a word -/
def os_byte (W : Nat → Bool) (i : Nat) : Nat := os_bits W 24 / 2 ^ (16 - 8 * i) % 256
theorem os_byte_lt (W : Nat → Bool) (i : Nat) : os_byte W i < 256 := Nat.mod_lt _ (by decide)
theorem os_byte_test (W : Nat → Bool) {i : Nat} (hi : i < 3) (b : Nat) : Nat.testBit (os_byte W i) b = (decide (b < 8) && W (8 * i + (7 - b))) := by
  unfold os_byte
  rw [show (256 : Nat) = 2 ^ 8 from rfl, Nat.testBit_mod_two_pow, Nat.testBit_div_two_pow, os_bits_test _ _ 24 (Nat.le_refl _)]
  by_cases hb : b < 8
  · rw [show 23 - (b + (16 - 8 * i)) = 8 * i + (7 - b) by omega]
    simp [hb, show b + (16 - 8 * i) < 24 by omega, show 8 * i + (7 - b) < 24 by omega]
  · simp [hb]
theorem os_byte_ext {W W' : Nat → Bool} {i : Nat} (hi : i < 3) (h : ∀ k, 8 * i ≤ k → k < 8 * i + 8 → W k = W' k) : os_byte W i = os_byte W' i := by
  apply Nat.eq_of_testBit_eq
  intro b
  rw [os_byte_test _ hi, os_byte_test _ hi]
  by_cases hb : b < 8
  · rw [h _ (by omega) (by omega)]
  · simp [hb]
theorem os_byte_or (W : Nat → Bool) (q : Bool) {k : Nat} (hk : k < 24) : os_byte W (k / 8) ||| q.toNat * 2 ^ (7 - k % 8) = os_byte (fun j => W j || (decide (j = k) && q)) (k / 8) := by
  apply Nat.eq_of_testBit_eq
  intro b
  rw [Nat.testBit_or, os_byte_test _ (by omega), os_byte_test _ (by omega)]
  cases q with
  | false => simp
  | true =>
    rw [show true.toNat * 2 ^ (7 - k % 8) = 2 ^ (7 - k % 8) from Nat.one_mul _, Nat.testBit_two_pow]
    by_cases hb : b < 8
    · have : (7 - k % 8 = b) = (8 * (k / 8) + (7 - b) = k) := propext ⟨fun _ => by omega, fun _ => by omega⟩
      simp [hb, this]
    · have : ¬ 7 - k % 8 = b := by omega
      simp [hb, this]

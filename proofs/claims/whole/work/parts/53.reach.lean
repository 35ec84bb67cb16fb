/-! assemble: an operand's field -/
def os_dd (kd : Nat) (fo w bh : Int32) : Int32 := w - (if kd = 2 then fo + bh else fo)
def os_lo (kd cn : Nat) : Int32 := if kd = 0 then 0 else -(nI (2 ^ (cn - 1)))
def os_hi (kd cn : Nat) : Int32 := nI ((if kd = 0 then 2 ^ cn else 2 ^ (cn - 1)) - 1)
def os_fit (kd cn : Nat) (sc fo w bh : Int32) : Bool := decide (oa_rem (os_dd kd fo w bh) sc = 0) && (!decide (os_dd kd fo w bh / sc < os_lo kd cn) && !decide (os_hi kd cn < os_dd kd fo w bh / sc))
def os_fl (kd cn : Nat) (sc fo w bh : Int32) : Nat := (os_dd kd fo w bh / sc).toBitVec.toNat % 2 ^ cn
theorem os_cbase (n : Nat) {M : oa_M} {q kd : Nat} (h1 : M 7 q 2 = nI kd) (hk : kd ≤ 2) (bh : Int32) : FX2_base n q bh M = some ((if kd = 2 then M 7 q 4 + bh else M 7 q 4), M) := by
  unfold FX2_base BX2_base_21
  rw [h1]
  by_cases h2 : kd = 2
  · rw [if_pos (by rw [h2]; rfl), if_pos h2]
  · rw [if_neg (os_ne2 hk h2), if_neg h2]
theorem os_reach (n : Nat) {M : oa_M} {q kd sc : Nat} {P : Nat → Bool} (h0 : os_wm M q P) (h1 : M 7 q 2 = nI kd) (hk : kd ≤ 2) (h2 : M 7 q 3 = nI sc) (hs : 1 ≤ sc ∧ sc ≤ 8) (hc : 1 ≤ os_cnt P 24) (hc2 : os_cnt P 24 ≤ 16) (w bh : Int32) : FX2_reaches n q w bh M = some (os_i (os_fit kd (os_cnt P 24) (nI sc) (M 7 q 4) w bh), M) := by
  have n0 : ¬ nI sc = 0 := nI_ne0 (by omega) (by omega)
  unfold FX2_reaches
  rw [os_cbase n h1 hk, ob_d, h2, if_neg (show ¬ nI sc < (1 : Int32) from nI_nlt (b := 1) (by omega) (by omega)), if_pos n0]
  have e : w - (if kd = 2 then M 7 q 4 + bh else M 7 q 4) = os_dd kd (M 7 q 4) w bh := rfl
  rw [e]
  unfold os_fit
  by_cases r0 : oa_rem (os_dd kd (M 7 q 4) w bh) (nI sc) = 0
  · rw [if_pos r0, if_pos n0, os_low n h0 h1 hk hc hc2, ob_d, show (if kd = 0 then (0 : Int32) else -(nI (2 ^ (os_cnt P 24 - 1)))) = os_lo kd (os_cnt P 24) from rfl, decide_eq_true r0, Bool.true_and]
    unfold BX2_reaches_57 BX2_reaches_58
    by_cases r1 : os_dd kd (M 7 q 4) w bh / nI sc < os_lo kd (os_cnt P 24)
    · rw [if_pos r1, decide_eq_true r1]
      rfl
    · rw [if_neg r1, decide_eq_false r1, os_high n h0 h1 hk hc hc2, ob_d, show nI ((if kd = 0 then 2 ^ os_cnt P 24 else 2 ^ (os_cnt P 24 - 1)) - 1) = os_hi kd (os_cnt P 24) from rfl]
      by_cases r2 : os_hi kd (os_cnt P 24) < os_dd kd (M 7 q 4) w bh / nI sc
      · rw [if_pos r2, decide_eq_true r2]
        rfl
      · rw [if_neg r2, decide_eq_false r2]
        rfl
  · rw [if_neg r0, decide_eq_false r0]
    rfl
theorem os_half : ∀ c : Fin 17, 1 ≤ c.val → (-(nI (2 ^ c.val))) / (2 : Int32) = -(nI (2 ^ (c.val - 1))) ∧ -(nI (2 ^ (c.val - 1))) + nI (2 ^ c.val) - 1 = nI (2 ^ (c.val - 1) - 1) := by decide
theorem os_subsub (w fo bh : Int32) : w - fo - bh = w - (fo + bh) := by
  rw [Int32.sub_eq_add_neg, Int32.sub_eq_add_neg, Int32.sub_eq_add_neg, Int32.neg_add, Int32.add_assoc, Int32.sub_eq_add_neg]
theorem os_nand (x : Int32) {c : Nat} (hc : c ≤ 16) : x &&& (nI (2 ^ c) - 1) = nI (x.toBitVec.toNat % 2 ^ c) := by
  have hp : 2 ^ c ≤ 2 ^ 16 := Nat.pow_le_pow_right (by decide) hc
  have h1 : 1 ≤ 2 ^ c := Nat.one_le_two_pow
  rw [show (1 : Int32) = nI 1 from rfl, on_sub h1]
  refine on_inj ?_
  apply BitVec.eq_of_toNat_eq
  have hl : x.toBitVec.toNat % 2 ^ c < 2 ^ c := Nat.mod_lt _ (by omega)
  rw [Int32.toBitVec_and, BitVec.toNat_and, on_bv, on_bv, BitVec.toNat_ofNat, BitVec.toNat_ofNat, Nat.mod_eq_of_lt (show 2 ^ c - 1 < 2 ^ 32 by omega), Nat.and_two_pow_sub_one_eq_mod, Nat.mod_eq_of_lt (show x.toBitVec.toNat % 2 ^ c < 2 ^ 32 by omega)]
theorem os_field (n : Nat) {M : oa_M} {f o kd sc cn : Nat} (hf : f < 12) (ho : o < 3) (h29 : M 29 0 (3 * f + o) = nI cn) (h30 : M 30 0 (3 * f + o) = nI kd) (hk : kd ≤ 2) (h31 : M 31 0 (3 * f + o) = nI sc) (hs : 1 ≤ sc ∧ sc ≤ 8) (hc : 1 ≤ cn) (hc2 : cn ≤ 16) (w bh : Int32) : FX5_fieldOf n (nI f) (nI o) w bh M = some ((if os_fit kd cn (nI sc) (M 32 0 (3 * f + o)) w bh then nI (os_fl kd cn (nI sc) (M 32 0 (3 * f + o)) w bh) else -1), M) := by
  have n0 : ¬ nI sc = 0 := nI_ne0 (by omega) (by omega)
  have hq : oa_in (nI (3 * f + o)) 36 = true := on_in (by omega) (by decide)
  have hq2 : (nI (3 * f + o)).toNatClampNeg = 3 * f + o := nI_clamp (by omega)
  obtain ⟨hh1, hh2⟩ := os_half ⟨cn, by omega⟩ hc
  have hh1 : (-(nI (2 ^ cn))) / (2 : Int32) = -(nI (2 ^ (cn - 1))) := hh1
  have hh2 : -(nI (2 ^ (cn - 1))) + nI (2 ^ cn) - 1 = nI (2 ^ (cn - 1) - 1) := hh2
  have hp1 : 1 ≤ 2 ^ cn := Nat.one_le_two_pow
  have e93 : ∀ (z0 : Int32) (x3 x4 x5 : Int32), z0 = os_lo kd cn → oa_rem (os_dd kd (M 32 0 (3 * f + o)) w bh) (nI sc) = 0 → BX5_fieldOf_93 n (nI f) (nI o) x3 x4 x5 (os_dd kd (M 32 0 (3 * f + o)) w bh / nI sc) (nI (2 ^ cn)) z0 M = some ((if os_fit kd cn (nI sc) (M 32 0 (3 * f + o)) w bh then nI (os_fl kd cn (nI sc) (M 32 0 (3 * f + o)) w bh) else -1), M) := by
    intro z0 x3 x4 x5 hz hr
    have eh : z0 + nI (2 ^ cn) - 1 = os_hi kd cn := by
      rw [hz]
      unfold os_lo os_hi
      by_cases hz0 : kd = 0
      · rw [if_pos hz0, if_pos hz0, show (0 : Int32) = nI 0 from rfl, nI_add, Nat.zero_add, show (1 : Int32) = nI 1 from rfl, on_sub hp1]
      · rw [if_neg hz0, if_neg hz0, hh2]
    unfold BX5_fieldOf_93 BX5_fieldOf_123
    rw [os_outs, ob_d, eh, hz, os_nand _ hc2]
    unfold os_fit os_fl
    rw [decide_eq_true hr, Bool.true_and]
    generalize os_dd kd (M 32 0 (3 * f + o)) w bh / nI sc = nu
    by_cases r1 : nu < os_lo kd cn
    · rw [if_pos r1, decide_eq_true r1]
      rfl
    · rw [if_neg r1, decide_eq_false r1]
      by_cases r2 : os_hi kd cn < nu
      · rw [if_neg (show ¬ nu ≤ os_hi kd cn from fun q => by rw [Int32.le_iff_toInt_le] at q; rw [Int32.lt_iff_toInt_lt] at r2; omega), decide_eq_true r2]
        rfl
      · rw [if_pos (show nu ≤ os_hi kd cn from by rw [Int32.le_iff_toInt_le]; rw [Int32.lt_iff_toInt_lt] at r2; omega), decide_eq_false r2]
        rfl
  have e33 : ∀ (z0 z1 : Int32), z0 - z1 = os_dd kd (M 32 0 (3 * f + o)) w bh → BX5_fieldOf_33 n (nI f) (nI o) w bh (nI (3 * f + o)) z0 z1 M = some ((if os_fit kd cn (nI sc) (M 32 0 (3 * f + o)) w bh then nI (os_fl kd cn (nI sc) (M 32 0 (3 * f + o)) w bh) else -1), M) := by
    intro z0 z1 hz
    unfold BX5_fieldOf_33
    rw [if_pos hq, hq2, h31, if_pos n0, hz]
    by_cases r0 : oa_rem (os_dd kd (M 32 0 (3 * f + o)) w bh) (nI sc) = 0
    · rw [if_pos r0, if_pos hq, if_pos n0, if_pos hq, if_pos hq, h30, h29, show (1 : Int32) = nI 1 from rfl, on_shl 1 (by omega), Nat.one_mul]
      by_cases hz0 : kd = 0
      · rw [if_pos (by rw [hz0]; decide), e93 _ _ _ _ (by unfold os_lo; rw [if_pos hz0]) r0]
        rfl
      · rw [if_neg (nI_nle (by omega) (by omega)), e93 _ _ _ _ (by unfold os_lo; rw [if_neg hz0, hh1]) r0]
        rfl
    · rw [if_neg r0]
      unfold os_fit
      rw [decide_eq_false r0]
      rfl
  unfold FX5_fieldOf
  rw [os_q3, if_pos hq, if_pos hq, hq2, h30]
  by_cases h2 : kd = 2
  · rw [if_pos (by rw [h2]; rfl), e33]
    unfold os_dd
    rw [if_pos h2, os_subsub]
  · rw [if_neg (os_ne2 hk h2), e33]
    unfold os_dd
    rw [if_neg h2, Int32.sub_zero]
theorem os_fl_lt (kd cn : Nat) (sc fo w bh : Int32) : os_fl kd cn sc fo w bh < 2 ^ cn := Nat.mod_lt _ (Nat.pow_pos (by decide))

/-! an operand's value -/
def os_fld (P w : Nat → Bool) : Nat → Nat
  | 0 => 0
  | n + 1 => if P n then 2 * os_fld P w n + (w n).toNat else os_fld P w n
def os_fst (P w : Nat → Bool) : Nat → Int32
  | 0 => -1
  | n + 1 => if P n && decide (os_cnt P n = 0) then nI (w n).toNat else os_fst P w n
theorem os_tn (b : Bool) : b.toNat < 2 := by cases b <;> decide
theorem os_fld_lt (P w : Nat → Bool) : ∀ n, os_fld P w n < 2 ^ os_cnt P n
  | 0 => by simp [os_fld, os_cnt]
  | n + 1 => by
    have ih := os_fld_lt P w n
    have := os_tn (w n)
    simp only [os_fld, os_cnt]
    cases P n with
    | true => simp only [if_true]; rw [Nat.pow_succ]; omega
    | false => simpa using ih
theorem os_fst_ok (P w : Nat → Bool) : ∀ n, (os_cnt P n = 0 ∧ os_fst P w n = -1 ∧ os_fld P w n = 0) ∨ (1 ≤ os_cnt P n ∧ ((os_fst P w n = 1 ∧ 2 ^ (os_cnt P n - 1) ≤ os_fld P w n) ∨ (os_fst P w n = 0 ∧ os_fld P w n < 2 ^ (os_cnt P n - 1))))
  | 0 => Or.inl ⟨rfl, rfl, rfl⟩
  | n + 1 => by
    have ih := os_fst_ok P w n
    have ht := os_tn (w n)
    rcases Bool.eq_false_or_eq_true (P n) with hP | hP
    · right
      simp only [os_fst, os_fld, os_cnt, hP, if_true, Bool.true_and]
      rcases ih with ⟨h1, h2, h3⟩ | ⟨h1, h2⟩
      · refine ⟨by omega, ?_⟩
        rw [h1, h3]
        simp only [decide_true, if_true]
        cases w n with
        | true => left; exact ⟨rfl, by decide⟩
        | false => right; exact ⟨rfl, by decide⟩
      · refine ⟨by omega, ?_⟩
        rw [if_neg (by simp; omega), show os_cnt P n + 1 - 1 = (os_cnt P n - 1) + 1 by omega, Nat.pow_succ]
        rcases h2 with ⟨a, b⟩ | ⟨a, b⟩
        · left; exact ⟨a, by omega⟩
        · right; exact ⟨a, by omega⟩
    · simp only [os_fst, os_fld, os_cnt, hP, Bool.false_eq_true, if_false, Bool.false_and, Nat.add_zero]
      exact ih
theorem os_stop {P w : Nat → Bool} {m : Nat} (h : ∀ k, m ≤ k → P k = false) : ∀ d, os_fld P w (m + d) = os_fld P w m ∧ os_cnt P (m + d) = os_cnt P m ∧ os_fst P w (m + d) = os_fst P w m
  | 0 => ⟨rfl, rfl, rfl⟩
  | d + 1 => by
    have ih := os_stop (w := w) h d
    have hp := h (m + d) (by omega)
    rw [← Nat.add_assoc]
    simp only [os_fld, os_cnt, os_fst, hp, Bool.false_eq_true, if_false, Bool.false_and, Nat.add_zero]
    exact ih
/-- what a field says -/
def os_num (kd cn fl : Nat) : Int32 := if kd ≠ 0 ∧ 2 ^ (cn - 1) ≤ fl then nI fl - nI (2 ^ cn) else nI fl
theorem os_num_a {kd cn fl : Nat} (h : kd ≠ 0) (h2 : 2 ^ (cn - 1) ≤ fl) : os_num kd cn fl = nI fl - nI (2 ^ cn) := if_pos ⟨h, h2⟩
theorem os_num_b {kd cn fl : Nat} (h : kd = 0 ∨ fl < 2 ^ (cn - 1)) : os_num kd cn fl = nI fl := if_neg (fun q => by omega)
theorem os_ne2 {kd : Nat} (h : kd ≤ 2) (h2 : ¬ kd = 2) : ¬ nI kd = (2 : Int32) := fun q => h2 ((nI_eq (b := 2) (by omega) (by decide)).mp q)
theorem os_negadd (x : Int32) : -x + x = 0 := by rw [Int32.add_comm, ← Int32.sub_eq_add_neg, Int32.sub_self]
def os_v (kd cn fl : Nat) (sc fo bh : Int32) : Int32 := os_num kd cn fl * sc + (if kd = 2 then fo + bh else fo)
theorem os_low (n : Nat) {M : oa_M} {q kd : Nat} {P : Nat → Bool} (h0 : os_wm M q P) (h1 : M 7 q 2 = nI kd) (hk : kd ≤ 2) (hc : 1 ≤ os_cnt P 24) (hc2 : os_cnt P 24 ≤ 16) : FX2_lowest n q M = some ((if kd = 0 then 0 else -(nI (2 ^ (os_cnt P 24 - 1)))), M) := by
  unfold FX2_lowest BX2_lowest_20
  rw [h1]
  by_cases hz : kd = 0
  · rw [if_pos (by rw [hz]; rfl), if_pos hz]
  · have hp : 2 ^ os_cnt P 24 ≤ 2 ^ 16 := Nat.pow_le_pow_right (by decide) hc2
    rw [if_neg (fun q => hz ((os_nIz (by omega)).mp q)), if_neg hz, h0.2]
    rw [show (1 : Int32) = nI 1 from rfl, on_shl 1 (by omega), Nat.one_mul, on_shr (by omega) (by decide)]
    congr 4
    rw [Nat.pow_one, show os_cnt P 24 = (os_cnt P 24 - 1) + 1 by omega, Nat.pow_succ, Nat.add_sub_cancel]
    omega
theorem os_high (n : Nat) {M : oa_M} {q kd : Nat} {P : Nat → Bool} (h0 : os_wm M q P) (h1 : M 7 q 2 = nI kd) (hk : kd ≤ 2) (hc : 1 ≤ os_cnt P 24) (hc2 : os_cnt P 24 ≤ 16) : FX2_highest n q M = some (nI ((if kd = 0 then 2 ^ os_cnt P 24 else 2 ^ (os_cnt P 24 - 1)) - 1), M) := by
  unfold FX2_highest
  rw [os_low n h0 h1 hk hc hc2, ob_d, h0.2, show (1 : Int32) = nI 1 from rfl, on_shl 1 (by omega), Nat.one_mul]
  have e : 2 ^ os_cnt P 24 = 2 ^ (os_cnt P 24 - 1) + 2 ^ (os_cnt P 24 - 1) := by
    rw [show os_cnt P 24 = (os_cnt P 24 - 1) + 1 by omega, Nat.pow_succ, Nat.add_sub_cancel]
    omega
  have hp : 1 ≤ 2 ^ (os_cnt P 24 - 1) := Nat.one_le_two_pow
  by_cases hz : kd = 0
  · rw [if_pos hz, if_pos hz, show (0 : Int32) = nI 0 from rfl, nI_add, Nat.zero_add, on_sub (by omega)]
  · rw [if_neg hz, if_neg hz]
    congr 2
    rw [e, ← nI_add, ← Int32.add_assoc, os_negadd, show (0 : Int32) = nI 0 from rfl, nI_add, Nat.zero_add, on_sub hp]
theorem os_cvend {M : oa_M} {q kd : Nat} {P w : Nat → Bool} (h0 : os_wm M q P) (h1 : M 7 q 2 = nI kd) (hk : kd ≤ 2) (hc : 1 ≤ os_cnt P 24) (hc2 : os_cnt P 24 ≤ 16) (n : Nat) (W bh x4 : Int32) (hx : x4 < 0) : BX2_valueIn_6 (n + 1) q W bh (nI (os_fld P w 24)) x4 M = some (os_v kd (os_cnt P 24) (os_fld P w 24) (M 7 q 3) (M 7 q 4) bh, M) := by
  have hl := os_fld_lt P w 24
  have hp : 2 ^ os_cnt P 24 ≤ 2 ^ 16 := Nat.pow_le_pow_right (by decide) hc2
  have hpp : 2 ^ (os_cnt P 24 - 1) ≤ 2 ^ 16 := Nat.pow_le_pow_right (by decide) (by omega)
  have h1p : 1 ≤ 2 ^ (os_cnt P 24 - 1) := Nat.one_le_two_pow
  have fin : ∀ z, BX2_valueIn_58 n q W bh z x4 M = some (z * (M 7 q 3) + (if kd = 2 then M 7 q 4 + bh else M 7 q 4), M) := fun z => by
    unfold BX2_valueIn_58 FX2_base BX2_base_21
    rw [h1]
    by_cases h2 : kd = 2
    · rw [if_pos (by rw [h2]; rfl), ob_d, if_pos h2]
    · rw [if_neg (os_ne2 hk h2), ob_d, if_neg h2]
  rw [BX2_valueIn_6]
  rw [if_pos hx, os_high n h0 h1 hk hc hc2, ob_d]
  unfold os_v
  by_cases hz : kd = 0
  · rw [if_pos hz, if_pos (nI_le (by omega) (by omega)), fin, os_num_b (Or.inl hz)]
  · rw [if_neg hz]
    by_cases hf : 2 ^ (os_cnt P 24 - 1) ≤ os_fld P w 24
    · rw [if_neg (nI_ge (by omega) (by omega)), h0.2, fin, os_num_a hz hf, show (1 : Int32) = nI 1 from rfl, on_shl 1 (by omega), Nat.one_mul]
    · rw [if_pos (nI_le (by omega) (by omega)), fin, os_num_b (Or.inr (by omega))]
theorem os_cvloop {M : oa_M} {q kd : Nat} {P w : Nat → Bool} (h0 : os_wm M q P) (h1 : M 7 q 2 = nI kd) (hk : kd ≤ 2) (hc : 1 ≤ os_cnt P 24) (hc2 : os_cnt P 24 ≤ 16) (bh : Int32) :
    ∀ (b n : Nat), b < 24 → b + 2 < n → BX2_valueIn_6 n q (nI (os_bits w 24)) bh (nI (os_fld P w (23 - b))) (nI b) M = some (os_v kd (os_cnt P 24) (os_fld P w 24) (M 7 q 3) (M 7 q 4) bh, M) := by
  intro b
  have step : ∀ (b n : Nat), b < 24 → BX2_valueIn_6 (n + 1) q (nI (os_bits w 24)) bh (nI (os_fld P w (23 - b))) (nI b) M = BX2_valueIn_6 n q (nI (os_bits w 24)) bh (nI (os_fld P w (24 - b))) (nI b + (-1 : Int32)) M := by
    intro b n hb
    have eb : 23 - (23 - b) = b := by omega
    have hP := os_bt P (k := 23 - b) (by omega)
    have hw := os_bt w (k := 23 - b) (by omega)
    rw [eb] at hP hw
    have e24 : 24 - b = (23 - b) + 1 := by omega
    rw [BX2_valueIn_6]
    rw [if_neg (nI_pos (by omega)), h0.1, on_shr (os_b31 P) (by omega), show (1 : Int32) = nI 1 from rfl, on_and, os_bit1, hP]
    unfold BX2_valueIn_35
    rw [e24]
    simp only [os_fld]
    rcases Bool.eq_false_or_eq_true (P (23 - b)) with hp | hp
    · rw [hp, if_pos (show nI true.toNat = nI 1 from rfl), on_shl _ (by decide), on_shr (os_b31 w) (by omega), on_and, os_bit1, hw, on_or, show os_fld P w (23 - b) * 2 ^ 1 ||| (w (23 - b)).toNat = 2 * os_fld P w (23 - b) + (w (23 - b)).toNat from by rw [Nat.mul_comm, ← Nat.two_pow_add_eq_or_of_lt (i := 1) (os_tn _), Nat.pow_one]]
      rfl
    · rw [hp, if_neg (show ¬ nI false.toNat = nI 1 from by decide)]
      rfl
  induction b with
  | zero =>
    intro n hb hn
    obtain ⟨n', rfl⟩ : ∃ n', n = n' + 1 + 1 := ⟨n - 2, by omega⟩
    rw [step 0 _ (by decide)]
    exact os_cvend h0 h1 hk hc hc2 n' _ bh _ (by decide)
  | succ b ih =>
    intro n hb hn
    obtain ⟨n', rfl⟩ : ∃ n', n = n' + 1 := ⟨n - 1, by omega⟩
    rw [step (b + 1) _ hb, show nI (b + 1) + (-1 : Int32) = nI b from by rw [← nI_1, Int32.add_assoc]; exact Int32.add_zero _, show 24 - (b + 1) = 23 - b by omega]
    exact ih n' (by omega) (by omega)
theorem os_cvalue {M : oa_M} {mem : Nat → Nat} (hM : os_Mem M mem) {q kd a : Nat} {P : Nat → Bool} (h0 : os_wm M q P) (h1 : M 7 q 2 = nI kd) (hk : kd ≤ 2) (hc : 1 ≤ os_cnt P 24) (hc2 : os_cnt P 24 ≤ 16) (bh : Int32) {n : Nat} (hn : 30 < n) : FX2_valueIn n q (nI (os_word mem a)) bh M = some (os_v kd (os_cnt P 24) (os_fld P (os_wb mem a) 24) (M 7 q 3) (M 7 q 4) bh, M) := by
  unfold FX2_valueIn
  rw [os_word_bits hM]
  exact os_cvloop h0 h1 hk hc hc2 bh 23 n (by decide) (by omega)
theorem os_coperandAt {M : oa_M} {mem : Nat → Nat} (hM : os_Mem M mem) {i bt : Nat} {sg : Nat → Nat} {L : List Nat} {oc o a kd : Nat} (hF : os_F M i bt sg L oc) (ho : o < oc) (ha : a < 64) (h1 : M 7 (3 * i + o) 2 = nI kd) (hk : kd ≤ 2) {n : Nat} (hn : 30 < n) : FX4_operandAt n (nI a) i (nI o) M = some (os_v kd (os_cnt (os_po bt sg o) 24) (os_fld (os_po bt sg o) (os_wb mem a) 24) (M 7 (3 * i + o) 3) (M 7 (3 * i + o) 4) (nI (a + bt)), M) := by
  obtain ⟨a1, a2, a3, a4, a5, a6, a7, a8, a9, a10, a11⟩ := hF
  have h3 : o < 3 := by omega
  unfold FX4_operandAt
  rw [if_pos (on_in h3 (by decide)), nI_clamp (by omega), os_wordAt hM ha (by omega), ob_d, a6.1, nI_add, os_cvalue hM (a10 o h3).1 h1 hk (a11 o ho).1 (a11 o ho).2 _ hn, ob_d]
theorem os_mvloop {M : oa_M} {mem : Nat → Nat} (hM : os_Mem M mem) {i bt : Nat} {sg : Nat → Nat} {L : List Nat} {oc o a kd : Nat} (hF : os_F M i bt sg L oc) (hi : i < 12) (ho : o < oc) (ha : a + bt ≤ 64) (h1 : M 30 0 (3 * i + o) = nI kd) (hk : kd ≤ 2) :
    ∀ (r k n : Nat), k + r = 8 * bt → r < n → BX5_valueOf_9 n (nI i) (nI a) (nI o) (nI (os_fld (os_po bt sg o) (os_wb mem a) k)) (os_fst (os_po bt sg o) (os_wb mem a) k) (nI k) M = some (os_v kd (os_cnt (os_po bt sg o) 24) (os_fld (os_po bt sg o) (os_wb mem a) 24) (M 31 0 (3 * i + o)) (M 32 0 (3 * i + o)) (nI (a + bt)), M) := by
  obtain ⟨a1, a2, a3, a4, a5, a6, a7, a8, a9, a10, a11⟩ := id hF
  have h3 : o < 3 := by omega
  intro r
  induction r with
  | zero =>
    intro k n hk2 hn
    obtain ⟨n', rfl⟩ : ∃ n', n = n' + 1 := ⟨n - 1, by omega⟩
    have hk3 : k = 8 * bt := by omega
    have st := os_stop (P := os_po bt sg o) (w := os_wb mem a) (m := k) (fun k' hk' => by unfold os_po; simp [show ¬ k' < 8 * bt by omega]) (24 - k)
    rw [show k + (24 - k) = 24 by omega] at st
    have fo := os_fst_ok (os_po bt sg o) (os_wb mem a) 24
    rw [st.2.2] at fo
    have hcn := a11 o ho
    rw [← st.1]
    have fl := os_fld_lt (os_po bt sg o) (os_wb mem a) 24
    generalize os_fld (os_po bt sg o) (os_wb mem a) 24 = fld at fo fl ⊢
    generalize os_fst (os_po bt sg o) (os_wb mem a) k = fs at fo ⊢
    have b2 := (a10 o h3).2
    generalize os_cnt (os_po bt sg o) 24 = cn at fo hcn b2 fl ⊢
    have fo := fo.resolve_left (fun h => by omega)
    have fin : ∀ z x4 x5, BX5_valueOf_116 n' (nI i) (nI a) (nI o) x4 x5 (nI (3 * i + o)) z M = some (z * M 31 0 (3 * i + o) + (if kd = 2 then M 32 0 (3 * i + o) + nI (a + bt) else M 32 0 (3 * i + o)), M) := fun z x4 x5 => by
      unfold BX5_valueOf_116 BX5_valueOf_162
      rw [if_pos (on_in (by omega) (by decide)), if_pos (on_in (by omega) (by decide)), if_pos (on_in (by omega) (by decide)), nI_clamp (by omega), h1]
      by_cases h2 : kd = 2
      · rw [if_pos (by rw [h2]; rfl), if_pos (on_in hi (by decide)), nI_clamp (by omega), a6.2, show (8 : Int32) = nI 8 from rfl, on_div (by omega) (by decide), show 8 * bt / 8 = bt by omega, nI_add, if_pos h2, Int32.add_assoc]
      · rw [if_neg (os_ne2 hk h2), if_neg h2, Int32.add_zero]
    unfold BX5_valueOf_9 BX5_valueOf_114
    rw [if_pos (on_in hi (by decide)), nI_clamp (by omega), a6.2, if_pos (nI_le (by omega) (by omega)), os_q3, if_pos (on_in (by omega) (by decide)), nI_clamp (by omega), h1, fin, fin, if_pos (on_in (by omega) (by decide)), b2, show (1 : Int32) = nI 1 from rfl, on_shl 1 (by omega), Nat.one_mul]
    unfold os_v
    by_cases hz : kd = 0
    · rw [if_pos (by rw [hz]; decide), os_num_b (Or.inl hz)]
    · rw [if_neg (show ¬ nI kd ≤ 0 from nI_nle (by omega) (by omega))]
      rcases fo.2 with ⟨f1, f2⟩ | ⟨f1, f2⟩
      · rw [if_pos (show fs = nI 1 from f1), os_num_a hz f2]
      · rw [if_neg (by rw [f1]; decide), os_num_b (Or.inr f2)]
  | succ r ih =>
    intro k n hk2 hn
    obtain ⟨n', rfl⟩ : ∃ n', n = n' + 1 := ⟨n - 1, by omega⟩
    have hkb : k < 8 * bt := by omega
    have hs := a2 k hkb
    have fo := os_fst_ok (os_po bt sg o) (os_wb mem a) k
    have ih2 := ih (k + 1) n' (by omega) (by omega)
    have hpk : os_po bt sg o k = decide (sg k = 2 + o) := by unfold os_po; simp [hkb]
    simp only [os_fld, os_fst, hpk] at ih2
    rw [BX5_valueOf_9]
    rw [if_pos (on_in hi (by decide)), nI_clamp (by omega), a6.2, if_neg (nI_ge hkb (by omega)), show (24 : Int32) * nI i + nI k = nI (24 * i + k) from by rw [show (24 : Int32) = nI 24 from rfl, on_mul, nI_add], if_pos (on_in (by omega) (by decide)), nI_clamp (by omega), a7 k hkb, show (2 : Int32) + nI o = nI (2 + o) from nI_add 2 o]
    unfold BX5_valueOf_59 BX5_valueOf_70
    rw [nI_1]
    by_cases e : sg k = 2 + o
    · rw [if_pos (by rw [e]), os_bitAt n' hM (by omega) (by omega), ob_d]
      simp only [e, decide_true, if_true, Bool.true_and] at ih2
      rw [show (2 : Int32) * nI (os_fld (os_po bt sg o) (os_wb mem a) k) + nI (os_wb mem a k).toNat = nI (2 * os_fld (os_po bt sg o) (os_wb mem a) k + (os_wb mem a k).toNat) from by rw [show (2 : Int32) = nI 2 from rfl, on_mul, nI_add]]
      rcases fo with ⟨f1, f2, f3⟩ | ⟨f1, f2⟩
      · rw [if_neg (by rw [f2]; decide)]
        simp only [f1, decide_true, if_true] at ih2
        exact ih2
      · rw [if_pos (by rcases f2 with ⟨f2, -⟩ | ⟨f2, -⟩ <;> rw [f2] <;> decide)]
        have hd : decide (os_cnt (os_po bt sg o) k = 0) = false := decide_eq_false (by omega)
        simp only [hd, Bool.false_eq_true, if_false] at ih2
        exact ih2
    · rw [if_neg (fun q => e ((nI_eq (by omega) (by omega)).mp q))]
      simp only [e, decide_false, Bool.false_eq_true, if_false, Bool.false_and] at ih2
      exact ih2
theorem os_mvalue {M : oa_M} {mem : Nat → Nat} (hM : os_Mem M mem) {i bt : Nat} {sg : Nat → Nat} {L : List Nat} {oc o a kd : Nat} (hF : os_F M i bt sg L oc) (hi : i < 12) (ho : o < oc) (ha : a + bt ≤ 64) (h1 : M 30 0 (3 * i + o) = nI kd) (hk : kd ≤ 2) {n : Nat} (hn : 24 < n) : FX5_valueOf n (nI i) (nI a) (nI o) M = some (os_v kd (os_cnt (os_po bt sg o) 24) (os_fld (os_po bt sg o) (os_wb mem a) 24) (M 31 0 (3 * i + o)) (M 32 0 (3 * i + o)) (nI (a + bt)), M) :=
  os_mvloop hM hF hi ho ha h1 hk (8 * bt) 0 n (by omega) (by have := hF.1; omega)
theorem os_S7 : oa_S7 os_I := by
  intro x y M hI
  obtain ⟨len, c, size, mem, nf, nl, hT, hO, hM, hC, hF, hL⟩ := id hI
  rcases os_ready hC with ⟨r1, r2⟩ | ⟨r1, r2⟩
  · refine ⟨0, 0, 1, M, 0, oa_up (oa_up M 20 0 30 1) 20 0 30 1, ?_, ?_, by simp [oa_up], fun h => absurd h (by decide), (hI.up (by unfold os_free; omega) _).up (by unfold os_free; omega) _⟩
    · unfold FL_value FX4_value FX4_requireReady
      rw [if_pos r1]
      rfl
    · unfold FX5_value FX5_wrongAddress BX5_wrongAddress_26
      rw [if_pos r2, ob_d, if_neg (by decide)]
      unfold BX5_value_25 BX5_value_56 BX5_value_60 BX5_value_81
      rw [os_up1, if_neg (by decide), if_neg (by decide)]
  · rcases os_addr x with ⟨a, ha, rfl⟩ | h
    · obtain ⟨bt, sg, L, oc, hp⟩ := hF.pick
      have d1 := os_cbest hM hC hp ha (n := 100) (by decide)
      have kx : ∀ (M1 : oa_M), (∀ k i f, k ≠ 50 → M1 k i f = M k i f) → os_Mem (oa_up M1 20 0 30 0) mem ∧ os_Cn (oa_up M1 20 0 30 0) nf nl ∧ ∀ i, i < nf → os_F (oa_up M1 20 0 30 0) i (bt i) (sg i) (L i) (oc i) := fun M1 k1 => ⟨hM.co (fun j => by rw [os_up (by omega), k1 _ _ _ (by omega)]) (fun j => by rw [os_up (by omega), k1 _ _ _ (by omega)]), hC.co (fun f => by rw [os_up (by omega), k1 _ _ _ (by omega)]) (fun f hf => by rw [os_up (by omega), k1 _ _ _ (by omega)]), fun i hi => (hp i hi).off (fun k i f hk => by rw [os_up (by omega), k1 _ _ _ (by omega)])⟩
      have d2 : ∀ (M1 : oa_M), (∀ k i f, k ≠ 50 → M1 k i f = M k i f) → FX5_value 100 (nI a) y M1 = BX5_value_25 100 (nI a) y (os_bi (os_best mem bt sg nf a)) (oa_up M1 20 0 30 0) := fun M1 k1 => by
        obtain ⟨q1, q2, q3⟩ := kx M1 k1
        unfold FX5_value FX5_wrongAddress BX5_wrongAddress_26
        rw [k1 20 0 13 (by decide), if_neg r2, os_out63 100 ha, ob_d, if_pos rfl, ob_d, if_pos rfl, os_mbest q1 q2 q3 ha (by decide), ob_d]
      have bad : FX4_value 100 (nI a) y M = some (3, 0, M) → BX5_value_25 100 (nI a) y (os_bi (os_best mem bt sg nf a)) (oa_up M 20 0 30 0) = some (0, oa_up (oa_up M 20 0 30 0) 20 0 30 2) → ∃ (n n' : Nat) (k : Int32) (M1 : oa_M) (b : Int32) (M2 : oa_M), FL_value n (nI a) y M = some (k, M1) ∧ FX5_value n' (nI a) y M1 = some (b, M2) ∧ M2 20 0 30 = k ∧ (k = 0 → M2 50 0 0 = b) ∧ os_I M2 := fun e1 e2 =>
        ⟨100, 100, 2, M, 0, _, by unfold FL_value; rw [e1]; rfl, by rw [d2 M (fun _ _ _ _ => rfl), e2], by simp [oa_up], fun h => absurd h (by decide), (hI.up (by unfold os_free; omega) _).up (by unfold os_free; omega) _⟩
      have e52 : ∀ z, BX5_value_52 100 (nI a) y z (oa_up M 20 0 30 0) = some (0, oa_up (oa_up M 20 0 30 0) 20 0 30 2) := fun z => by
        unfold BX5_value_52 BX5_value_60 BX5_value_81
        rw [if_neg (by decide)]
      cases hbe : os_best mem bt sg nf a with
      | none =>
        rw [hbe] at d1 bad
        refine bad ?_ ?_
        · unfold FX4_value FX4_requireReady
          rw [if_neg r1, ob_x0, os_ra 100 ha, ob_x0, d1, ob_d, if_pos (show os_bi none = (-1 : Int32) from rfl)]
        · unfold BX5_value_25
          rw [os_up1, if_pos rfl, if_pos (show os_bi none < 0 from by decide), e52]
      | some b =>
        rw [hbe] at d1 bad d2
        obtain ⟨hb1, hb2⟩ := os_best_lt hbe
        have hFb := hp b hb1
        have hc1 := hC.1
        obtain ⟨a1, a2, a3, a4, a5, a6, a7, a8, a9, a10, a11⟩ := id hFb
        have n1 : ¬ os_bi (some b) = (-1 : Int32) := on_ltm1 (by omega)
        have n2 : ¬ os_bi (some b) < 0 := nI_pos (by omega)
        have n3 : oa_in (os_bi (some b)) 13 = true := on_in (by omega) (by decide)
        have n4 : oa_in (os_bi (some b)) 12 = true := on_in (by omega) (by decide)
        have n5 : (os_bi (some b)).toNatClampNeg = b := nI_clamp (by omega)
        by_cases k3 : y < 0
        · refine bad ?_ ?_
          · unfold FX4_value FX4_requireReady BX4_value_47
            rw [if_neg r1, ob_x0, os_ra 100 ha, ob_x0, d1, ob_d, if_neg n1, if_pos k3]
          · unfold BX5_value_25
            rw [os_up1, if_pos rfl, if_neg n2, if_pos k3, e52]
        obtain ⟨o, ho, rfl⟩ := nI_of k3
        rcases Nat.lt_or_ge o (oc b) with k4 | k4
        · obtain ⟨kd, sc, fo, p1, p2, p3, p4, p5, p6⟩ := (hF.1 b hb1).2 o (by omega)
          have v1 := os_coperandAt hM hFb k4 ha p4.1 p1 (n := 100) (by decide)
          generalize hv : os_v kd (os_cnt (os_po (bt b) (sg b) o) 24) (os_fld (os_po (bt b) (sg b) o) (os_wb mem a) 24) (M 7 (3 * b + o) 3) (M 7 (3 * b + o) 4) (nI (a + bt b)) = v at v1
          obtain ⟨M1, hM1⟩ : ∃ M1 : oa_M, M1 = oa_up M 50 0 0 v := ⟨_, rfl⟩
          have k1 : ∀ k i f, k ≠ 50 → M1 k i f = M k i f := fun k i f h => by rw [hM1]; exact os_up (by omega)
          have hI1 : os_I M1 := by rw [hM1]; exact hI.up (by unfold os_free; omega) _
          obtain ⟨q1, q2, q3⟩ := kx M1 k1
          have e1 : FX4_value 100 (nI a) (nI o) M = some (0, v, M) := by
            unfold FX4_value FX4_requireReady
            rw [if_neg r1, ob_x0, os_ra 100 ha, ob_x0, d1, ob_d, if_neg n1, if_neg k3, if_pos n3, n5, a9.1, if_pos (nI_lt k4 (by omega)), if_pos n3, v1, ob_d]
          have g : ∀ z, oa_up (oa_up M1 20 0 30 0) 20 0 30 z = oa_up M1 20 0 30 z := fun z => by
            funext k i f
            simp only [oa_up]
            by_cases hh : k = 20 ∧ i = 0 ∧ f = 30
            · rw [if_pos hh, if_pos hh]
            · rw [if_neg hh, if_neg hh, if_neg hh]
          have v2 := os_mvalue q1 (q3 b hb1) (by omega) k4 hb2 (kd := kd) (by rw [os_up (by omega), k1 _ _ _ (by omega)]; exact p4.2) p1 (n := 100) (by decide)
          have e2 : FX5_value 100 (nI a) (nI o) M1 = some (v, oa_up M1 20 0 30 0) := by
            rw [d2 M1 k1]
            unfold BX5_value_25 BX5_value_56 BX5_value_60 BX5_value_81
            rw [os_up1, if_pos rfl, if_neg n2, if_neg k3, if_pos n4, n5, os_up (by omega), k1 28 _ _ (by omega), a9.2, if_pos (nI_lt k4 (by omega)), if_pos rfl, g, show FX5_valueOf 100 (os_bi (some b)) (nI a) (nI o) _ = _ from v2, ob_d, ← hv]
            rw [os_up (by omega), os_up (by omega), k1 31 _ _ (by omega), k1 32 _ _ (by omega), p5.1, p5.2, p6.1]
          refine ⟨100, 100, 0, M1, v, _, by unfold FL_value; rw [e1, hM1]; rfl, e2, by simp [oa_up], fun _ => ?_, hI1.up (by unfold os_free; omega) _⟩
          rw [os_up (by decide), hM1]
          exact os_up1
        · refine bad ?_ ?_
          · unfold FX4_value FX4_requireReady BX4_value_47
            rw [if_neg r1, ob_x0, os_ra 100 ha, ob_x0, d1, ob_d, if_neg n1, if_neg k3, if_pos n3, n5, a9.1, if_neg (nI_nlt k4 ho)]
          · unfold BX5_value_25
            rw [os_up1, if_pos rfl, if_neg n2, if_neg k3, if_pos n4, n5, os_up (by omega), a9.2, if_neg (nI_nlt k4 ho), e52]
    · refine ⟨0, 0, 2, M, 0, oa_up (oa_up M 20 0 30 2) 20 0 30 2, ?_, ?_, by simp [oa_up], fun h => absurd h (by decide), (hI.up (by unfold os_free; omega) _).up (by unfold os_free; omega) _⟩
      · unfold FL_value FX4_value FX4_requireReady
        rw [if_neg r1, ob_x0, os_ran 0 h]
        rfl
      · unfold FX5_value FX5_wrongAddress BX5_wrongAddress_26
        rw [if_neg r2, os_out63n 0 h, ob_d, if_neg (by decide), ob_d, if_neg (by decide)]
        unfold BX5_value_25 BX5_value_56 BX5_value_60 BX5_value_81
        rw [os_up1, if_neg (by decide), if_neg (by decide)]

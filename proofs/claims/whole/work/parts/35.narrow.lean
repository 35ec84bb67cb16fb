/-! narrower, and the test -/
def os_i (b : Bool) : Int32 := if b then 1 else 0
theorem os_nz (b : Bool) : oa_nz (os_i b) = os_i b := by cases b <;> rfl
theorem os_ext {P Q : Nat → Bool} (h : ∀ k, k < 24 → P k = Q k) : os_bits P 24 = os_bits Q 24 := by
  apply Nat.eq_of_testBit_eq
  intro b
  rw [os_bits_test P b 24 (Nat.le_refl _), os_bits_test Q b 24 (Nat.le_refl _)]
  by_cases hb : b < 24
  · rw [h (23 - b) (by omega)]
  · simp [hb]
theorem os_inj {P Q : Nat → Bool} : os_bits P 24 = os_bits Q 24 ↔ ∀ k, k < 24 → P k = Q k :=
  ⟨fun h k hk => by rw [← os_bt P hk, ← os_bt Q hk, h], os_ext⟩
theorem os_bits0 : os_bits (fun _ => false) 24 = 0 := by simp [os_bits]
theorem os_zero {P : Nat → Bool} : os_bits P 24 = 0 ↔ ∀ k, k < 24 → P k = false := by
  rw [← os_bits0]
  exact os_inj
theorem os_band (P Q : Nat → Bool) : os_bits P 24 &&& os_bits Q 24 = os_bits (fun k => P k && Q k) 24 := by
  apply Nat.eq_of_testBit_eq
  intro b
  rw [Nat.testBit_and, os_bits_test P b 24 (Nat.le_refl _), os_bits_test Q b 24 (Nat.le_refl _), os_bits_test _ b 24 (Nat.le_refl _)]
  cases decide (b < 24) <;> cases decide (23 - b < 24) <;> cases P (23 - b) <;> cases Q (23 - b) <;> rfl
theorem os_bxor (P Q : Nat → Bool) : os_bits P 24 ^^^ os_bits Q 24 = os_bits (fun k => P k != Q k) 24 := by
  apply Nat.eq_of_testBit_eq
  intro b
  rw [Nat.testBit_xor, os_bits_test P b 24 (Nat.le_refl _), os_bits_test Q b 24 (Nat.le_refl _), os_bits_test _ b 24 (Nat.le_refl _)]
  cases decide (b < 24) <;> cases decide (23 - b < 24) <;> cases P (23 - b) <;> cases Q (23 - b) <;> rfl
theorem os_bor (P Q : Nat → Bool) : os_bits P 24 ||| os_bits Q 24 = os_bits (fun k => P k || Q k) 24 := by
  apply Nat.eq_of_testBit_eq
  intro b
  rw [Nat.testBit_or, os_bits_test P b 24 (Nat.le_refl _), os_bits_test Q b 24 (Nat.le_refl _), os_bits_test _ b 24 (Nat.le_refl _)]
  cases decide (b < 24) <;> cases decide (23 - b < 24) <;> cases P (23 - b) <;> cases Q (23 - b) <;> rfl
theorem os_bnot (P Q : Nat → Bool) : os_bits P 24 &&& (os_bits Q 24 ^^^ (2 ^ 32 - 1)) = os_bits (fun k => P k && !Q k) 24 := by
  apply Nat.eq_of_testBit_eq
  intro b
  rw [Nat.testBit_and, Nat.testBit_xor, os_bits_test P b 24 (Nat.le_refl _), os_bits_test Q b 24 (Nat.le_refl _), os_bits_test _ b 24 (Nat.le_refl _), Nat.testBit_two_pow_sub_one]
  by_cases hb : b < 24
  · have h32 : b < 32 := by omega
    simp [hb, h32]
    cases P (23 - b) <;> cases Q (23 - b) <;> simp <;> omega
  · simp [hb]
theorem os_nIz {a : Nat} (h : a < 2 ^ 31) : nI a = 0 ↔ a = 0 := by
  rw [show (0 : Int32) = nI 0 from rfl, nI_eq h (by decide)]
theorem os_b31 (P : Nat → Bool) : os_bits P 24 < 2 ^ 31 := Nat.lt_trans (os_bits24 P) (by decide)
/-- two rows of signs: the first says all that the second says -/
def os_C (bt : Nat) (sg : Nat → Nat) (bt' : Nat) (sg' : Nat → Nat) (k : Nat) : Bool := !(os_pf bt' sg' k) || (os_pf bt sg k && decide (sg k = sg' k))
def os_al (C : Nat → Bool) : Nat → Bool
  | 0 => true
  | n + 1 => os_al C n && C n
theorem os_al_iff {C : Nat → Bool} : ∀ {n : Nat}, os_al C n = true ↔ ∀ k, k < n → C k = true
  | 0 => ⟨fun _ k h => absurd h (Nat.not_lt_zero _), fun _ => rfl⟩
  | n + 1 => by
    simp only [os_al, Bool.and_eq_true]
    rw [os_al_iff (n := n)]
    refine ⟨fun h k hk => ?_, fun h => ⟨fun k hk => h k (by omega), h n (by omega)⟩⟩
    rcases Nat.lt_or_ge k n with q | q
    · exact h.1 k q
    · rw [show k = n by omega]; exact h.2
theorem os_al_no {C : Nat → Bool} {k n : Nat} (hk : k < n) (h : C k = false) : os_al C n = false := by
  cases e : os_al C n with
  | false => rfl
  | true => rw [os_al_iff.mp e k hk] at h; cases h
def os_nar (bt : Nat) (sg : Nat → Nat) (bt' : Nat) (sg' : Nat → Nat) : Bool := os_al (os_C bt sg bt' sg') 24 && (decide (os_cnt (os_pf bt' sg') 24 < os_cnt (os_pf bt sg) 24) || (decide (os_cnt (os_pf bt sg) 24 = os_cnt (os_pf bt' sg') 24) && decide (bt' < bt)))
def os_fx (bt : Nat) (sg : Nat → Nat) (k : Nat) : Int32 := if os_pf bt sg k then nI (sg k) else -1
theorem os_cnt_le (P : Nat → Bool) : ∀ n, os_cnt P n ≤ n
  | 0 => Nat.le_refl _
  | n + 1 => by
    have := os_cnt_le P n
    simp only [os_cnt]
    split <;> omega
theorem os_fixed (n : Nat) {M : oa_M} {i bt : Nat} {sg : Nat → Nat} {L : List Nat} {oc k : Nat} (hF : os_F M i bt sg L oc) (hi : i < 12) (hk : k < 24) : FX5_fixed n (nI i) (nI k) M = some (os_fx bt sg k, M) := by
  obtain ⟨a1, a2, a3, a4, a5, a6, a7, a8, a9, a10, a11⟩ := hF
  unfold FX5_fixed BX5_fixed_39 BX5_fixed_40 os_fx os_pf
  rw [if_pos (on_in hi (by decide)), nI_clamp (by omega), a6.2]
  by_cases hb : k < 8 * bt
  · rw [if_neg (nI_ge hb (by omega)), show (24 : Int32) * nI i + nI k = nI (24 * i + k) from by rw [show (24 : Int32) = nI 24 from rfl, on_mul, nI_add], if_pos (on_in (by omega) (by decide)), nI_clamp (by omega), a7 k hb]
    have hs := a2 k hb
    by_cases h2 : sg k < 2
    · rw [if_neg (show ¬ (2 : Int32) ≤ nI (sg k) from nI_ge h2 (by decide)), if_pos (on_in (by omega) (by decide))]
      simp [hb, h2]
    · rw [if_pos (show (2 : Int32) ≤ nI (sg k) from nI_le (a := 2) (by omega) (by omega))]
      simp [hb, h2]
  · rw [if_pos (nI_le (by omega) (by omega))]
    simp [hb]
theorem os_m1lt : (-1 : Int32) < 0 := by decide
theorem os_mnar {M : oa_M} {i j bt bt' : Nat} {sg sg' : Nat → Nat} {L L' : List Nat} {oc oc' : Nat} (hF : os_F M i bt sg L oc) (hF' : os_F M j bt' sg' L' oc') (hi : i < 12) (hj : j < 12) :
    ∀ (r k n : Nat), k + r = 24 → r < n → os_al (os_C bt sg bt' sg') k = true → BX5_isNarrower_8 n (nI i) (nI j) (nI (os_cnt (os_pf bt sg) k)) (nI (os_cnt (os_pf bt' sg') k)) (nI k) M = some (os_i (os_nar bt sg bt' sg'), M) := by
  intro r
  induction r with
  | zero =>
    intro k n hk hn hal
    have hk : k = 24 := by omega
    subst hk
    obtain ⟨n', rfl⟩ : ∃ n', n = n' + 1 := ⟨n - 1, by omega⟩
    have l1 := os_cnt_le (os_pf bt sg) 24
    have l2 := os_cnt_le (os_pf bt' sg') 24
    unfold BX5_isNarrower_8
    rw [if_pos (show (24 : Int32) ≤ nI 24 from by decide)]
    unfold BX5_isNarrower_109 BX5_isNarrower_113 BX5_isNarrower_114 os_nar
    rw [hal, Bool.true_and]
    generalize os_cnt (os_pf bt sg) 24 = u at l1 ⊢
    generalize os_cnt (os_pf bt' sg') 24 = v at l2 ⊢
    by_cases h1 : v < u
    · rw [if_pos (nI_lt h1 (by omega))]
      simp [h1]
      rfl
    · rw [if_neg (nI_nlt (by omega) (by omega))]
      by_cases h2 : u = v
      · subst h2
        have b1 := hF.2.2.2.2.2.1.2
        have b2 := hF'.2.2.2.2.2.1.2
        have c1 := hF.1
        have c2 := hF'.1
        rw [if_pos rfl, if_pos (on_in hi (by decide)), if_pos (on_in hj (by decide)), nI_clamp (by omega), nI_clamp (by omega), b1, b2]
        by_cases h3 : bt' < bt
        · rw [if_neg (nI_ge (by omega) (by omega))]
          simp [h3]
          rfl
        · rw [if_pos (nI_le (by omega) (by omega))]
          simp [h3]
          rfl
      · rw [if_neg (fun q => h2 ((nI_eq (by omega) (by omega)).mp q))]
        simp [h1, h2]
        rfl
  | succ r ih =>
    intro k n hk hn hal
    obtain ⟨n', rfl⟩ : ∃ n', n = n' + 1 := ⟨n - 1, by omega⟩
    have l1 := os_cnt_le (os_pf bt sg) k
    have l2 := os_cnt_le (os_pf bt' sg') k
    unfold BX5_isNarrower_8
    rw [if_neg (show ¬ (24 : Int32) ≤ nI k from nI_ge (b := 24) (by omega) (by decide)), os_fixed n' hF hi (by omega), ob_d, os_fixed n' hF' hj (by omega), ob_d]
    have hsg := hF.2.1
    have hsg' := hF'.2.1
    by_cases p : os_pf bt sg k = true <;> by_cases p' : os_pf bt' sg' k = true
    · have q1 : sg k < 2 := by unfold os_pf at p; simp at p; exact p.2
      have q2 : sg' k < 2 := by unfold os_pf at p'; simp at p'; exact p'.2
      simp only [os_fx, p, p', if_true, Bool.false_eq_true, if_false]
      rw [if_neg (nI_pos (by omega))]
      by_cases e : sg k = sg' k
      · rw [if_pos (by rw [e])]
        unfold BX5_isNarrower_47 BX5_isNarrower_59 BX5_isNarrower_74
        rw [if_neg (nI_pos (by omega)), if_neg (nI_pos (by omega)), nI_1, nI_1, nI_1]
        have := ih (k + 1) n' (by omega) (by omega) (by simp only [os_al, hal, os_C, p, p', e]; simp)
        simp only [os_cnt, p, p', if_true, Bool.false_eq_true, if_false, Nat.add_zero] at this
        exact this
      · rw [if_neg (fun q => e ((nI_eq (by omega) (by omega)).mp q))]
        have : os_nar bt sg bt' sg' = false := by
          unfold os_nar
          rw [os_al_no (k := k) (by omega) (by simp [os_C, p, p', e])]
          rfl
        rw [this]
        rfl
    · simp only [os_fx, p, p', if_true, Bool.false_eq_true, if_false]
      rw [if_pos (by decide)]
      unfold BX5_isNarrower_47 BX5_isNarrower_59 BX5_isNarrower_74
      have q1 : sg k < 2 := by unfold os_pf at p; simp at p; exact p.2
      rw [if_neg (nI_pos (by omega)), if_pos (by decide), nI_1, nI_1]
      have := ih (k + 1) n' (by omega) (by omega) (by simp only [os_al, hal, os_C, p, p']; simp)
      simp only [os_cnt, p, p', if_true, Bool.false_eq_true, if_false, Nat.add_zero] at this
      exact this
    · simp only [os_fx, p, p', if_true, Bool.false_eq_true, if_false]
      have q2 : sg' k < 2 := by unfold os_pf at p'; simp at p'; exact p'.2
      rw [if_neg (nI_pos (by omega)), if_neg (show ¬ (-1 : Int32) = nI (sg' k) from fun q => on_ltm1 (a := sg' k) (by omega) q.symm)]
      have : os_nar bt sg bt' sg' = false := by
        unfold os_nar
        rw [os_al_no (k := k) (by omega) (by simp [os_C, p, p'])]
        rfl
      rw [this]
      rfl
    · simp only [os_fx, p, p', Bool.false_eq_true, if_false]
      rw [if_pos (by decide)]
      unfold BX5_isNarrower_47 BX5_isNarrower_59 BX5_isNarrower_74
      rw [if_pos (by decide), if_pos (by decide), nI_1]
      have := ih (k + 1) n' (by omega) (by omega) (by simp only [os_al, hal, os_C, p, p']; simp)
      simp only [os_cnt, p, p', Bool.false_eq_true, if_false, Nat.add_zero] at this
      exact this
theorem os_mnarrow {M : oa_M} {i j bt bt' : Nat} {sg sg' : Nat → Nat} {L L' : List Nat} {oc oc' : Nat} (hF : os_F M i bt sg L oc) (hF' : os_F M j bt' sg' L' oc') (hi : i < 12) (hj : j < 12) {n : Nat} (hn : 24 < n) : FX5_isNarrower n (nI i) (nI j) M = some (os_i (os_nar bt sg bt' sg'), M) :=
  os_mnar hF hF' hi hj 24 0 n rfl hn rfl
theorem os_agrees (n : Nat) {M : oa_M} {j bt : Nat} {sg : Nat → Nat} {L : List Nat} {oc : Nat} (hF : os_F M j bt sg L oc) (w : Nat) : FX0_agreesWith n j (nI w) M = some (os_i (decide (nI (w &&& os_bits (os_pf bt sg) 24) = nI (os_bits (os_p1 bt sg) 24))), M) := by
  obtain ⟨a1, a2, a3, a4, a5, a6, a7, a8, a9, a10, a11⟩ := hF
  unfold FX0_agreesWith BX0_agreesWith_18
  rw [a8.1, a8.2, on_and]
  by_cases h : nI (w &&& os_bits (os_pf bt sg) 24) = nI (os_bits (os_p1 bt sg) 24)
  · rw [if_pos h]; simp [h]; rfl
  · rw [if_neg h]; simp [h]; rfl
theorem os_al24 {bt bt' : Nat} {sg sg' : Nat → Nat} : (os_al (os_C bt sg bt' sg') 24 = true) ↔ (os_bits (fun k => os_pf bt' sg' k && !os_pf bt sg k) 24 = 0 ∧ os_bits (fun k => os_p1 bt sg k && os_pf bt' sg' k) 24 = os_bits (os_p1 bt' sg') 24) := by
  rw [os_al_iff, os_zero, os_inj]
  have key : ∀ k, os_C bt sg bt' sg' k = true ↔ ((os_pf bt' sg' k && !os_pf bt sg k) = false ∧ (os_p1 bt sg k && os_pf bt' sg' k) = os_p1 bt' sg' k) := by
    intro k
    unfold os_C os_pf os_p1
    by_cases h1 : k < 8 * bt <;> by_cases h2 : k < 8 * bt' <;> by_cases h3 : sg k < 2 <;> by_cases h4 : sg' k < 2 <;> by_cases h5 : sg k = 1 <;> by_cases h6 : sg' k = 1 <;> simp [h1, h2, h3, h4, h5, h6] <;> omega
  constructor
  · intro h
    exact ⟨fun k hk => ((key k).mp (h k hk)).1, fun k hk => ((key k).mp (h k hk)).2⟩
  · intro h k hk
    exact (key k).mpr ⟨h.1 k hk, h.2 k hk⟩
theorem os_subp {a b : Nat} (ha : a < 2 ^ 30) (hb : b < 2 ^ 30) : ((0 : Int32) < nI a - nI b ↔ b < a) ∧ (nI a - nI b = 0 ↔ a = b) := by
  have e : (nI a - nI b).toInt = (a : Int) - b := by
    rw [Int32.toInt_sub, on_toInt (by omega), on_toInt (by omega)]
    exact Int.bmod_eq_of_le (by omega) (by omega)
  constructor
  · rw [Int32.lt_iff_toInt_lt, e, show (0 : Int32).toInt = 0 from rfl]
    omega
  · rw [← Int32.toInt_inj, e, show (0 : Int32).toInt = 0 from rfl]
    omega
theorem os_cnarrow (n : Nat) {M : oa_M} {i j bt bt' : Nat} {sg sg' : Nat → Nat} {L L' : List Nat} {oc oc' : Nat} (hF : os_F M i bt sg L oc) (hF' : os_F M j bt' sg' L' oc') : FX0_isNarrowerThan n i j M = some (os_i (os_nar bt sg bt' sg'), M) := by
  have a8 := hF.2.2.2.2.2.2.2.1
  have a8' := hF'.2.2.2.2.2.2.2.1
  have a6 := hF.2.2.2.2.2.1
  have a6' := hF'.2.2.2.2.2.1
  have c1 := hF.1
  have c2 := hF'.1
  unfold FX0_isNarrowerThan BX0_isNarrowerThan_25
  rw [a8.1, a8'.1, a8.2, on_m1n, on_xor, on_and, os_bnot]
  by_cases h1 : os_bits (fun k => os_pf bt' sg' k && !os_pf bt sg k) 24 = 0
  · rw [if_pos (by rw [h1]; rfl), os_agrees n hF', ob_d, os_band]
    by_cases h2 : os_bits (fun k => os_p1 bt sg k && os_pf bt' sg' k) 24 = os_bits (os_p1 bt' sg') 24
    · have hal := os_al24.mpr ⟨h1, h2⟩
      rw [if_neg (by simp [h2, os_i]), a8.1, ob_bits24, ob_d, a8'.1, ob_bits24, ob_d]
      unfold BX0_isNarrowerThan_62 BX0_isNarrowerThan_66 BX0_isNarrowerThan_67 os_nar
      rw [hal, Bool.true_and]
      have l1 := os_cnt_le (os_pf bt sg) 24
      have l2 := os_cnt_le (os_pf bt' sg') 24
      generalize os_cnt (os_pf bt sg) 24 = u at l1 ⊢
      generalize os_cnt (os_pf bt' sg') 24 = v at l2 ⊢
      have hs := os_subp (a := u) (b := v) (by omega) (by omega)
      by_cases g1 : v < u
      · rw [if_pos (hs.1.mpr g1)]
        simp [g1]
        rfl
      · rw [if_neg (fun q => g1 (hs.1.mp q))]
        by_cases g2 : u = v
        · rw [if_pos (hs.2.mpr g2), a6.1, a6'.1]
          by_cases g3 : bt' < bt
          · rw [if_neg (nI_ge g3 (by omega))]
            simp [g2, g3]
            rfl
          · rw [if_pos (nI_le (by omega) (by omega))]
            simp [g2, g3]
            rfl
        · rw [if_neg (fun q => g2 (hs.2.mp q))]
          simp [g1, g2]
          rfl
    · have hal : os_al (os_C bt sg bt' sg') 24 = false := by
        cases e : os_al (os_C bt sg bt' sg') 24 with
        | false => rfl
        | true => exact absurd (os_al24.mp e).2 h2
      have : ¬ nI (os_bits (fun k => os_p1 bt sg k && os_pf bt' sg' k) 24) = nI (os_bits (os_p1 bt' sg') 24) := fun q => h2 ((nI_eq (os_b31 _) (os_b31 _)).mp q)
      rw [if_pos (by simp [this, os_i])]
      unfold os_nar
      rw [hal]
      rfl
  · have hal : os_al (os_C bt sg bt' sg') 24 = false := by
      cases e : os_al (os_C bt sg bt' sg') 24 with
      | false => rfl
      | true => exact absurd (os_al24.mp e).1 h1
    rw [if_neg (fun q => h1 ((os_nIz (os_b31 _)).mp q))]
    unfold os_nar
    rw [hal]
    rfl

/-! the signs of a form, on both sides -/
def os_sc (x : Nat) : Nat := if x = 48 then 0 else if x = 49 then 1 else if 120 ≤ x ∧ x ≤ 122 then x - 118 else 9
theorem os_bits_ext {P Q : Nat → Bool} : ∀ n, (∀ j, j < n → P j = Q j) → os_bits P n = os_bits Q n
  | 0, _ => rfl
  | n + 1, h => by
    simp only [os_bits]
    rw [os_bits_ext n (fun j hj => h j (by omega)), h n (by omega)]
theorem os_cnt_ext {P Q : Nat → Bool} : ∀ n, (∀ j, j < n → P j = Q j) → os_cnt P n = os_cnt Q n
  | 0, _ => rfl
  | n + 1, h => by
    simp only [os_cnt]
    rw [os_cnt_ext n (fun j hj => h j (by omega)), h n (by omega)]
theorem os_bits_cut {P Q : Nat → Bool} {S : Nat} (h : ∀ j, j < S → Q j = P j) (h2 : ∀ j, S ≤ j → Q j = false) : ∀ d, os_bits Q (S + d) = os_bits P S
  | 0 => os_bits_ext S h
  | d + 1 => by
    rw [← Nat.add_assoc]
    simp only [os_bits]
    rw [h2 (S + d) (by omega), os_bits_cut h h2 d]
    simp
theorem os_cnt_cut {P Q : Nat → Bool} {S : Nat} (h : ∀ j, j < S → Q j = P j) (h2 : ∀ j, S ≤ j → Q j = false) : ∀ d, os_cnt Q (S + d) = os_cnt P S
  | 0 => os_cnt_ext S h
  | d + 1 => by
    rw [← Nat.add_assoc]
    simp only [os_cnt]
    rw [h2 (S + d) (by omega), os_cnt_cut h h2 d]
    simp
theorem os_bits_or (P : Nat → Bool) {k : Nat} (hk : k < 24) : os_bits P k ||| 2 ^ (23 - k) = os_bits P k + 2 ^ (23 - k) := by
  obtain ⟨q, hq⟩ := os_bits_dvd P k (by omega)
  rw [hq, ← Nat.two_pow_add_eq_or_of_lt (i := 24 - k) (Nat.pow_lt_pow_right (by decide) (by omega)) q]
theorem os_bits_no {P : Nat → Bool} {k : Nat} (h : P k = false) : os_bits P (k + 1) = os_bits P k := by simp [os_bits, h]
theorem os_cnt_no {P : Nat → Bool} {k : Nat} (h : P k = false) : os_cnt P (k + 1) = os_cnt P k := by simp [os_cnt, h]
theorem os_bits_yes {P : Nat → Bool} {k : Nat} (h : P k = true) : os_bits P (k + 1) = os_bits P k + 2 ^ (23 - k) := by simp [os_bits, h]
/-- a row after k signs -/
def os_rw (M : oa_M) (i : Nat) (sg : Nat → Nat) (k : Nat) : Prop := M 5 i 3 = nI (os_bits (fun j => decide (sg j < 2)) k) ∧ M 5 i 4 = nI (os_bits (fun j => decide (sg j = 1)) k) ∧ ∀ o, o < 3 → M 7 (3 * i + o) 0 = nI (os_bits (fun j => decide (sg j = 2 + o)) k) ∧ M 7 (3 * i + o) 1 = nI (os_cnt (fun j => decide (sg j = 2 + o)) k)
/-- what reading a row may change -/
def os_k5 (i : Nat) (M M' : oa_M) : Prop := ∀ k i' f, ¬ (k = 1 ∧ i' = 0 ∧ f = 2) → ¬ (k = 5 ∧ i' = i) → ¬ (k = 7 ∧ f < 2 ∧ 3 * i ≤ i' ∧ i' < 3 * i + 3) → M' k i' f = M k i' f
theorem os_k5.rf (i : Nat) (M : oa_M) : os_k5 i M M := fun _ _ _ _ _ _ => rfl
theorem os_k5.tr {i : Nat} {M M1 M2 : oa_M} (h : os_k5 i M M1) (h2 : os_k5 i M1 M2) : os_k5 i M M2 := fun k i' f a b c => (h2 k i' f a b c).trans (h k i' f a b c)
theorem os_k1.k5 {i : Nat} {M M' : oa_M} (h : os_k1 M M') : os_k5 i M M' := fun k i' f a _ _ => h k i' f a
theorem os_k5.tx {i : Nat} {M M' : oa_M} (h : ∀ k i' f, ¬ (k = 5 ∧ i' = i) → ¬ (k = 7 ∧ f < 2 ∧ 3 * i ≤ i' ∧ i' < 3 * i + 3) → M' k i' f = M k i' f) {len p : Nat} {c : Nat → Nat} (ht : os_tx M len c p) : os_tx M' len c p := ht.to (fun i f _ => h _ _ _ (by omega) (by omega)) (fun j => h _ _ _ (by omega) (by omega))
theorem os_bit {k : Nat} (hk : k < 24) : (1 : Int32) <<< (((23 : Int32) - nI k) &&& 31) = nI (2 ^ (23 - k)) := by
  rw [show (23 : Int32) = nI 23 from rfl, on_sub (by omega), show (1 : Int32) = nI 1 from rfl, on_shl 1 (by omega), Nat.one_mul]
theorem os_addSign (n : Nat) {M : oa_M} {i k x : Nat} {sg : Nat → Nat} (hk : k < 24) (hx : x < 65536) (hs : sg k = os_sc x) (hr : os_rw M i sg k) : ∃ M', FX0_addSign n i (nI k) (nI x) M = some (os_i (decide (sg k < 5)), M') ∧ (sg k < 5 → os_rw M' i sg (k + 1)) ∧ (M' 5 i 1 = M 5 i 1 ∧ M' 5 i 2 = M 5 i 2 ∧ M' 5 i 5 = M 5 i 5) ∧ ∀ k i' f, ¬ (k = 5 ∧ i' = i) → ¬ (k = 7 ∧ f < 2 ∧ 3 * i ≤ i' ∧ i' < 3 * i + 3) → M' k i' f = M k i' f := by
  obtain ⟨r1, r2, r3⟩ := hr
  unfold FX0_addSign BX0_addSign_19 BX0_addSign_45 BX0_addSign_63
  rw [os_bit hk]
  have ne : ∀ (u v : Nat), u < 65536 → v < 65536 → ¬ u = v → ¬ nI u = nI v := fun u v hu hv h q => h ((nI_eq (by omega) (by omega)).mp q)
  rw [show (48 : Int32) = nI 48 from rfl, show (49 : Int32) = nI 49 from rfl, show (120 : Int32) = nI 120 from rfl, show (122 : Int32) = nI 122 from rfl]
  by_cases h0 : x = 48
  · have e : sg k = 0 := by rw [hs, os_sc, if_pos h0]
    rw [if_pos (by rw [h0]), if_neg (ne x 49 hx (by decide) (by omega)), r1, on_or, os_bits_or _ hk, os_up (by omega), r2, show (0 : Int32) = nI 0 from rfl, on_or, Nat.or_zero]
    rw [show decide (sg k < 5) = true from decide_eq_true (by omega)]
    refine ⟨_, rfl, fun _ => ⟨?_, ?_, fun o ho => ?_⟩, ⟨?_, ?_, ?_⟩, fun k' i' f a b => ?_⟩
    · rw [os_up (by omega), os_up1]; simp [os_bits, e]
    · rw [os_up1]; simp [os_bits, e]
    · rw [os_up (by omega), os_up (by omega), os_up (by omega), os_up (by omega), (r3 o ho).1, (r3 o ho).2, os_bits_no (k := k) (decide_eq_false (by omega)), os_cnt_no (k := k) (decide_eq_false (by omega))]; exact ⟨rfl, rfl⟩
    · rw [os_up (by omega), os_up (by omega)]
    · rw [os_up (by omega), os_up (by omega)]
    · rw [os_up (by omega), os_up (by omega)]
    · rw [os_up (by omega), os_up (by omega)]
  by_cases h1 : x = 49
  · have e : sg k = 1 := by rw [hs, os_sc, if_neg h0, if_pos h1]
    rw [if_neg (ne x 48 hx (by decide) h0), if_pos (by rw [h1]), if_pos (by rw [h1]), r1, on_or, os_bits_or _ hk, os_up (by omega), r2, on_or, os_bits_or _ hk]
    rw [show decide (sg k < 5) = true from decide_eq_true (by omega)]
    refine ⟨_, rfl, fun _ => ⟨?_, ?_, fun o ho => ?_⟩, ⟨?_, ?_, ?_⟩, fun k' i' f a b => ?_⟩
    · rw [os_up (by omega), os_up1]; simp [os_bits, e]
    · rw [os_up1]; simp [os_bits, e]
    · rw [os_up (by omega), os_up (by omega), os_up (by omega), os_up (by omega), (r3 o ho).1, (r3 o ho).2, os_bits_no (k := k) (decide_eq_false (by omega)), os_cnt_no (k := k) (decide_eq_false (by omega))]; exact ⟨rfl, rfl⟩
    · rw [os_up (by omega), os_up (by omega)]
    · rw [os_up (by omega), os_up (by omega)]
    · rw [os_up (by omega), os_up (by omega)]
    · rw [os_up (by omega), os_up (by omega)]
  rw [if_neg (ne x 48 hx (by decide) h0), if_neg (ne x 49 hx (by decide) h1)]
  by_cases h2 : 120 ≤ x ∧ x ≤ 122
  · have e : sg k = x - 118 := by rw [hs, os_sc, if_neg h0, if_neg h1, if_pos h2]
    obtain ⟨o, ho, ex⟩ : ∃ o, o < 3 ∧ x = 120 + o := ⟨x - 120, by omega, by omega⟩
    rw [if_neg (nI_nlt h2.1 (by omega)), if_pos (nI_le h2.2 (by decide)), on_sub h2.1, show x - 120 = o by omega, if_pos (on_in ho (by decide)), if_pos (on_in ho (by decide)), nI_clamp (by omega), (r3 o ho).1, on_or, os_bits_or _ hk, os_up (M := M) (k' := 7) (i' := 3 * i + o) (f' := 1) (by omega), (r3 o ho).2, nI_1]
    have e2 : sg k = 2 + o := by omega
    rw [show decide (sg k < 5) = true from decide_eq_true (by omega)]
    refine ⟨_, rfl, fun _ => ⟨?_, ?_, fun o' ho' => ?_⟩, ⟨?_, ?_, ?_⟩, fun k' i' f a b => ?_⟩
    · rw [os_up (by omega), os_up (by omega), r1, os_bits_no (k := k) (decide_eq_false (by omega))]
    · rw [os_up (by omega), os_up (by omega), r2, os_bits_no (k := k) (decide_eq_false (by omega))]
    · by_cases ho2 : o' = o
      · subst ho2
        refine ⟨?_, ?_⟩
        · rw [os_up (by omega), os_up1]; simp [os_bits, e2]
        · rw [os_up1]; simp [os_cnt, e2]
      · refine ⟨?_, ?_⟩
        · rw [os_up (by omega), os_up (by omega), (r3 o' ho').1, os_bits_no (k := k) (decide_eq_false (by omega))]
        · rw [os_up (by omega), os_up (by omega), (r3 o' ho').2, os_cnt_no (k := k) (decide_eq_false (by omega))]
    · rw [os_up (by omega), os_up (by omega)]
    · rw [os_up (by omega), os_up (by omega)]
    · rw [os_up (by omega), os_up (by omega)]
    · rw [os_up (by omega), os_up (by omega)]
  · have e : sg k = 9 := by rw [hs, os_sc, if_neg h0, if_neg h1, if_neg h2]
    have e5 : decide (sg k < 5) = false := decide_eq_false (by omega)
    rw [e5]
    by_cases h3 : x < 120
    · rw [if_pos (nI_lt h3 (by decide))]
      exact ⟨M, rfl, fun h => by omega, ⟨rfl, rfl, rfl⟩, fun _ _ _ _ _ => rfl⟩
    · rw [if_neg (nI_nlt (by omega) (by omega)), if_neg (nI_ge (by omega) (by omega))]
      exact ⟨M, rfl, fun h => by omega, ⟨rfl, rfl, rfl⟩, fun _ _ _ _ _ => rfl⟩
def os_vd (sg : Nat → Nat) (S : Nat) : Bool := os_al (fun j => decide (sg j < 5)) S
theorem os_csl {len i p2 S : Nat} {c sg : Nat → Nat} (hS : S ≤ 24) (hlen : p2 + S = len) (hsg : ∀ j, j < S → sg j = os_sc (c (p2 + j))) (x2 : Int32) :
    ∀ (r k n : Nat) (M : oa_M), k + r = S → r < n → os_tx M len c (p2 + k) → os_rw M i sg k → os_vd sg k = true → ∃ M', os_k5 i M M' ∧ (M' 5 i 1 = M 5 i 1 ∧ M' 5 i 2 = M 5 i 2 ∧ M' 5 i 5 = M 5 i 5) ∧ (os_vd sg S = true → os_rw M' i sg S ∧ BX4_readForm_66 n i x2 (nI S) (nI k) M = oa_bd (FX0_countOperands (n - r - 1) i M') (fun r2 M3 => some (oa_nz r2, M3))) ∧ (os_vd sg S = false → BX4_readForm_66 n i x2 (nI S) (nI k) M = some (0, M')) := by
  intro r
  induction r with
  | zero =>
    intro k n M hk hn ht hr hv
    obtain ⟨n', rfl⟩ : ∃ n', n = n' + 1 := ⟨n - 1, by omega⟩
    have hk : k = S := by omega
    subst hk
    refine ⟨M, os_k5.rf i M, ⟨rfl, rfl, rfl⟩, fun _ => ⟨hr, ?_⟩, fun h => by rw [hv] at h; cases h⟩
    rw [BX4_readForm_66, if_pos (nI_le (Nat.le_refl _) (by omega))]
    rfl
  | succ r ih =>
    intro k n M hk hn ht hr hv
    obtain ⟨n', rfl⟩ : ∃ n', n = n' + 1 := ⟨n - 1, by omega⟩
    have hkS : k < S := by omega
    have hlen40 := ht.1
    obtain ⟨s1, s2⟩ := os_step ht (by omega)
    have hc := (ht.2.2.2.2 (p2 + k) (by omega)).2
    have hr1 : os_rw (oa_up M 1 0 2 (nI (p2 + k + 1))) i sg k := ⟨by rw [os_up (by omega)]; exact hr.1, by rw [os_up (by omega)]; exact hr.2.1, fun o ho => by rw [os_up (by omega), os_up (by omega)]; exact hr.2.2 o ho⟩
    obtain ⟨M1, a1, a2, a3, a4⟩ := os_addSign n' (x := c (p2 + k)) (by omega) hc (hsg k hkS) hr1
    have f1 : os_k5 i M M1 := s2.k5.tr (fun k i' f _ b c => a4 k i' f b c)
    have t1 : os_tx M1 len c (p2 + k + 1) := os_k5.tx a4 s1
    have e0 : BX4_readForm_66 (n' + 1) i x2 (nI S) (nI k) M = (if os_i (decide (sg k < 5)) = 0 then (some ((0 : Int32), M1)) else (BX4_readForm_66 n' i x2 (nI S) (nI (k + 1)) M1)) := by
      rw [BX4_readForm_66, if_neg (nI_ge hkS (by omega)), os_takeAny n' ht, ob_d, show os_at' c len (p2 + k) = c (p2 + k) from if_pos (by omega), a1, ob_d, nI_1]
    have g15 : M1 5 i 1 = M 5 i 1 ∧ M1 5 i 2 = M 5 i 2 ∧ M1 5 i 5 = M 5 i 5 := by
      refine ⟨a3.1.trans ?_, a3.2.1.trans ?_, a3.2.2.trans ?_⟩ <;> exact os_up (by omega)
    rw [e0]
    by_cases h5 : sg k < 5
    · rw [if_neg (by simp [h5, os_i])]
      obtain ⟨M', b1, b2, b3, b4⟩ := ih (k + 1) n' M1 (by omega) (by omega) t1 (a2 h5) (by unfold os_vd at hv ⊢; simp only [os_al, hv, h5]; rfl)
      refine ⟨M', f1.tr b1, ⟨b2.1.trans g15.1, b2.2.1.trans g15.2.1, b2.2.2.trans g15.2.2⟩, fun h => ?_, b4⟩
      rw [show n' + 1 - (r + 1) - 1 = n' - r - 1 by omega]
      exact b3 h
    · rw [if_pos (by simp [h5, os_i])]
      have hf : os_vd sg S = false := os_al_no hkS (by simp [h5])
      exact ⟨M1, f1, g15, (fun h => by rw [hf] at h; cases h), fun _ => rfl⟩
/-- the fields' sizes: in order, and none too wide -/
def os_okw (w0 w1 w2 : Nat) : Bool := (decide (w0 ≤ 16) && (decide (w1 ≤ 16) && decide (w2 ≤ 16))) && ((decide (w1 = 0) || decide (0 < w0)) && (decide (w2 = 0) || decide (0 < w1)))
def os_ocn (w0 w1 w2 : Nat) : Nat := if 0 < w2 then 3 else if 0 < w1 then 2 else if 0 < w0 then 1 else 0
theorem os_cst (n : Nat) {M : oa_M} {i o q w : Nat} (ho : o < 3) (hq : q ≤ 3) (hw : w ≤ 24) (h5 : M 5 i 5 = nI q) (hwd : M 7 (3 * i + o) 1 = nI w) : BX0_countOperands_2 (n + 1) i (nI o) M = (if 16 < w then some (0, M) else if w = 0 then BX0_countOperands_2 n i (nI (o + 1)) M else if o ≤ q then BX0_countOperands_2 n i (nI (o + 1)) (oa_up M 5 i 5 (nI (q + 1))) else some (0, M)) := by
  rw [BX0_countOperands_2, if_neg (show ¬ (3 : Int32) ≤ nI o from nI_ge (b := 3) ho (by decide)), if_pos (on_in ho (by decide)), nI_clamp (by omega), hwd]
  unfold BX0_countOperands_39 BX0_countOperands_41 BX0_countOperands_55
  rw [h5, nI_1, nI_1]
  by_cases h1 : 16 < w
  · rw [if_pos (show (16 : Int32) < nI w from nI_lt (a := 16) h1 (by omega)), if_pos h1]
  · rw [if_neg (show ¬ (16 : Int32) < nI w from nI_nlt (a := 16) (by omega) (by decide)), if_neg h1]
    by_cases h2 : w = 0
    · subst h2
      rw [if_pos (show nI 0 ≤ 0 from by decide), if_pos (show nI 0 ≤ 0 from by decide), if_pos rfl]
    · rw [if_neg (nI_nle (by omega) (by omega)), if_neg h2, if_neg (nI_nle (by omega) (by omega))]
      by_cases h3 : o ≤ q
      · rw [if_pos (nI_le h3 (by omega)), if_pos h3]
      · rw [if_neg (nI_ge (by omega) (by omega)), if_neg h3]
theorem os_wd_up {M : oa_M} {i q w : Nat} {x : Int32} (hwd : M 7 q 1 = nI w) : (oa_up M 5 i 5 x) 7 q 1 = nI w := by
  rw [os_up (by omega)]
  exact hwd
theorem os_upup {M : oa_M} {k i f : Nat} {x y : Int32} : oa_up (oa_up M k i f x) k i f y = oa_up M k i f y := by
  funext k' i' f'
  simp only [oa_up]
  by_cases h : k' = k ∧ i' = i ∧ f' = f
  · rw [if_pos h, if_pos h]
  · rw [if_neg h, if_neg h, if_neg h]
theorem os_cco {M : oa_M} {i w0 w1 w2 : Nat} (l0 : w0 ≤ 24) (l1 : w1 ≤ 24) (l2 : w2 ≤ 24) (h5 : M 5 i 5 = nI 0) (d0 : M 7 (3 * i + 0) 1 = nI w0) (d1 : M 7 (3 * i + 1) 1 = nI w1) (d2 : M 7 (3 * i + 2) 1 = nI w2) {n : Nat} (hn : 4 < n) : ∃ M', FX0_countOperands n i M = some (os_i (os_okw w0 w1 w2), M') ∧ (os_okw w0 w1 w2 = true → M' 5 i 5 = nI (os_ocn w0 w1 w2)) ∧ ∀ k i' f, ¬ (k = 5 ∧ i' = i ∧ f = 5) → M' k i' f = M k i' f := by
  obtain ⟨n', rfl⟩ : ∃ n', n = n' + 1 + 1 + 1 + 1 := ⟨n - 4, by omega⟩
  have fr : ∀ x, ∀ k i' f, ¬ (k = 5 ∧ i' = i ∧ f = 5) → (oa_up M 5 i 5 x) k i' f = M k i' f := fun x k i' f h => os_up h
  have bad : ∀ M' : oa_M, (∀ k i' f, ¬ (k = 5 ∧ i' = i ∧ f = 5) → M' k i' f = M k i' f) → os_okw w0 w1 w2 = false → ∃ M'' : oa_M, some ((0 : Int32), M') = some (os_i (os_okw w0 w1 w2), M'') ∧ (os_okw w0 w1 w2 = true → M'' 5 i 5 = nI (os_ocn w0 w1 w2)) ∧ ∀ k i' f, ¬ (k = 5 ∧ i' = i ∧ f = 5) → M'' k i' f = M k i' f := fun M' hf h => ⟨M', by rw [h]; rfl, (fun q => by rw [h] at q; cases q), hf⟩
  have good : ∀ (m : Nat) (M' : oa_M), (∀ k i' f, ¬ (k = 5 ∧ i' = i ∧ f = 5) → M' k i' f = M k i' f) → M' 5 i 5 = nI (os_ocn w0 w1 w2) → os_okw w0 w1 w2 = true → ∃ M'' : oa_M, BX0_countOperands_2 (m + 1) i (nI (2 + 1)) M' = some (os_i (os_okw w0 w1 w2), M'') ∧ (os_okw w0 w1 w2 = true → M'' 5 i 5 = nI (os_ocn w0 w1 w2)) ∧ ∀ k i' f, ¬ (k = 5 ∧ i' = i ∧ f = 5) → M'' k i' f = M k i' f := fun m M' hf hq h => ⟨M', by rw [BX0_countOperands_2, if_pos (show (3 : Int32) ≤ nI (2 + 1) from by decide), h]; rfl, fun _ => hq, hf⟩
  unfold FX0_countOperands
  rw [show (0 : Int32) = nI 0 from rfl, os_cst _ (by decide) (by decide) l0 h5 d0]
  by_cases a0 : 16 < w0
  · rw [if_pos a0]
    exact bad M (fun _ _ _ _ => rfl) (by simp [os_okw, show ¬ w0 ≤ 16 by omega])
  rw [if_neg a0]
  by_cases z0 : w0 = 0
  · rw [if_pos z0, os_cst _ (by decide) (by decide) l1 h5 d1]
    by_cases a1 : 16 < w1
    · rw [if_pos a1]
      exact bad M (fun _ _ _ _ => rfl) (by simp [os_okw, show ¬ w1 ≤ 16 by omega])
    rw [if_neg a1]
    by_cases z1 : w1 = 0
    · rw [if_pos z1, os_cst _ (by decide) (by decide) l2 h5 d2]
      by_cases a2 : 16 < w2
      · rw [if_pos a2]
        exact bad M (fun _ _ _ _ => rfl) (by simp [os_okw, show ¬ w2 ≤ 16 by omega])
      rw [if_neg a2]
      by_cases z2 : w2 = 0
      · rw [if_pos z2]
        exact good _ M (fun _ _ _ _ => rfl) (by rw [h5]; simp [os_ocn, z0, z1, z2]) (by simp [os_okw, z0, z1, z2])
      · rw [if_neg z2, if_neg (by decide)]
        exact bad M (fun _ _ _ _ => rfl) (by simp [os_okw, z1, z2])
    · rw [if_neg z1, if_neg (by decide)]
      exact bad M (fun _ _ _ _ => rfl) (by simp [os_okw, z0, z1])
  · rw [if_neg z0, if_pos (by decide), os_cst _ (M := oa_up M 5 i 5 (nI (0 + 1))) (by decide) (q := 1) (by decide) l1 os_up1 (os_wd_up d1)]
    by_cases a1 : 16 < w1
    · rw [if_pos a1]
      exact bad _ (fr _) (by simp [os_okw, show ¬ w1 ≤ 16 by omega])
    rw [if_neg a1]
    by_cases z1 : w1 = 0
    · rw [if_pos z1, os_cst _ (M := oa_up M 5 i 5 (nI (0 + 1))) (by decide) (q := 1) (by decide) l2 os_up1 (os_wd_up d2)]
      by_cases a2 : 16 < w2
      · rw [if_pos a2]
        exact bad _ (fr _) (by simp [os_okw, show ¬ w2 ≤ 16 by omega])
      rw [if_neg a2]
      by_cases z2 : w2 = 0
      · rw [if_pos z2]
        exact good _ _ (fr _) (by rw [os_up1]; simp [os_ocn, z1, z2, show 0 < w0 by omega]) (by simp [os_okw, z1, z2, show w0 ≤ 16 by omega])
      · rw [if_neg z2, if_neg (by decide)]
        exact bad _ (fr _) (by simp [os_okw, z1, z2])
    · rw [if_neg z1, if_pos (by decide), os_upup, os_cst _ (M := oa_up M 5 i 5 (nI (1 + 1))) (by decide) (q := 2) (by decide) l2 os_up1 (os_wd_up d2)]
      by_cases a2 : 16 < w2
      · rw [if_pos a2]
        exact bad _ (fr _) (by simp [os_okw, show ¬ w2 ≤ 16 by omega])
      rw [if_neg a2]
      have ok : os_okw w0 w1 w2 = true := by simp [os_okw, show w0 ≤ 16 by omega, show w1 ≤ 16 by omega, show w2 ≤ 16 by omega, show 0 < w0 by omega, show 0 < w1 by omega]
      by_cases z2 : w2 = 0
      · rw [if_pos z2]
        exact good _ _ (fr _) (by rw [os_up1]; simp [os_ocn, z2, show 0 < w1 by omega]) ok
      · rw [if_neg z2, if_pos (by decide), os_upup]
        exact good _ _ (fr _) (by rw [os_up1]; simp [os_ocn, show 0 < w2 by omega]) ok

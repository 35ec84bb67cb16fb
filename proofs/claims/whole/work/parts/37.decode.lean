/-! the memory's word, and what matches it -/
def os_mb (mem : Nat → Nat) (j : Nat) : Nat := if j < 64 then mem j else 0
def os_word (mem : Nat → Nat) (a : Nat) : Nat := 65536 * os_mb mem a + 256 * os_mb mem (a + 1) + os_mb mem (a + 2)
def os_wb (mem : Nat → Nat) (a k : Nat) : Bool := Nat.testBit (os_mb mem (a + k / 8)) (7 - k % 8)
theorem os_mb_lt {M : oa_M} {mem : Nat → Nat} (h : os_Mem M mem) (j : Nat) : os_mb mem j < 256 := by
  unfold os_mb
  split
  · exact (h j ‹_›).2.2
  · decide
theorem os_or8 {w v : Nat} (h : v < 256) : w * 2 ^ 8 ||| v = 256 * w + v := by
  rw [Nat.mul_comm, ← Nat.two_pow_add_eq_or_of_lt (i := 8) h w]
theorem os_wstep {M : oa_M} {mem : Nat → Nat} (h : os_Mem M mem) {a i w : Nat} (ha : a < 64) (hi : i < 3) (n : Nat) : BX4_wordAt_4 (n + 1) (nI a) (nI w) (nI i) M = BX4_wordAt_4 n (nI a) (nI (256 * w + os_mb mem (a + i))) (nI (i + 1)) M := by
  have hb := os_mb_lt h (a + i)
  rw [BX4_wordAt_4]
  rw [if_neg (show ¬ (3 : Int32) ≤ nI i from nI_ge (b := 3) hi (by decide)), nI_add, if_neg (nI_pos (by omega)), show (8 : Int32) = nI 8 from rfl, on_shl w (by decide)]
  unfold BX4_wordAt_40 BX4_wordAt_41
  by_cases h64 : a + i < 64
  · have e : os_mb mem (a + i) = mem (a + i) := if_pos h64
    rw [if_neg (show ¬ (64 : Int32) ≤ nI (a + i) from nI_ge (b := 64) h64 (by decide)), if_pos (on_in h64 (by decide)), nI_clamp (by omega), (h _ h64).1, on_or, ← e, os_or8 hb, nI_1]
  · have e : os_mb mem (a + i) = 0 := if_neg h64
    rw [if_pos (show (64 : Int32) ≤ nI (a + i) from nI_le (a := 64) (by omega) (by omega)), show (0 : Int32) = nI 0 from rfl, on_or, e, os_or8 (by decide), nI_1]
theorem os_wordAt {M : oa_M} {mem : Nat → Nat} (h : os_Mem M mem) {a : Nat} (ha : a < 64) {n : Nat} (hn : 3 < n) : FX4_wordAt n (nI a) M = some (nI (os_word mem a), M) := by
  obtain ⟨n', rfl⟩ : ∃ n', n = n' + 1 + 1 + 1 + 1 := ⟨n - 4, by omega⟩
  unfold FX4_wordAt
  show BX4_wordAt_4 _ _ (nI 0) (nI 0) M = _
  rw [os_wstep h ha (by decide), os_wstep h ha (by decide), os_wstep h ha (by decide)]
  rw [BX4_wordAt_4, if_pos (show (3 : Int32) ≤ nI 3 from by decide)]
  unfold os_word
  congr 3
  simp only [Nat.add_zero, Nat.zero_add, Nat.reduceAdd]
  omega
theorem os_word_bits {M : oa_M} {mem : Nat → Nat} (h : os_Mem M mem) (a : Nat) : os_word mem a = os_bits (os_wb mem a) 24 := by
  have h0 := os_mb_lt h a
  have h1 := os_mb_lt h (a + 1)
  have h2 := os_mb_lt h (a + 2)
  apply Nat.eq_of_testBit_eq
  intro b
  rw [os_bits_test _ b 24 (Nat.le_refl _)]
  unfold os_word os_wb
  rw [show 65536 * os_mb mem a + 256 * os_mb mem (a + 1) + os_mb mem (a + 2) = 2 ^ 8 * (2 ^ 8 * os_mb mem a + os_mb mem (a + 1)) + os_mb mem (a + 2) by omega, Nat.testBit_two_pow_mul_add _ (show os_mb mem (a + 2) < 2 ^ 8 from h2)]
  by_cases b1 : b < 8
  · rw [if_pos b1, show (23 - b) / 8 = 2 by omega, show 7 - (23 - b) % 8 = b by omega]
    simp [show b < 24 by omega, show 23 - b < 24 by omega]
  · rw [if_neg b1, Nat.testBit_two_pow_mul_add _ (show os_mb mem (a + 1) < 2 ^ 8 from h1)]
    by_cases b2 : b - 8 < 8
    · rw [if_pos b2, show (23 - b) / 8 = 1 by omega, show 7 - (23 - b) % 8 = b - 8 by omega]
      simp [show b < 24 by omega, show 23 - b < 24 by omega]
    · rw [if_neg b2]
      by_cases b3 : b < 24
      · rw [show (23 - b) / 8 = 0 by omega, show 7 - (23 - b) % 8 = b - 8 - 8 by omega]
        simp [b3, show 23 - b < 24 by omega]
      · simp [b3]
        exact Nat.testBit_lt_two_pow (Nat.lt_of_lt_of_le h0 (by
          have : 2 ^ 8 ≤ 2 ^ (b - 8 - 8) := Nat.pow_le_pow_right (by decide) (by omega)
          exact this))
/-- the signs of a form that the bytes at a agree with -/
def os_mC (bt : Nat) (sg : Nat → Nat) (mem : Nat → Nat) (a k : Nat) : Bool := !(os_pf bt sg k) || decide (sg k = (os_wb mem a k).toNat)
def os_mt (bt : Nat) (sg : Nat → Nat) (mem : Nat → Nat) (a : Nat) : Bool := decide (a + bt ≤ 64) && os_al (os_mC bt sg mem a) 24
theorem os_cagree (n : Nat) {M : oa_M} {mem : Nat → Nat} (h : os_Mem M mem) (a : Nat) {i bt : Nat} {sg : Nat → Nat} {L : List Nat} {oc : Nat} (hF : os_F M i bt sg L oc) : FX0_agreesWith n i (nI (os_word mem a)) M = some (os_i (os_al (os_mC bt sg mem a) 24), M) := by
  rw [os_agrees n hF, os_word_bits h, os_band]
  have key : (nI (os_bits (fun k => os_wb mem a k && os_pf bt sg k) 24) = nI (os_bits (os_p1 bt sg) 24)) ↔ os_al (os_mC bt sg mem a) 24 = true := by
    rw [nI_eq (os_b31 _) (os_b31 _), os_inj, os_al_iff]
    refine forall_congr' (fun k => forall_congr' (fun hk => ?_))
    unfold os_mC os_pf os_p1
    by_cases h1 : k < 8 * bt <;> by_cases h3 : sg k < 2 <;> by_cases h5 : sg k = 1 <;> cases os_wb mem a k <;> simp [h1, h3, h5] <;> omega
  congr 2
  cases g : os_al (os_mC bt sg mem a) 24 with
  | true => rw [decide_eq_true (key.mpr g)]
  | false => rw [decide_eq_false (fun q => by rw [key.mp q] at g; cases g)]
theorem os_bit1 {v b : Nat} : v / 2 ^ b &&& 1 = (Nat.testBit v b).toNat := by
  rw [Nat.testBit, Nat.and_comm, Nat.shiftRight_eq_div_pow]
  rw [show (1 &&& v / 2 ^ b) = v / 2 ^ b % 2 from by rw [Nat.and_comm]; exact Nat.and_one_is_mod _]
  rcases Nat.mod_two_eq_zero_or_one (v / 2 ^ b) with q | q <;> rw [q] <;> rfl
theorem os_bitAt (n : Nat) {M : oa_M} {mem : Nat → Nat} (h : os_Mem M mem) {a k : Nat} (hk : k < 24) (ha : a + k / 8 < 64) : FX5_bitAt n (nI a) (nI k) M = some (nI (os_wb mem a k).toNat, M) := by
  unfold FX5_bitAt
  have hm := h _ ha
  rw [show (8 : Int32) = nI 8 from rfl, on_div (by omega) (by decide), nI_add, if_pos (on_in ha (by decide)), nI_clamp (by omega), hm.2.1, on_rem (by omega) (by decide), show (7 : Int32) = nI 7 from rfl, on_sub (by omega), on_shr (by omega) (by omega), show (1 : Int32) = nI 1 from rfl, on_and, os_bit1]
  unfold os_wb os_mb
  rw [if_pos ha]
theorem os_mmt {M : oa_M} {mem : Nat → Nat} (h : os_Mem M mem) {a i bt : Nat} {sg : Nat → Nat} {L : List Nat} {oc : Nat} (hF : os_F M i bt sg L oc) (hi : i < 12) (ha : a + bt ≤ 64) :
    ∀ (r k n : Nat), k + r = 8 * bt → r < n → os_al (os_mC bt sg mem a) k = true → BX5_matches_20 n (nI i) (nI a) (nI k) M = some (os_i (os_al (os_mC bt sg mem a) 24), M) := by
  have c1 := hF.1
  have a6 := hF.2.2.2.2.2.1
  intro r
  induction r with
  | zero =>
    intro k n hk hn hal
    obtain ⟨n', rfl⟩ : ∃ n', n = n' + 1 := ⟨n - 1, by omega⟩
    unfold BX5_matches_20
    rw [if_pos (on_in hi (by decide)), nI_clamp (by omega), a6.2, if_pos (nI_le (by omega) (by omega))]
    have : os_al (os_mC bt sg mem a) 24 = true := os_al_iff.mpr (fun q hq => by
      rcases Nat.lt_or_ge q k with hq2 | hq2
      · exact os_al_iff.mp hal q hq2
      · unfold os_mC os_pf
        simp [show ¬ q < 8 * bt by omega])
    rw [this]
    rfl
  | succ r ih =>
    intro k n hk hn hal
    obtain ⟨n', rfl⟩ : ∃ n', n = n' + 1 := ⟨n - 1, by omega⟩
    unfold BX5_matches_20
    rw [if_pos (on_in hi (by decide)), nI_clamp (by omega), a6.2, if_neg (nI_ge (by omega) (by omega)), os_fixed n' hF hi (by omega), ob_d]
    have go : os_mC bt sg mem a k = true → BX5_matches_56 (BX5_matches_20 n') n' (nI i) (nI a) (nI k) M = some (os_i (os_al (os_mC bt sg mem a) 24), M) := fun hc => by
      unfold BX5_matches_56
      rw [nI_1]
      exact ih (k + 1) n' (by omega) (by omega) (by simp only [os_al, hal, hc]; rfl)
    by_cases p : os_pf bt sg k = true
    · have q1 : sg k < 2 := by unfold os_pf at p; simp at p; exact p.2
      have f1 : os_fx bt sg k = nI (sg k) := by simp only [os_fx, p, if_true]
      rw [if_neg (by rw [f1]; exact nI_pos (by omega)), os_fixed n' hF hi (by omega), ob_d, os_bitAt n' h (by omega) (by omega), ob_d, f1]
      have hw : (os_wb mem a k).toNat < 2 := by cases os_wb mem a k <;> decide
      by_cases e : sg k = (os_wb mem a k).toNat
      · rw [if_pos (by rw [e])]
        have hc : os_mC bt sg mem a k = true := by unfold os_mC; simp [e]
        have := go hc
        exact this
      · rw [if_neg (fun q => e ((nI_eq (by omega) (by omega)).mp q))]
        rw [os_al_no (C := os_mC bt sg mem a) (k := k) (by omega) (by unfold os_mC; simp [p, e])]
        rfl
    · rw [if_pos (by simp only [os_fx, p, Bool.false_eq_true, if_false]; decide)]
      exact go (by unfold os_mC; simp [p])
theorem os_mmatch {M : oa_M} {mem : Nat → Nat} (h : os_Mem M mem) {a i bt : Nat} {sg : Nat → Nat} {L : List Nat} {oc : Nat} (hF : os_F M i bt sg L oc) (hi : i < 12) (ha : a < 64) {n : Nat} (hn : 24 < n) : FX5_matches n (nI i) (nI a) M = some (os_i (os_mt bt sg mem a), M) := by
  have c1 := hF.1
  have a6 := hF.2.2.2.2.2.1
  unfold FX5_matches os_mt
  rw [if_pos (on_in hi (by decide)), nI_clamp (by omega), a6.2, show (8 : Int32) = nI 8 from rfl, on_div (by omega) (by decide), show 8 * bt / 8 = bt by omega, nI_add]
  by_cases h64 : a + bt ≤ 64
  · rw [if_pos (show nI (a + bt) ≤ (64 : Int32) from nI_le (b := 64) h64 (by decide))]
    simp only [h64, decide_true, Bool.true_and]
    exact os_mmt h hF hi h64 (8 * bt) 0 n (by omega) (by omega) rfl
  · rw [if_neg (show ¬ nI (a + bt) ≤ (64 : Int32) from nI_ge (a := 64) (by omega) (by omega))]
    simp only [h64, decide_false, Bool.false_and]
    rfl
/-- the narrowest that matches -/
def os_bi : Option Nat → Int32
  | none => -1
  | some b => nI b
def os_okb (nr : Nat → Nat → Bool) (i : Nat) : Option Nat → Bool
  | none => true
  | some b => nr i b
def os_dec (mt : Nat → Bool) (nr : Nat → Nat → Bool) : Nat → Nat → Option Nat → Option Nat
  | 0, _, best => best
  | r + 1, i, best => os_dec mt nr r (i + 1) (if mt i && os_okb nr i best then some i else best)
theorem os_dec_lt (mt : Nat → Bool) (nr : Nat → Nat → Bool) : ∀ (r i : Nat) (best : Option Nat), (∀ b, best = some b → b < i) → ∀ b, os_dec mt nr r i best = some b → b < i + r
  | 0, i, best, h, b, hb => h b hb
  | r + 1, i, best, h, b, hb => by
    have := os_dec_lt mt nr r (i + 1) _ (by
      intro b' hb'
      by_cases hc : (mt i && os_okb nr i best) = true
      · rw [if_pos hc] at hb'
        cases hb'
        omega
      · rw [if_neg hc] at hb'
        have := h b' hb'
        omega) b hb
    omega
theorem os_dec_mt (mt : Nat → Bool) (nr : Nat → Nat → Bool) : ∀ (r i : Nat) (best : Option Nat), (∀ b, best = some b → mt b = true) → ∀ b, os_dec mt nr r i best = some b → mt b = true
  | 0, i, best, h, b, hb => h b hb
  | r + 1, i, best, h, b, hb => os_dec_mt mt nr r (i + 1) _ (by
      intro b' hb'
      by_cases hc : (mt i && os_okb nr i best) = true
      · rw [if_pos hc] at hb'
        cases hb'
        simp at hc
        exact hc.1
      · rw [if_neg hc] at hb'
        exact h b' hb') b hb
theorem os_cdec {M : oa_M} {mem : Nat → Nat} (hM : os_Mem M mem) {nf : Nat} (h5 : M 0 0 5 = nI nf) (hnf : nf ≤ 12) {bt : Nat → Nat} {sg : Nat → Nat → Nat} {L : Nat → List Nat} {oc : Nat → Nat} (hp : ∀ i, i < nf → os_F M i (bt i) (sg i) (L i) (oc i)) {a : Nat} (ha : a < 64) :
    ∀ (r i n : Nat) (best : Option Nat), i + r = nf → r < n → (∀ b, best = some b → b < i) → BX4_narrowestAt_11 n (nI a) (nI (os_word mem a)) (os_bi best) (nI i) M = some (os_bi (os_dec (fun i => os_mt (bt i) (sg i) mem a) (fun i j => os_nar (bt i) (sg i) (bt j) (sg j)) r i best), M) := by
  intro r
  induction r with
  | zero =>
    intro i n best hi hn hb
    obtain ⟨n', rfl⟩ : ∃ n', n = n' + 1 := ⟨n - 1, by omega⟩
    unfold BX4_narrowestAt_11
    rw [h5, if_pos (nI_le (by omega) (by omega))]
    rfl
  | succ r ih =>
    intro i n best hi hn hb
    obtain ⟨n', rfl⟩ : ∃ n', n = n' + 1 := ⟨n - 1, by omega⟩
    have hin : i < nf := by omega
    have hF := hp i hin
    have c1 := hF.1
    have a6 := hF.2.2.2.2.2.1
    have stay : ∀ z, BX4_narrowestAt_90 (BX4_narrowestAt_11 n') n' (nI a) (nI (os_word mem a)) (os_bi best) (nI i) z M = some (os_bi (os_dec (fun i => os_mt (bt i) (sg i) mem a) (fun i j => os_nar (bt i) (sg i) (bt j) (sg j)) r (i + 1) best), M) := fun z => by
      unfold BX4_narrowestAt_90
      rw [nI_1]
      exact ih (i + 1) n' best (by omega) (by omega) (fun b h => by have := hb b h; omega)
    have take : ∀ z, BX4_narrowestAt_87 (BX4_narrowestAt_11 n') n' (nI a) (nI (os_word mem a)) (os_bi best) (nI i) z M = some (os_bi (os_dec (fun i => os_mt (bt i) (sg i) mem a) (fun i j => os_nar (bt i) (sg i) (bt j) (sg j)) r (i + 1) (some i)), M) := fun z => by
      unfold BX4_narrowestAt_87 BX4_narrowestAt_90
      rw [nI_1]
      exact ih (i + 1) n' (some i) (by omega) (by omega) (fun b h => by cases h; omega)
    unfold BX4_narrowestAt_11
    rw [h5, if_neg (nI_ge hin (by omega)), if_pos (on_in (by omega) (by decide)), nI_clamp (by omega), a6.1, nI_add]
    simp only [os_dec]
    by_cases h64 : a + bt i ≤ 64
    · rw [if_neg (show ¬ (64 : Int32) < nI (a + bt i) from nI_nlt (a := 64) h64 (by decide)), if_pos (on_in (by omega) (by decide)), os_cagree n' hM a hF, ob_d]
      unfold BX4_narrowestAt_55 BX4_narrowestAt_56
      cases g : os_al (os_mC (bt i) (sg i) mem a) 24 with
      | false =>
        have hm : os_mt (bt i) (sg i) mem a = false := by unfold os_mt; rw [g]; simp
        rw [if_pos (by rfl), if_pos rfl, stay]
        simp [hm]
      | true =>
        have hm : os_mt (bt i) (sg i) mem a = true := by unfold os_mt; rw [g]; simp [h64]
        rw [if_neg (by decide), if_neg (by decide)]
        cases best with
        | none =>
          rw [if_pos (show os_bi none = (-1 : Int32) from rfl), take]
          simp [hm, os_okb]
        | some b =>
          have hb2 := hb b rfl
          rw [if_neg (show ¬ os_bi (some b) = (-1 : Int32) from on_ltm1 (by omega)), if_pos (on_in (by omega) (by decide)), if_pos (show oa_in (os_bi (some b)) 13 = true from on_in (by omega) (by decide)), show (os_bi (some b)).toNatClampNeg = b from nI_clamp (by omega), show (nI i).toNatClampNeg = i from nI_clamp (by omega), os_cnarrow n' hF (hp b (by omega)), ob_d]
          cases g2 : os_nar (bt i) (sg i) (bt b) (sg b) with
          | false =>
            rw [if_pos (by rfl), stay]
            simp [hm, g2, os_okb]
          | true =>
            rw [if_neg (by decide), take]
            simp [hm, g2, os_okb]
    · have hm : os_mt (bt i) (sg i) mem a = false := by unfold os_mt; simp [h64]
      rw [if_pos (show (64 : Int32) < nI (a + bt i) from nI_lt (a := 64) (by omega) (by omega))]
      unfold BX4_narrowestAt_55 BX4_narrowestAt_56
      rw [if_pos rfl, stay]
      simp [hm]
theorem os_mdec {M : oa_M} {mem : Nat → Nat} (hM : os_Mem M mem) {nf : Nat} (h5 : M 20 0 4 = nI nf) (hnf : nf ≤ 12) {bt : Nat → Nat} {sg : Nat → Nat → Nat} {L : Nat → List Nat} {oc : Nat → Nat} (hp : ∀ i, i < nf → os_F M i (bt i) (sg i) (L i) (oc i)) {a : Nat} (ha : a < 64) :
    ∀ (r i n : Nat) (best : Option Nat), i + r = nf → r + 26 < n → (∀ b, best = some b → b < i) → BX5_decoded_4 n (nI a) (os_bi best) (nI i) M = some (os_bi (os_dec (fun i => os_mt (bt i) (sg i) mem a) (fun i j => os_nar (bt i) (sg i) (bt j) (sg j)) r i best), M) := by
  intro r
  induction r with
  | zero =>
    intro i n best hi hn hb
    obtain ⟨n', rfl⟩ : ∃ n', n = n' + 1 := ⟨n - 1, by omega⟩
    unfold BX5_decoded_4
    rw [h5, if_pos (nI_le (by omega) (by omega))]
    rfl
  | succ r ih =>
    intro i n best hi hn hb
    obtain ⟨n', rfl⟩ : ∃ n', n = n' + 1 := ⟨n - 1, by omega⟩
    have hin : i < nf := by omega
    have hF := hp i hin
    have stay : BX5_decoded_36 (BX5_decoded_4 n') n' (nI a) (os_bi best) (nI i) M = some (os_bi (os_dec (fun i => os_mt (bt i) (sg i) mem a) (fun i j => os_nar (bt i) (sg i) (bt j) (sg j)) r (i + 1) best), M) := by
      unfold BX5_decoded_36
      rw [nI_1]
      exact ih (i + 1) n' best (by omega) (by omega) (fun b h => by have := hb b h; omega)
    have take : BX5_decoded_34 (BX5_decoded_4 n') n' (nI a) (os_bi best) (nI i) M = some (os_bi (os_dec (fun i => os_mt (bt i) (sg i) mem a) (fun i j => os_nar (bt i) (sg i) (bt j) (sg j)) r (i + 1) (some i)), M) := by
      unfold BX5_decoded_34 BX5_decoded_36
      rw [nI_1]
      exact ih (i + 1) n' (some i) (by omega) (by omega) (fun b h => by cases h; omega)
    unfold BX5_decoded_4
    rw [h5, if_neg (nI_ge hin (by omega)), os_mmatch hM hF (by omega) ha (by omega), ob_d]
    simp only [os_dec]
    rcases Bool.eq_false_or_eq_true (os_mt (bt i) (sg i) mem a) with hm | hm
    · rw [if_neg (by rw [hm]; decide)]
      cases best with
      | none =>
        rw [if_pos (show os_bi none < 0 from by decide), take]
        simp [hm, os_okb]
      | some b =>
        have hb2 := hb b rfl
        rw [if_neg (show ¬ os_bi (some b) < 0 from nI_pos (by omega)), show FX5_isNarrower n' (nI i) (os_bi (some b)) M = _ from os_mnarrow hF (hp b (by omega)) (by omega) (by omega) (by omega), ob_d]
        rcases Bool.eq_false_or_eq_true (os_nar (bt i) (sg i) (bt b) (sg b)) with g2 | g2
        · rw [if_neg (by rw [g2]; decide), take]
          simp [hm, g2, os_okb]
        · rw [if_pos (by rw [g2]; rfl), stay]
          simp [hm, g2, os_okb]
    · rw [if_pos (by rw [hm]; rfl), stay]
      simp [hm]
/-- both decoders, at an address -/
def os_best (mem : Nat → Nat) (bt : Nat → Nat) (sg : Nat → Nat → Nat) (nf a : Nat) : Option Nat := os_dec (fun i => os_mt (bt i) (sg i) mem a) (fun i j => os_nar (bt i) (sg i) (bt j) (sg j)) nf 0 none
theorem os_best_lt {mem : Nat → Nat} {bt : Nat → Nat} {sg : Nat → Nat → Nat} {nf a b : Nat} (hb : os_best mem bt sg nf a = some b) : b < nf ∧ a + bt b ≤ 64 := by
  constructor
  · have := os_dec_lt _ _ nf 0 none (fun b h => by cases h) b hb
    omega
  · have h1 : os_mt (bt b) (sg b) mem a = true := os_dec_mt (fun i => os_mt (bt i) (sg i) mem a) _ nf 0 none (fun b h => by cases h) b hb
    unfold os_mt at h1
    simp at h1
    exact h1.1
theorem os_cbest {M : oa_M} {mem : Nat → Nat} {nf nl : Nat} (hM : os_Mem M mem) (hC : os_Cn M nf nl) {bt : Nat → Nat} {sg : Nat → Nat → Nat} {L : Nat → List Nat} {oc : Nat → Nat} (hp : ∀ i, i < nf → os_F M i (bt i) (sg i) (L i) (oc i)) {a : Nat} (ha : a < 64) {n : Nat} (hn : 20 < n) : FX4_narrowestAt n (nI a) M = some (os_bi (os_best mem bt sg nf a), M) := by
  unfold FX4_narrowestAt
  rw [os_wordAt hM ha (by omega), ob_d]
  exact os_cdec hM hC.2.2.1.1 hC.1 hp ha nf 0 n none (by omega) (by have := hC.1; omega) (fun b h => by cases h)
theorem os_mbest {M : oa_M} {mem : Nat → Nat} {nf nl : Nat} (hM : os_Mem M mem) (hC : os_Cn M nf nl) {bt : Nat → Nat} {sg : Nat → Nat → Nat} {L : Nat → List Nat} {oc : Nat → Nat} (hp : ∀ i, i < nf → os_F M i (bt i) (sg i) (L i) (oc i)) {a : Nat} (ha : a < 64) {n : Nat} (hn : 40 < n) : FX5_decoded n (nI a) M = some (os_bi (os_best mem bt sg nf a), M) := by
  unfold FX5_decoded
  exact os_mdec hM hC.2.2.1.2 hC.1 hp ha nf 0 n none (by omega) (by have := hC.1; omega) (fun b h => by cases h)
theorem os_ready {M : oa_M} {nf nl : Nat} (hC : os_Cn M nf nl) : (M 0 0 8 = 0 ∧ M 20 0 13 = 0) ∨ (¬ M 0 0 8 = 0 ∧ ¬ M 20 0 13 = 0) := by
  obtain ⟨c1, c2, c3, c4, c5, c6⟩ := hC
  rcases c6.2 with q | q
  · exact Or.inl ⟨by rw [c6.1, q], q⟩
  · exact Or.inr ⟨by rw [c6.1, q]; decide, by rw [q]; decide⟩
theorem os_S6 : oa_S6 os_I := by
  intro x M hI
  obtain ⟨len, c, size, mem, nf, nl, hT, hO, hM, hC, hF, hL⟩ := id hI
  rcases os_ready hC with ⟨r1, r2⟩ | ⟨r1, r2⟩
  · refine ⟨0, 0, 1, M, 0, oa_up M 20 0 30 1, ?_, ?_, rfl, fun h => absurd h (by decide), hI.up (by unfold os_free; omega) _⟩
    · unfold FL_decode FX4_decode FX4_requireReady
      rw [if_pos r1]
      rfl
    · unfold FX5_decode FX5_wrongAddress BX5_wrongAddress_26 BX5_decode_25
      rw [if_pos r2]
      rfl
  · rcases os_addr x with ⟨a, ha, rfl⟩ | h
    · obtain ⟨bt, sg, L, oc, hp⟩ := hF.pick
      have d1 := os_cbest hM hC hp ha (n := 100) (by decide)
      generalize hbe : os_best mem bt sg nf a = best at d1
      let M1 := oa_up M 50 0 0 (os_bi best)
      have k1 : ∀ k i f, k ≠ 50 → M1 k i f = M k i f := fun k i f h => os_up (by omega)
      have hI1 : os_I M1 := hI.up (by unfold os_free; omega) _
      have d2 : FX5_decoded 100 (nI a) (oa_up M1 20 0 30 0) = some (os_bi best, oa_up M1 20 0 30 0) := by
        rw [← hbe]
        exact os_mbest (nl := nl) (hM.co (fun j => by rw [os_up (by omega), k1 _ _ _ (by omega)]) (fun j => by rw [os_up (by omega), k1 _ _ _ (by omega)])) (hC.co (fun f => by rw [os_up (by omega), k1 _ _ _ (by omega)]) (fun f hf => by rw [os_up (by omega), k1 _ _ _ (by omega)])) (fun i hi => (hp i hi).off (fun k i f hk => by rw [os_up (by omega), k1 _ _ _ (by omega)])) ha (by decide)
      refine ⟨100, 100, 0, M1, os_bi best, oa_up M1 20 0 30 0, ?_, ?_, rfl, fun _ => ?_, hI1.up (by unfold os_free; omega) _⟩
      · unfold FL_decode FX4_decode FX4_requireReady
        rw [if_neg r1, ob_x0, os_ra 100 ha, ob_x0, d1, ob_d]
        rfl
      · unfold FX5_decode FX5_wrongAddress BX5_wrongAddress_26 BX5_decode_25
        rw [show M1 20 0 13 = M 20 0 13 from os_up (by decide), if_neg r2, os_out63 100 ha, ob_d, if_pos rfl, ob_d, if_pos rfl, d2, ob_d]
      · rw [os_up (by decide)]
        exact os_up1
    · refine ⟨0, 0, 2, M, 0, oa_up M 20 0 30 2, ?_, ?_, rfl, fun h => absurd h (by decide), hI.up (by unfold os_free; omega) _⟩
      · unfold FL_decode FX4_decode FX4_requireReady
        rw [if_neg r1, ob_x0, os_ran 0 h]
        rfl
      · unfold FX5_decode FX5_wrongAddress BX5_wrongAddress_26 BX5_decode_25
        rw [if_neg r2, os_out63n 0 h]
        rfl

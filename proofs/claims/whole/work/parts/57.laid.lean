/-! assemble: the model's bytes -/
def os_Wm (B : oa_M) (nl : Nat) (bt : Nat → Nat) (sg : Nat → Nat → Nat) (fm : Nat → Option Nat) (org k f : Nat) : Nat → Nat → Bool
  | 0, _ => false
  | o + 1, j => os_Wm B nl bt sg fm org k f o j || os_Qo B nl bt sg fm org k f o j
theorem os_Wmc (B : oa_M) (nl : Nat) (bt : Nat → Nat) (sg : Nat → Nat → Nat) (fm : Nat → Option Nat) (org k f : Nat) : ∀ o j, (os_Wm B nl bt sg fm org k f o j || os_p1 (bt f) (sg f) j) = os_Wc B nl bt sg fm org k f o j
  | 0, j => rfl
  | o + 1, j => by
    have := os_Wmc B nl bt sg fm org k f o j
    simp only [os_Wm, os_Wc, ← this]
    cases os_Wm B nl bt sg fm org k f o j <;> cases os_Qo B nl bt sg fm org k f o j <;> cases os_p1 (bt f) (sg f) j <;> rfl
theorem os_mclear {M : oa_M} {f bf ad : Nat} (hf : f < 12) (hb : bf ≤ 3) (h26 : M 26 0 f = nI (8 * bf)) (ha : ad + bf ≤ 64) (x1 : Int32) (m : Nat) : ∀ (r i : Nat) (M' : oa_M), i + r = bf → (∀ k i f, ¬ k = 46 → M' k i f = M k i f) → ∃ M'', BX5_laid_10 (m + r + 1) x1 (nI f) (nI ad) (nI i) M' = BX5_laid_43 m x1 (nI f) (nI ad) 0 M'' ∧ (∀ k i' f, ¬ (k = 46 ∧ i' = 0 ∧ ad + i ≤ f ∧ f < ad + bf) → M'' k i' f = M' k i' f) ∧ ∀ j, i ≤ j → j < bf → M'' 46 0 (ad + j) = 0 := by
  have h12 : oa_in (nI f) 12 = true := on_in hf (by decide)
  have hc : (nI f).toNatClampNeg = f := nI_clamp (by omega)
  intro r
  induction r with
  | zero =>
    intro i M' hi hM
    refine ⟨M', ?_, fun _ _ _ _ => rfl, fun j h1 h2 => by omega⟩
    rw [BX5_laid_10, if_pos h12, hc, hM 26 0 f (by omega), h26, show (8 : Int32) = nI 8 from rfl, on_div (by omega) (by decide), show 8 * bf / 8 = bf by omega, if_pos (nI_le (by omega) (by omega))]
  | succ r ih =>
    intro i M' hi hM
    obtain ⟨M'', e1, e2, e3⟩ := ih (i + 1) (oa_up M' 46 0 (ad + i) 0) (by omega) (fun k i f h => by rw [os_up (by omega)]; exact hM k i f h)
    refine ⟨M'', ?_, fun k i' f h => by rw [e2 k i' f (by omega)]; exact os_up (by omega), fun j h1 h2 => ?_⟩
    · rw [← e1, show m + (r + 1) + 1 = (m + r + 1) + 1 by omega, BX5_laid_10, if_pos h12, hc, hM 26 0 f (by omega), h26, show (8 : Int32) = nI 8 from rfl, on_div (by omega) (by decide), show 8 * bf / 8 = bf by omega, if_neg (nI_ge (by omega) (by omega)), nI_add, if_pos (on_in (by omega) (by decide)), nI_clamp (by omega), nI_1]
    · by_cases e : j = i
      · subst e
        rw [e2 _ _ _ (by omega)]
        exact os_up1
      · exact e3 j (by omega) h2
theorem os_nIm1 {c : Nat} (h : 1 ≤ c) : nI c + (-1 : Int32) = nI (c - 1) := by
  obtain ⟨d, rfl⟩ : ∃ d, c = d + 1 := ⟨c - 1, by omega⟩
  rw [← nI_1, Int32.add_assoc]
  exact Int32.add_zero _
/-- one operand's bits -/
theorem os_mbits {M : oa_M} {f bf ad o fl : Nat} {sg : Nat → Nat} (hf : f < 12) (hb : bf ≤ 3) (h26 : M 26 0 f = nI (8 * bf)) (h27 : ∀ k, k < 8 * bf → M 27 0 (24 * f + k) = nI (sg k) ∧ sg k < 5) (ha : ad + bf ≤ 64) (ho : o < 3) (hfl : fl < 2 ^ 16) (hc : os_cnt (os_po bf sg o) 24 ≤ 16) (V : Nat → Bool) (x1 x5 : Int32) (rec43 : Int32 → Int32 → Int32 → Int32 → oa_M → Option (Int32 × oa_M)) (m : Nat) : ∀ (r s : Nat) (M' : oa_M), s + r = 8 * bf → (∀ k i f, ¬ k = 46 → M' k i f = M k i f) → (∀ i, i < bf → M' 46 0 (ad + i) = nI (os_byte (fun j => V j || (decide (j < s) && os_Q (os_po bf sg o) fl j)) i)) → ∃ M'', BX5_laid_149 rec43 (m + r + 1) x1 (nI f) (nI ad) (nI o) x5 (nI fl) (nI (os_cnt (os_po bf sg o) 24 - os_cnt (os_po bf sg o) s)) (nI s) M' = rec43 x1 (nI f) (nI ad) (nI (o + 1)) M'' ∧ (∀ k i' f, ¬ (k = 46 ∧ i' = 0 ∧ ad ≤ f ∧ f < ad + bf) → M'' k i' f = M' k i' f) ∧ ∀ i, i < bf → M'' 46 0 (ad + i) = nI (os_byte (fun j => V j || os_Q (os_po bf sg o) fl j) i) := by
  have h12 : oa_in (nI f) 12 = true := on_in hf (by decide)
  have hcl : (nI f).toNatClampNeg = f := nI_clamp (by omega)
  intro r
  induction r with
  | zero =>
    intro s M' hs hM h46
    refine ⟨M', ?_, fun _ _ _ _ => rfl, fun i hi => ?_⟩
    · rw [BX5_laid_149, if_pos h12, hcl, hM 26 0 f (by omega), h26, if_pos (nI_le (by omega) (by omega)), nI_1]
    · rw [h46 i hi]
      congr 1
      refine os_byte_ext (by omega) (fun k h1 h2 => ?_)
      simp [show k < s by omega]
  | succ r ih =>
    intro s M' hs hM h46
    have hs8 : s < 8 * bf := by omega
    obtain ⟨g1, g2⟩ := h27 s hs8
    have hp : os_po bf sg o s = decide (sg s = 2 + o) := by unfold os_po; simp [hs8]
    have hle := os_cnt_le24 (os_po bf sg o) (show s + 1 ≤ 24 by omega)
    have ec : os_cnt (os_po bf sg o) (s + 1) = os_cnt (os_po bf sg o) s + (if os_po bf sg o s then 1 else 0) := rfl
    have h64 : oa_in (nI (ad + s / 8)) 64 = true := on_in (by omega) (by decide)
    have st : BX5_laid_149 rec43 (m + (r + 1) + 1) x1 (nI f) (nI ad) (nI o) x5 (nI fl) (nI (os_cnt (os_po bf sg o) 24 - os_cnt (os_po bf sg o) s)) (nI s) M' = (if nI (sg s) = nI (2 + o) then BX5_laid_149 rec43 (m + r + 1) x1 (nI f) (nI ad) (nI o) x5 (nI fl) (nI (os_cnt (os_po bf sg o) 24 - os_cnt (os_po bf sg o) s) + (-1 : Int32)) (nI (s + 1)) (oa_up M' 46 0 (ad + s / 8) ((M' 46 0 (ad + s / 8)) ||| (((nI fl >>> ((nI (os_cnt (os_po bf sg o) 24 - os_cnt (os_po bf sg o) s) + (-1 : Int32)) &&& 31)) &&& (1 : Int32)) <<< (nI (7 - s % 8) &&& 31)))) else BX5_laid_149 rec43 (m + r + 1) x1 (nI f) (nI ad) (nI o) x5 (nI fl) (nI (os_cnt (os_po bf sg o) 24 - os_cnt (os_po bf sg o) s)) (nI (s + 1)) M') := by
      rw [show m + (r + 1) + 1 = (m + r + 1) + 1 by omega, BX5_laid_149, if_pos h12, hcl, hM 26 0 f (by omega), h26, if_neg (nI_ge (by omega) (by omega)), show (24 : Int32) * nI f + nI s = nI (24 * f + s) from by rw [show (24 : Int32) = nI 24 from rfl, on_mul, nI_add], if_pos (on_in (by omega) (by decide)), nI_clamp (by omega), hM 27 0 _ (by omega), g1, show (2 : Int32) + nI o = nI (2 + o) from nI_add 2 o, show nI ad + nI s / (8 : Int32) = nI (ad + s / 8) from by rw [show (8 : Int32) = nI 8 from rfl, on_div (by omega) (by decide), nI_add], if_pos h64, if_pos h64, nI_clamp (by omega), show (7 : Int32) - oa_rem (nI s) (8 : Int32) = nI (7 - s % 8) from by rw [show (8 : Int32) = nI 8 from rfl, on_rem (by omega) (by decide), show (7 : Int32) = nI 7 from rfl, on_sub (by omega)]]
      unfold BX5_laid_213
      rw [nI_1]
    rw [st]
    by_cases e : sg s = 2 + o
    · have hps : os_po bf sg o s = true := by rw [hp]; exact decide_eq_true e
      rw [hps] at ec
      simp only [if_true] at ec
      rw [if_pos (by rw [e]), os_nIm1 (by omega), on_shr (by omega) (by omega), show nI (fl / 2 ^ (os_cnt (os_po bf sg o) 24 - os_cnt (os_po bf sg o) s - 1)) &&& (1 : Int32) = nI (Nat.testBit fl (os_cnt (os_po bf sg o) 24 - os_cnt (os_po bf sg o) (s + 1))).toNat from by rw [show (1 : Int32) = nI 1 from rfl, on_and, os_bit1, show os_cnt (os_po bf sg o) 24 - os_cnt (os_po bf sg o) s - 1 = os_cnt (os_po bf sg o) 24 - os_cnt (os_po bf sg o) (s + 1) by omega], on_shl _ (by omega), h46 (s / 8) (by omega), on_or, os_byte_or _ _ (by omega), show os_cnt (os_po bf sg o) 24 - os_cnt (os_po bf sg o) s - 1 = os_cnt (os_po bf sg o) 24 - os_cnt (os_po bf sg o) (s + 1) by omega]
      obtain ⟨M'', e1, e2, e3⟩ := ih (s + 1) (oa_up M' 46 0 (ad + s / 8) (nI (os_byte (fun j => (V j || (decide (j < s) && os_Q (os_po bf sg o) fl j)) || (decide (j = s) && Nat.testBit fl (os_cnt (os_po bf sg o) 24 - os_cnt (os_po bf sg o) (s + 1)))) (s / 8)))) (by omega) (fun k i f h => by rw [os_up (by omega)]; exact hM k i f h) (fun i hi => by
        by_cases ei : i = s / 8
        · subst ei
          rw [os_up1]
          congr 1
          refine os_byte_ext (by omega) (fun j h1 h2 => ?_)
          by_cases ej : j = s
          · subst ej
            simp [os_Q, hps]
          · have : (j < s + 1) = (j < s) := propext ⟨fun _ => by omega, fun _ => by omega⟩
            simp only [ej, this, decide_false, Bool.false_and, Bool.or_false]
        · rw [os_up (by omega), h46 i hi]
          congr 1
          refine os_byte_ext (by omega) (fun j h1 h2 => ?_)
          have : (j < s) = (j < s + 1) := propext ⟨fun _ => by omega, fun _ => by omega⟩
          simp only [this])
      exact ⟨M'', e1, fun k i' f h => by rw [e2 k i' f h]; exact os_up (by omega), e3⟩
    · have hps : os_po bf sg o s = false := by rw [hp]; exact decide_eq_false e
      rw [hps] at ec
      simp only [Bool.false_eq_true, if_false, Nat.add_zero] at ec
      rw [if_neg (fun q => e ((nI_eq (by omega) (by omega)).mp q)), ← ec]
      obtain ⟨M'', e1, e2, e3⟩ := ih (s + 1) M' (by omega) hM (fun i hi => by
        rw [h46 i hi]
        congr 1
        refine os_byte_ext (by omega) (fun j h1 h2 => ?_)
        by_cases ej : j = s
        · subst ej
          simp [os_Q, hps]
        · have : (j < s) = (j < s + 1) := propext ⟨fun _ => by omega, fun _ => by omega⟩
          simp only [this])
      exact ⟨M'', e1, e2, e3⟩
/-- the fixed bits -/
theorem os_mfix {M : oa_M} {f bf ad oc : Nat} {sg : Nat → Nat} {L : List Nat} (hf : f < 12) (hF : os_F M f bf sg L oc) (ha : ad + bf ≤ 64) (V : Nat → Bool) (x1 : Int32) : ∀ (r s n : Nat) (M' : oa_M), s + r = 8 * bf → r < n → (∀ k i f, ¬ k = 46 → M' k i f = M k i f) → (∀ i, i < bf → M' 46 0 (ad + i) = nI (os_byte (fun j => V j || (decide (j < s) && os_p1 bf sg j)) i)) → ∃ M'', BX5_laid_228 n x1 (nI f) (nI ad) (nI s) M' = some (1, M'') ∧ (∀ k i' f, ¬ (k = 46 ∧ i' = 0 ∧ ad ≤ f ∧ f < ad + bf) → M'' k i' f = M' k i' f) ∧ ∀ i, i < bf → M'' 46 0 (ad + i) = nI (os_byte (fun j => V j || os_p1 bf sg j) i) := by
  have h12 : oa_in (nI f) 12 = true := on_in hf (by decide)
  have hcl : (nI f).toNatClampNeg = f := nI_clamp (by omega)
  have hb := hF.1.2
  have h26 := hF.2.2.2.2.2.1.2
  intro r
  induction r with
  | zero =>
    intro s n M' hs hn hM h46
    obtain ⟨n', rfl⟩ : ∃ n', n = n' + 1 := ⟨n - 1, by omega⟩
    refine ⟨M', ?_, fun _ _ _ _ => rfl, fun i hi => ?_⟩
    · rw [BX5_laid_228, if_pos h12, hcl, hM 26 0 f (by omega), h26, if_pos (nI_le (by omega) (by omega))]
    · rw [h46 i hi]
      congr 1
      refine os_byte_ext (by omega) (fun k h1 h2 => ?_)
      simp [show k < s by omega]
  | succ r ih =>
    intro s n M' hs hn hM h46
    obtain ⟨n', rfl⟩ : ∃ n', n = n' + 1 := ⟨n - 1, by omega⟩
    have hs8 : s < 8 * bf := by omega
    have h64 : oa_in (nI (ad + s / 8)) 64 = true := on_in (by omega) (by decide)
    have hF' : os_F M' f bf sg L oc := hF.off (fun k i f h => hM k i f (by omega))
    have st : BX5_laid_228 (n' + 1) x1 (nI f) (nI ad) (nI s) M' = BX5_laid_228 n' x1 (nI f) (nI ad) (nI (s + 1)) (oa_up M' 46 0 (ad + s / 8) (nI (os_byte (fun j => (V j || (decide (j < s) && os_p1 bf sg j)) || (decide (j = s) && os_p1 bf sg s)) (s / 8)))) := by
      rw [BX5_laid_228, if_pos h12, hcl, hM 26 0 f (by omega), h26, if_neg (nI_ge (by omega) (by omega)), show nI ad + nI s / (8 : Int32) = nI (ad + s / 8) from by rw [show (8 : Int32) = nI 8 from rfl, on_div (by omega) (by decide), nI_add], if_pos h64, os_fixed n' hF' hf (by omega), ob_d, nI_clamp (by omega), h46 (s / 8) (by omega), show (7 : Int32) - oa_rem (nI s) (8 : Int32) = nI (7 - s % 8) from by rw [show (8 : Int32) = nI 8 from rfl, on_rem (by omega) (by decide), show (7 : Int32) = nI 7 from rfl, on_sub (by omega)]]
      unfold BX5_laid_277
      rw [if_pos h64, nI_1, ← os_byte_or _ _ (by omega), nI_clamp (by omega)]
      by_cases p1 : os_p1 bf sg s = true
      · have q := p1
        unfold os_p1 at q
        simp at q
        have hfx : os_fx bf sg s = 1 := by
          unfold os_fx os_pf
          simp [q.1, q.2]
          rfl
        rw [if_pos hfx, p1, show (1 : Int32) = nI 1 from rfl, on_shl 1 (by omega), on_or]
        rfl
      · have hfx : ¬ os_fx bf sg s = 1 := fun q => p1 (by
          unfold os_fx at q
          by_cases z : os_pf bf sg s = true
          · rw [if_pos z] at q
            unfold os_pf at z
            simp at z
            have := (nI_eq (a := sg s) (b := 1) (by omega) (by decide)).mp q
            unfold os_p1
            simp [this, hs8]
          · rw [if_neg z] at q
            exact absurd q (by decide))
        rw [if_neg hfx, show (0 : Int32) = nI 0 from rfl, on_or]
        simp at p1
        rw [p1]
        simp [h64]
    rw [st]
    obtain ⟨M'', e1, e2, e3⟩ := ih (s + 1) n' (oa_up M' 46 0 (ad + s / 8) (nI (os_byte (fun j => (V j || (decide (j < s) && os_p1 bf sg j)) || (decide (j = s) && os_p1 bf sg s)) (s / 8)))) (by omega) (by omega) (fun k i f h => by rw [os_up (by omega)]; exact hM k i f h) (fun i hi => by
      by_cases ei : i = s / 8
      · subst ei
        rw [os_up1]
        congr 1
        refine os_byte_ext (by omega) (fun j h1 h2 => ?_)
        by_cases ej : j = s
        · subst ej
          simp
        · have : (j < s + 1) = (j < s) := propext ⟨fun _ => by omega, fun _ => by omega⟩
          simp only [ej, this, decide_false, Bool.false_and, Bool.or_false]
      · rw [os_up (by omega), h46 i hi]
        congr 1
        refine os_byte_ext (by omega) (fun j h1 h2 => ?_)
        have : (j < s) = (j < s + 1) := propext ⟨fun _ => by omega, fun _ => by omega⟩
        simp only [this])
    exact ⟨M'', e1, fun k i' f h => by rw [e2 k i' f h]; exact os_up (by omega), e3⟩

/-! what is written: both sides append the same signs -/
def os_ct (M : oa_M) (T : List Nat) : Prop := T.length ≤ 40 ∧ M 1 1 1 = nI T.length ∧ ∀ j c, T[j]? = some c → M 2 1 j = nI c ∧ c < 65536
def os_mo (M : oa_M) (T : List Nat) : Prop := T.length ≤ 40 ∧ M 20 0 28 = nI T.length ∧ ∀ j c, T[j]? = some c → M 49 0 j = nI c ∧ c < 65536
def os_kc (M M' : oa_M) : Prop := ∀ k i f, ¬ ((k = 1 ∨ k = 2) ∧ i = 1) → M' k i f = M k i f
def os_km (M M' : oa_M) : Prop := ∀ k i f, ¬ (k = 49 ∨ (k = 20 ∧ f = 28)) → M' k i f = M k i f
theorem os_kc.rf (M : oa_M) : os_kc M M := fun _ _ _ _ => rfl
theorem os_km.rf (M : oa_M) : os_km M M := fun _ _ _ _ => rfl
theorem os_kc.tr {M M1 M2 : oa_M} (h : os_kc M M1) (h2 : os_kc M1 M2) : os_kc M M2 := fun k i f hn => (h2 k i f hn).trans (h k i f hn)
theorem os_km.tr {M M1 M2 : oa_M} (h : os_km M M1) (h2 : os_km M1 M2) : os_km M M2 := fun k i f hn => (h2 k i f hn).trans (h k i f hn)
theorem os_cadd {M : oa_M} {T : List Nat} (h : os_ct M T) (hl : T.length < 40) {c : Nat} (hc : c < 65536) : ∃ M', (∀ n, FX3_add n 1 (nI c) M = some (1, M')) ∧ os_ct M' (T ++ [c]) ∧ os_kc M M' := by
  refine ⟨oa_up (oa_up M 2 1 T.length (nI c)) 1 1 1 (nI (T.length + 1)), fun n => ?_, ⟨by simp; omega, by rw [os_up1]; simp, fun j d hd => ?_⟩, fun k i f hn => by rw [os_up (by omega), os_up (by omega)]⟩
  · unfold FX3_add
    rw [h.2.1, if_pos (show nI T.length < (40 : Int32) from nI_lt hl (by decide)), if_pos (on_in hl (by decide)), on_ncr hc, nI_clamp (by omega), nI_1]
  · rw [os_up (by omega)]
    by_cases hj : j = T.length
    · subst hj
      rw [List.getElem?_append_right (Nat.le_refl _)] at hd
      simp at hd
      subst hd
      rw [os_up1]
      exact ⟨rfl, hc⟩
    · rw [os_up (by omega)]
      have : j < (T ++ [c]).length := (List.getElem?_eq_some_iff.mp hd).1
      simp at this
      rw [List.getElem?_append_left (by omega)] at hd
      exact h.2.2 j d hd
theorem os_madd {M : oa_M} {T : List Nat} (h : os_mo M T) (hl : T.length < 40) {c : Nat} (hc : c < 65536) : ∃ M', (∀ n, FX5_add n (nI c) M = some M') ∧ os_mo M' (T ++ [c]) ∧ os_km M M' := by
  refine ⟨oa_up (oa_up M 49 0 T.length (nI c)) 20 0 28 (nI (T.length + 1)), fun n => ?_, ⟨by simp; omega, by rw [os_up1]; simp, fun j d hd => ?_⟩, fun k i f hn => by rw [os_up (by omega), os_up (by omega)]⟩
  · unfold FX5_add
    rw [h.2.1, if_pos (on_in hl (by decide)), on_i2c hc, on_ncr hc, nI_clamp (by omega), nI_1]
  · rw [os_up (by omega)]
    by_cases hj : j = T.length
    · subst hj
      rw [List.getElem?_append_right (Nat.le_refl _)] at hd
      simp at hd
      subst hd
      rw [os_up1]
      exact ⟨rfl, hc⟩
    · rw [os_up (by omega)]
      have : j < (T ++ [c]).length := (List.getElem?_eq_some_iff.mp hd).1
      simp at this
      rw [List.getElem?_append_left (by omega)] at hd
      exact h.2.2 j d hd
def os_f1 (d : Nat) : List Nat := if d = 0 then [] else [d]
theorem os_f1_len (d : Nat) : (os_f1 d).length ≤ 1 := by unfold os_f1; split <;> simp
theorem os_cnst (n : Nat) {N s : Nat} (hN : N < 2 ^ 31) (hs : s < 32) {M : oa_M} {T : List Nat} (h : os_ct M T) (hl : T.length < 40) : ∃ M', BX3_addName_3 (n + 1) 1 (nI N) (nI s) M = BX3_addName_3 n 1 (nI N) (nI s + (-8 : Int32)) M' ∧ os_ct M' (T ++ os_f1 (N / 2 ^ s % 256)) ∧ os_kc M M' := by
  have e : (nI N >>> (nI s &&& 31)) &&& (255 : Int32) = nI (N / 2 ^ s % 256) := by
    rw [on_shr hN hs, show (255 : Int32) = nI 255 from rfl, on_and, show ∀ y : Nat, y &&& 255 = y % 2 ^ 8 from fun y => Nat.and_two_pow_sub_one_eq_mod y 8]
  have hd : N / 2 ^ s % 256 < 256 := Nat.mod_lt _ (by decide)
  generalize N / 2 ^ s % 256 = d at e hd
  rw [BX3_addName_3]
  unfold BX3_addName_26
  rw [if_neg (nI_pos (by omega)), e]
  by_cases hz : d = 0
  · subst hz
    rw [if_pos (show nI 0 = (0 : Int32) from rfl)]
    exact ⟨M, rfl, by simpa [os_f1] using h, os_kc.rf M⟩
  · obtain ⟨M', a1, a2, a3⟩ := os_cadd h hl (c := d) (by omega)
    rw [if_neg (fun q => hz ((os_nIz (by omega)).mp q)), on_i2c (by omega), a1, ob_d]
    exact ⟨M', rfl, by simpa [os_f1, hz] using a2, a3⟩
def os_f2 (N h : Nat) : List Nat := if N / h = 0 then [] else [96 + N / h % 27]
theorem os_f2_len (N h : Nat) : (os_f2 N h).length ≤ 1 := by unfold os_f2; split <;> simp
theorem os_mnst (n : Nat) {N h : Nat} (hN : N < 2 ^ 30) (hh : 0 < h) (hh2 : h < 2 ^ 30) (hd : N / h % 27 ≠ 0 ∨ N / h = 0) {M : oa_M} {T : List Nat} (hT : os_mo M T) (hl : T.length < 40) : ∃ M', BX5_addName_4 (n + 1) (nI N) (nI h) M = BX5_addName_4 n (nI N) (nI (h / 27)) M' ∧ os_mo M' (T ++ os_f2 N h) ∧ os_km M M' := by
  have hq : N / h ≤ N := Nat.div_le_self _ _
  have hr : N / h % 27 < 27 := Nat.mod_lt _ (by decide)
  have hz : ¬ nI h = 0 := nI_ne0 hh (by omega)
  have e27 : nI h / (27 : Int32) = nI (h / 27) := by rw [show (27 : Int32) = nI 27 from rfl, on_div (by omega) (by decide)]
  rw [BX5_addName_4]
  unfold BX5_addName_29
  rw [if_neg (nI_nle hh (by omega)), if_pos hz, on_div (by omega) (by omega), e27]
  by_cases h0 : N / h = 0
  · rw [if_pos (by rw [h0]; decide)]
    exact ⟨M, rfl, by simpa [os_f2, h0] using hT, os_km.rf M⟩
  · rw [if_neg (nI_nle (Nat.pos_of_ne_zero h0) (by omega)), if_pos hz, show (27 : Int32) = nI 27 from rfl, on_rem (by omega) (by decide), show (97 : Int32) = nI 97 from rfl, nI_add, show (1 : Int32) = nI 1 from rfl, on_sub (by omega)]
    obtain ⟨M', a1, a2, a3⟩ := os_madd hT hl (c := 97 + N / h % 27 - 1) (by omega)
    rw [a1, ob_v]
    refine ⟨M', rfl, ?_, a3⟩
    rw [show 97 + N / h % 27 - 1 = 96 + N / h % 27 by omega] at a2
    simpa [os_f2, h0] using a2
/-- a name of up to four letters, digit by digit -/
theorem os_nmd {L : List Nat} (h : os_nm L) : (os_cnm L < 2 ^ 31 ∧ os_mnm L < 2 ^ 30) ∧ os_f1 (os_cnm L / 2 ^ 24 % 256) ++ os_f1 (os_cnm L / 2 ^ 16 % 256) ++ os_f1 (os_cnm L / 2 ^ 8 % 256) ++ os_f1 (os_cnm L / 2 ^ 0 % 256) = L.map (fun w => 96 + w) ∧ os_f2 (os_mnm L) 19683 ++ os_f2 (os_mnm L) 729 ++ os_f2 (os_mnm L) 27 ++ os_f2 (os_mnm L) 1 = L.map (fun w => 96 + w) ∧ ((os_mnm L / 19683 % 27 ≠ 0 ∨ os_mnm L / 19683 = 0) ∧ (os_mnm L / 729 % 27 ≠ 0 ∨ os_mnm L / 729 = 0) ∧ (os_mnm L / 27 % 27 ≠ 0 ∨ os_mnm L / 27 = 0) ∧ (os_mnm L / 1 % 27 ≠ 0 ∨ os_mnm L / 1 = 0)) := by
  obtain ⟨hl, hw⟩ := h
  match L, hl, hw with
  | [], _, _ => exact ⟨by decide, by decide, by decide, by decide⟩
  | [a], _, hw =>
    have ha := hw a (by simp)
    have c1 : os_cnm [a] = 96 + a := by simp [os_cnm]
    have m1 : os_mnm [a] = a := by simp [os_mnm]
    rw [c1, m1]
    refine ⟨by omega, ?_, ?_, by omega⟩
    · rw [show (96 + a) / 2 ^ 24 % 256 = 0 by omega, show (96 + a) / 2 ^ 16 % 256 = 0 by omega, show (96 + a) / 2 ^ 8 % 256 = 0 by omega, show (96 + a) / 2 ^ 0 % 256 = 96 + a by omega]
      simp [os_f1]
    · unfold os_f2
      rw [if_pos (by omega), if_pos (by omega), if_pos (by omega), if_neg (by omega), show a / 1 % 27 = a by omega]
      simp
  | [a, b], _, hw =>
    have ha := hw a (by simp)
    have hb := hw b (by simp)
    have c1 : os_cnm [a, b] = 256 * (96 + a) + (96 + b) := by simp [os_cnm]
    have m1 : os_mnm [a, b] = 27 * a + b := by simp [os_mnm]
    rw [c1, m1]
    refine ⟨by omega, ?_, ?_, by omega⟩
    · rw [show (256 * (96 + a) + (96 + b)) / 2 ^ 24 % 256 = 0 by omega, show (256 * (96 + a) + (96 + b)) / 2 ^ 16 % 256 = 0 by omega, show (256 * (96 + a) + (96 + b)) / 2 ^ 8 % 256 = 96 + a by omega, show (256 * (96 + a) + (96 + b)) / 2 ^ 0 % 256 = 96 + b by omega]
      simp [os_f1]
    · unfold os_f2
      rw [if_pos (by omega), if_pos (by omega), if_neg (by omega), if_neg (by omega), show (27 * a + b) / 27 % 27 = a by omega, show (27 * a + b) / 1 % 27 = b by omega]
      simp
  | [a, b, c], _, hw =>
    have ha := hw a (by simp)
    have hb := hw b (by simp)
    have hc := hw c (by simp)
    have c1 : os_cnm [a, b, c] = 256 * (256 * (96 + a) + (96 + b)) + (96 + c) := by simp [os_cnm]
    have m1 : os_mnm [a, b, c] = 27 * (27 * a + b) + c := by simp [os_mnm]
    rw [c1, m1]
    refine ⟨by omega, ?_, ?_, by omega⟩
    · rw [show (256 * (256 * (96 + a) + (96 + b)) + (96 + c)) / 2 ^ 24 % 256 = 0 by omega, show (256 * (256 * (96 + a) + (96 + b)) + (96 + c)) / 2 ^ 16 % 256 = 96 + a by omega, show (256 * (256 * (96 + a) + (96 + b)) + (96 + c)) / 2 ^ 8 % 256 = 96 + b by omega, show (256 * (256 * (96 + a) + (96 + b)) + (96 + c)) / 2 ^ 0 % 256 = 96 + c by omega]
      simp [os_f1]
    · unfold os_f2
      rw [if_pos (by omega), if_neg (by omega), if_neg (by omega), if_neg (by omega), show (27 * (27 * a + b) + c) / 729 % 27 = a by omega, show (27 * (27 * a + b) + c) / 27 % 27 = b by omega, show (27 * (27 * a + b) + c) / 1 % 27 = c by omega]
      simp
  | [a, b, c, d], _, hw =>
    have ha := hw a (by simp)
    have hb := hw b (by simp)
    have hc := hw c (by simp)
    have hd := hw d (by simp)
    have c1 : os_cnm [a, b, c, d] = 256 * (256 * (256 * (96 + a) + (96 + b)) + (96 + c)) + (96 + d) := by simp [os_cnm]
    have m1 : os_mnm [a, b, c, d] = 27 * (27 * (27 * a + b) + c) + d := by simp [os_mnm]
    rw [c1, m1]
    refine ⟨by omega, ?_, ?_, by omega⟩
    · rw [show (256 * (256 * (256 * (96 + a) + (96 + b)) + (96 + c)) + (96 + d)) / 2 ^ 24 % 256 = 96 + a by omega, show (256 * (256 * (256 * (96 + a) + (96 + b)) + (96 + c)) + (96 + d)) / 2 ^ 16 % 256 = 96 + b by omega, show (256 * (256 * (256 * (96 + a) + (96 + b)) + (96 + c)) + (96 + d)) / 2 ^ 8 % 256 = 96 + c by omega, show (256 * (256 * (256 * (96 + a) + (96 + b)) + (96 + c)) + (96 + d)) / 2 ^ 0 % 256 = 96 + d by omega]
      simp [os_f1]
    · unfold os_f2
      rw [if_neg (by omega), if_neg (by omega), if_neg (by omega), if_neg (by omega), show (27 * (27 * (27 * a + b) + c) + d) / 19683 % 27 = a by omega, show (27 * (27 * (27 * a + b) + c) + d) / 729 % 27 = b by omega, show (27 * (27 * (27 * a + b) + c) + d) / 27 % 27 = c by omega, show (27 * (27 * (27 * a + b) + c) + d) / 1 % 27 = d by omega]
      simp
theorem os_caddName {L : List Nat} (hL : os_nm L) {M : oa_M} {T : List Nat} (h : os_ct M T) (hl : T.length ≤ 36) {n : Nat} (hn : 5 < n) : ∃ M', FX3_addName n 1 (nI (os_cnm L)) M = some M' ∧ os_ct M' (T ++ L.map (fun w => 96 + w)) ∧ os_kc M M' := by
  obtain ⟨n', rfl⟩ : ∃ n', n = n' + 1 + 1 + 1 + 1 + 1 := ⟨n - 5, by omega⟩
  obtain ⟨⟨hN, -⟩, e1, -, -⟩ := os_nmd hL
  have l1 := os_f1_len (os_cnm L / 2 ^ 24 % 256)
  have l2 := os_f1_len (os_cnm L / 2 ^ 16 % 256)
  have l3 := os_f1_len (os_cnm L / 2 ^ 8 % 256)
  unfold FX3_addName
  obtain ⟨M1, a1, a2, a3⟩ := os_cnst (n' + 1 + 1 + 1 + 1) hN (s := 24) (by decide) h (by omega)
  obtain ⟨M2, b1, b2, b3⟩ := os_cnst (n' + 1 + 1 + 1) hN (s := 16) (by decide) a2 (by rw [List.length_append]; omega)
  obtain ⟨M3, c1, c2, c3⟩ := os_cnst (n' + 1 + 1) hN (s := 8) (by decide) b2 (by rw [List.length_append, List.length_append]; omega)
  obtain ⟨M4, d1, d2, d3⟩ := os_cnst (n' + 1) hN (s := 0) (by decide) c2 (by rw [List.length_append, List.length_append, List.length_append]; omega)
  refine ⟨M4, ?_, ?_, a3.tr (b3.tr (c3.tr d3))⟩
  · rw [show (24 : Int32) = nI 24 from rfl, a1, show nI 24 + (-8 : Int32) = nI 16 from rfl, b1, show nI 16 + (-8 : Int32) = nI 8 from rfl, c1, show nI 8 + (-8 : Int32) = nI 0 from rfl, d1]
    rw [BX3_addName_3, if_pos (show nI 0 + (-8 : Int32) < 0 from by decide)]
  · rw [← e1, ← List.append_assoc, ← List.append_assoc, ← List.append_assoc]
    exact d2
theorem os_maddName {L : List Nat} (hL : os_nm L) {M : oa_M} {T : List Nat} (h : os_mo M T) (hl : T.length ≤ 36) {n : Nat} (hn : 5 < n) : ∃ M', FX5_addName n (nI (os_mnm L)) M = some M' ∧ os_mo M' (T ++ L.map (fun w => 96 + w)) ∧ os_km M M' := by
  obtain ⟨n', rfl⟩ : ∃ n', n = n' + 1 + 1 + 1 + 1 + 1 := ⟨n - 5, by omega⟩
  obtain ⟨⟨-, hN⟩, -, e1, g1, g2, g3, g4⟩ := os_nmd hL
  have l1 := os_f2_len (os_mnm L) 19683
  have l2 := os_f2_len (os_mnm L) 729
  have l3 := os_f2_len (os_mnm L) 27
  unfold FX5_addName
  obtain ⟨M1, a1, a2, a3⟩ := os_mnst (n' + 1 + 1 + 1 + 1) hN (h := 19683) (by decide) (by decide) g1 h (by omega)
  obtain ⟨M2, b1, b2, b3⟩ := os_mnst (n' + 1 + 1 + 1) hN (h := 729) (by decide) (by decide) g2 a2 (by rw [List.length_append]; omega)
  obtain ⟨M3, c1, c2, c3⟩ := os_mnst (n' + 1 + 1) hN (h := 27) (by decide) (by decide) g3 b2 (by rw [List.length_append, List.length_append]; omega)
  obtain ⟨M4, d1, d2, d3⟩ := os_mnst (n' + 1) hN (h := 1) (by decide) (by decide) g4 c2 (by rw [List.length_append, List.length_append, List.length_append]; omega)
  refine ⟨M4, ?_, ?_, a3.tr (b3.tr (c3.tr d3))⟩
  · rw [show (19683 : Int32) = nI 19683 from rfl, a1, show 19683 / 27 = 729 from rfl, b1, show 729 / 27 = 27 from rfl, c1, show 27 / 27 = 1 from rfl, d1]
    rw [BX5_addName_4, if_pos (show nI (1 / 27) ≤ 0 from by decide)]
  · rw [← e1, ← List.append_assoc, ← List.append_assoc, ← List.append_assoc]
    exact d2
/-- a number's digits -/
def os_d1 (N u : Nat) : List Nat := if u ≤ N ∨ u = 1 then [48 + N / u % 10] else []
def os_dg (N : Nat) : List Nat := os_d1 N 100000 ++ os_d1 N 10000 ++ os_d1 N 1000 ++ os_d1 N 100 ++ os_d1 N 10 ++ os_d1 N 1
theorem os_d1_len (N u : Nat) : (os_d1 N u).length ≤ 1 := by unfold os_d1; split <;> simp
theorem os_dg_len (N : Nat) : (os_dg N).length ≤ 6 := by
  have := os_d1_len N 100000; have := os_d1_len N 10000; have := os_d1_len N 1000; have := os_d1_len N 100; have := os_d1_len N 10; have := os_d1_len N 1
  unfold os_dg
  simp only [List.length_append]
  omega
theorem os_cdst (n : Nat) {N u : Nat} (hN : N < 2 ^ 30) (hu : 1 ≤ u) (hu2 : u < 2 ^ 30) (x1 : Int32) {M : oa_M} {T : List Nat} (h : os_ct M T) (hl : T.length < 40) : ∃ M', BX3_addNumber_25 (n + 1) 1 x1 (nI N) (nI u) M = BX3_addNumber_25 n 1 x1 (nI N) (nI (u / 10)) M' ∧ os_ct M' (T ++ os_d1 N u) ∧ os_kc M M' := by
  have hq : N / u ≤ N := Nat.div_le_self _ _
  have hr : N / u % 10 < 10 := Nat.mod_lt _ (by decide)
  have e10 : nI u / (10 : Int32) = nI (u / 10) := by rw [show (10 : Int32) = nI 10 from rfl, on_div (by omega) (by decide)]
  have hdig : (48 : Int32) + oa_rem (nI N / nI u) (10 : Int32) = nI (48 + N / u % 10) := by rw [on_div (by omega) (by omega), show (10 : Int32) = nI 10 from rfl, on_rem (by omega) (by decide), show (48 : Int32) = nI 48 from rfl, nI_add]
  rw [BX3_addNumber_25]
  rw [if_neg (show ¬ nI u < (1 : Int32) from nI_nlt (b := 1) hu (by omega))]
  obtain ⟨M', a1, a2, a3⟩ := os_cadd h hl (c := 48 + N / u % 10) (by omega)
  have go : BX3_addNumber_40 (BX3_addNumber_25 n) n 1 x1 (nI N) (nI u) M = BX3_addNumber_25 n 1 x1 (nI N) (nI (u / 10)) M' := by
    unfold BX3_addNumber_40 BX3_addNumber_55
    rw [if_pos (nI_ne0 (by omega) (by omega)), hdig, on_i2c (by omega), a1, ob_d, e10]
  by_cases h1 : u ≤ N
  · rw [if_pos (nI_le h1 (by omega)), go]
    exact ⟨M', rfl, by simpa [os_d1, h1] using a2, a3⟩
  · rw [if_neg (nI_ge (by omega) (by omega))]
    by_cases h2 : u = 1
    · rw [if_pos (by rw [h2]; rfl), go]
      exact ⟨M', rfl, by simpa [os_d1, h2] using a2, a3⟩
    · rw [if_neg (show ¬ nI u = (1 : Int32) from fun q => h2 ((nI_eq (b := 1) (by omega) (by decide)).mp q))]
      unfold BX3_addNumber_55
      rw [e10]
      exact ⟨M, rfl, by simpa [os_d1, h1, h2] using h, os_kc.rf M⟩
theorem os_cdigits {N : Nat} (hN : N < 1000000) (x1 : Int32) {M : oa_M} {T : List Nat} (h : os_ct M T) (hl : T.length ≤ 33) {n : Nat} (hn : 8 < n) : ∃ M', BX3_addNumber_25 n 1 x1 (nI N) (100000 : Int32) M = some M' ∧ os_ct M' (T ++ os_dg N) ∧ os_kc M M' := by
  obtain ⟨n', rfl⟩ : ∃ n', n = n' + 1 + 1 + 1 + 1 + 1 + 1 + 1 := ⟨n - 7, by omega⟩
  have l1 := os_d1_len N 100000
  have l2 := os_d1_len N 10000
  have l3 := os_d1_len N 1000
  have l4 := os_d1_len N 100
  have l5 := os_d1_len N 10
  obtain ⟨M1, a1, a2, a3⟩ := os_cdst (n' + 1 + 1 + 1 + 1 + 1 + 1) (N := N) (u := 100000) (by omega) (by decide) (by decide) x1 h (by omega)
  obtain ⟨M2, b1, b2, b3⟩ := os_cdst (n' + 1 + 1 + 1 + 1 + 1) (N := N) (u := 10000) (by omega) (by decide) (by decide) x1 a2 (by simp only [List.length_append]; omega)
  obtain ⟨M3, c1, c2, c3⟩ := os_cdst (n' + 1 + 1 + 1 + 1) (N := N) (u := 1000) (by omega) (by decide) (by decide) x1 b2 (by simp only [List.length_append]; omega)
  obtain ⟨M4, d1, d2, d3⟩ := os_cdst (n' + 1 + 1 + 1) (N := N) (u := 100) (by omega) (by decide) (by decide) x1 c2 (by simp only [List.length_append]; omega)
  obtain ⟨M5, e1, e2, e3⟩ := os_cdst (n' + 1 + 1) (N := N) (u := 10) (by omega) (by decide) (by decide) x1 d2 (by simp only [List.length_append]; omega)
  obtain ⟨M6, f1, f2, f3⟩ := os_cdst (n' + 1) (N := N) (u := 1) (by omega) (by decide) (by decide) x1 e2 (by simp only [List.length_append]; omega)
  refine ⟨M6, ?_, ?_, a3.tr (b3.tr (c3.tr (d3.tr (e3.tr f3))))⟩
  · rw [show (100000 : Int32) = nI 100000 from rfl, a1, show 100000 / 10 = 10000 from rfl, b1, show 10000 / 10 = 1000 from rfl, c1, show 1000 / 10 = 100 from rfl, d1, show 100 / 10 = 10 from rfl, e1, show 10 / 10 = 1 from rfl, f1]
    rw [BX3_addNumber_25, if_pos (show nI (1 / 10) < (1 : Int32) from by decide)]
  · unfold os_dg
    simp only [← List.append_assoc]
    exact f2
/-- a value, as sign and size -/
def os_sz (v : Int32) (N : Nat) : Prop := N < 1000000 ∧ ((0 ≤ v ∧ v = nI N) ∨ (¬ 0 ≤ v ∧ -v = nI N))
def os_nt (v : Int32) (N : Nat) : List Nat := (if 0 ≤ v then [] else [45]) ++ os_dg N
theorem os_nt_len (v : Int32) (N : Nat) : (os_nt v N).length ≤ 7 := by
  have := os_dg_len N
  unfold os_nt
  split <;> simp <;> omega
theorem os_caddNumber {v : Int32} {N : Nat} (hv : os_sz v N) {M : oa_M} {T : List Nat} (h : os_ct M T) (hl : T.length ≤ 32) {n : Nat} (hn : 8 < n) : ∃ M', FX3_addNumber n 1 v M = some M' ∧ os_ct M' (T ++ os_nt v N) ∧ os_kc M M' := by
  obtain ⟨hN, hv⟩ := hv
  unfold FX3_addNumber BX3_addNumber_11 BX3_addNumber_21 os_nt
  rcases hv with ⟨h0, e⟩ | ⟨h0, e⟩
  · rw [if_pos h0, if_pos h0]
    obtain ⟨M', a1, a2, a3⟩ := os_cdigits hN v h (by omega) hn
    rw [e] at a1 ⊢
    rw [if_pos (by rw [← e]; exact h0)]
    exact ⟨M', a1, by simpa using a2, a3⟩
  · obtain ⟨M1, b1, b2, b3⟩ := os_cadd h (by omega) (c := 45) (by decide)
    rw [if_neg h0, show FX3_add n 1 (45 : Int32) M = some (1, M1) from b1 n, ob_d, if_neg h0, if_neg h0, e]
    obtain ⟨M', a1, a2, a3⟩ := os_cdigits hN v b2 (by simp; omega) hn
    exact ⟨M', a1, by rw [← List.append_assoc]; exact a2, b3.tr a3⟩
theorem os_mdst (n : Nat) {N u : Nat} (hN : N < 2 ^ 30) (hu : 1 ≤ u) (hu2 : u < 2 ^ 30) (x1 : Int32) {M : oa_M} {T : List Nat} (h : os_mo M T) (hl : T.length < 40) : ∃ M', BX5_addNumber_39 (n + 1) x1 (nI N) (nI u) M = BX5_addNumber_39 n x1 (nI N) (nI (u / 10)) M' ∧ os_mo M' (T ++ [48 + N / u % 10]) ∧ os_km M M' := by
  have hq : N / u ≤ N := Nat.div_le_self _ _
  have hr : N / u % 10 < 10 := Nat.mod_lt _ (by decide)
  have e10 : nI u / (10 : Int32) = nI (u / 10) := by rw [show (10 : Int32) = nI 10 from rfl, on_div (by omega) (by decide)]
  have hdig : (48 : Int32) + oa_rem (nI N / nI u) (10 : Int32) = nI (48 + N / u % 10) := by rw [on_div (by omega) (by omega), show (10 : Int32) = nI 10 from rfl, on_rem (by omega) (by decide), show (48 : Int32) = nI 48 from rfl, nI_add]
  obtain ⟨M', a1, a2, a3⟩ := os_madd h hl (c := 48 + N / u % 10) (by omega)
  refine ⟨M', ?_, a2, a3⟩
  rw [BX5_addNumber_39]
  rw [if_neg (nI_nle (by omega) (by omega)), if_pos (nI_ne0 (by omega) (by omega)), hdig, a1, ob_v, e10]
/-- the digits from a power of ten down -/
def os_pw : Nat → Nat
  | 0 => 1
  | d + 1 => 10 * os_pw d
def os_dn' (N : Nat) : Nat → List Nat
  | 0 => [48 + N / 1 % 10]
  | d + 1 => (48 + N / os_pw (d + 1) % 10) :: os_dn' N d
theorem os_pw_lt : ∀ d, d ≤ 6 → 1 ≤ os_pw d ∧ os_pw d < 2 ^ 30 := by decide
theorem os_mdown {N : Nat} (hN : N < 2 ^ 30) (x1 : Int32) : ∀ (d n : Nat) (M : oa_M) (T : List Nat), d ≤ 6 → d + 2 < n → os_mo M T → T.length + d < 40 → ∃ M', BX5_addNumber_39 n x1 (nI N) (nI (os_pw d)) M = some M' ∧ os_mo M' (T ++ os_dn' N d) ∧ os_km M M' := by
  intro d
  induction d with
  | zero =>
    intro n M T hd hn h hl
    obtain ⟨n', rfl⟩ : ∃ n', n = n' + 1 + 1 := ⟨n - 2, by omega⟩
    obtain ⟨M', a1, a2, a3⟩ := os_mdst (n' + 1) hN (u := 1) (by decide) (by decide) x1 h (by omega)
    refine ⟨M', ?_, a2, a3⟩
    rw [show os_pw 0 = 1 from rfl, a1, BX5_addNumber_39, if_pos (show nI (1 / 10) ≤ 0 from by decide)]
  | succ d ih =>
    intro n M T hd hn h hl
    obtain ⟨n', rfl⟩ : ∃ n', n = n' + 1 := ⟨n - 1, by omega⟩
    have hp := os_pw_lt (d + 1) hd
    obtain ⟨M1, a1, a2, a3⟩ := os_mdst n' hN (u := os_pw (d + 1)) hp.1 hp.2 x1 h (by omega)
    obtain ⟨M', b1, b2, b3⟩ := ih n' M1 _ (by omega) (by omega) a2 (by simp; omega)
    refine ⟨M', ?_, by simpa [os_dn'] using b2, a3.tr b3⟩
    rw [a1, show os_pw (d + 1) / 10 = os_pw d from by show 10 * os_pw d / 10 = _; omega]
    exact b1
theorem os_mup {N : Nat} (hN : N < 1000000) (x1 : Int32) (M : oa_M) : ∀ (r d n : Nat), d + r ≤ 5 → r < n → (∀ e, e < d + r → 9 < N / os_pw e) → N / os_pw (d + r) ≤ 9 → BX5_addNumber_13 n x1 (nI N) (nI (os_pw d)) M = (if 0 ≤ x1 then BX5_addNumber_39 (n - 1 - r) x1 (nI N) (nI (os_pw (d + r))) M else oa_bv (FX5_add (n - 1 - r) (45 : Int32) M) (fun M5 => BX5_addNumber_39 (n - 1 - r) x1 (nI N) (nI (os_pw (d + r))) M5)) := by
  intro r
  induction r with
  | zero =>
    intro d n hd hn he h9
    obtain ⟨n', rfl⟩ : ∃ n', n = n' + 1 := ⟨n - 1, by omega⟩
    have hp := os_pw_lt d (by omega)
    rw [BX5_addNumber_13]
    rw [Nat.add_zero] at h9
    rw [if_pos (nI_ne0 (by omega) (by omega)), on_div (by omega) (by omega), if_pos (show nI (N / os_pw d) ≤ (9 : Int32) from nI_le (b := 9) h9 (by decide))]
    rfl
  | succ r ih =>
    intro d n hd hn he h9
    obtain ⟨n', rfl⟩ : ∃ n', n = n' + 1 := ⟨n - 1, by omega⟩
    have hp := os_pw_lt d (by omega)
    have hq : N / os_pw d ≤ N := Nat.div_le_self _ _
    rw [BX5_addNumber_13]
    rw [if_pos (nI_ne0 (by omega) (by omega)), on_div (by omega) (by omega), if_neg (show ¬ nI (N / os_pw d) ≤ (9 : Int32) from nI_ge (a := 9) (he d (by omega)) (by omega)), show nI (os_pw d) * (10 : Int32) = nI (os_pw (d + 1)) from by rw [show (10 : Int32) = nI 10 from rfl, on_mul, Nat.mul_comm]; rfl, ih (d + 1) n' (by omega) (by omega) (fun e h => he e (by omega)) (by rw [show d + 1 + r = d + (r + 1) by omega]; exact h9)]
    rw [show d + 1 + r = d + (r + 1) by omega, show n' + 1 - 1 - (r + 1) = n' - 1 - r by omega]
/-- how many digits -/
theorem os_top {N : Nat} (hN : N < 1000000) : ∃ d, d ≤ 5 ∧ (∀ e, e < d → 9 < N / os_pw e) ∧ N / os_pw d ≤ 9 ∧ os_dn' N d = os_dg N := by
  have p0 : os_pw 0 = 1 := rfl
  have p1 : os_pw 1 = 10 := rfl
  have p2 : os_pw 2 = 100 := rfl
  have p3 : os_pw 3 = 1000 := rfl
  have p4 : os_pw 4 = 10000 := rfl
  have p5 : os_pw 5 = 100000 := rfl
  by_cases h1 : N < 10
  · refine ⟨0, by decide, fun e he => absurd he (Nat.not_lt_zero _), by rw [p0]; omega, ?_⟩
    simp [os_dn', os_dg, os_d1, show ¬ 100000 ≤ N by omega, show ¬ 10000 ≤ N by omega, show ¬ 1000 ≤ N by omega, show ¬ 100 ≤ N by omega, show ¬ 10 ≤ N by omega]
  by_cases h2 : N < 100
  · refine ⟨1, by decide, fun e he => ?_, by rw [p1]; omega, ?_⟩
    · rw [show e = 0 by omega, p0]; omega
    · simp [os_dn', os_dg, os_d1, p1, show ¬ 100000 ≤ N by omega, show ¬ 10000 ≤ N by omega, show ¬ 1000 ≤ N by omega, show ¬ 100 ≤ N by omega, show 10 ≤ N by omega]
  by_cases h3 : N < 1000
  · refine ⟨2, by decide, fun e he => ?_, by rw [p2]; omega, ?_⟩
    · rcases (show e = 0 ∨ e = 1 by omega) with rfl | rfl
      · rw [p0]; omega
      · rw [p1]; omega
    · simp [os_dn', os_dg, os_d1, p1, p2, show ¬ 100000 ≤ N by omega, show ¬ 10000 ≤ N by omega, show ¬ 1000 ≤ N by omega, show 100 ≤ N by omega, show 10 ≤ N by omega]
  by_cases h4 : N < 10000
  · refine ⟨3, by decide, fun e he => ?_, by rw [p3]; omega, ?_⟩
    · rcases (show e = 0 ∨ e = 1 ∨ e = 2 by omega) with rfl | rfl | rfl
      · rw [p0]; omega
      · rw [p1]; omega
      · rw [p2]; omega
    · simp [os_dn', os_dg, os_d1, p1, p2, p3, show ¬ 100000 ≤ N by omega, show ¬ 10000 ≤ N by omega, show 1000 ≤ N by omega, show 100 ≤ N by omega, show 10 ≤ N by omega]
  by_cases h5 : N < 100000
  · refine ⟨4, by decide, fun e he => ?_, by rw [p4]; omega, ?_⟩
    · rcases (show e = 0 ∨ e = 1 ∨ e = 2 ∨ e = 3 by omega) with rfl | rfl | rfl | rfl
      · rw [p0]; omega
      · rw [p1]; omega
      · rw [p2]; omega
      · rw [p3]; omega
    · simp [os_dn', os_dg, os_d1, p1, p2, p3, p4, show ¬ 100000 ≤ N by omega, show 10000 ≤ N by omega, show 1000 ≤ N by omega, show 100 ≤ N by omega, show 10 ≤ N by omega]
  · refine ⟨5, by decide, fun e he => ?_, by rw [p5]; omega, ?_⟩
    · rcases (show e = 0 ∨ e = 1 ∨ e = 2 ∨ e = 3 ∨ e = 4 by omega) with rfl | rfl | rfl | rfl | rfl
      · rw [p0]; omega
      · rw [p1]; omega
      · rw [p2]; omega
      · rw [p3]; omega
      · rw [p4]; omega
    · simp [os_dn', os_dg, os_d1, p1, p2, p3, p4, p5, show 100000 ≤ N by omega, show 10000 ≤ N by omega, show 1000 ≤ N by omega, show 100 ≤ N by omega, show 10 ≤ N by omega]
theorem os_maddNumber {v : Int32} {N : Nat} (hv : os_sz v N) {M : oa_M} {T : List Nat} (h : os_mo M T) (hl : T.length ≤ 32) {n : Nat} (hn : 20 < n) : ∃ M', FX5_addNumber n v M = some M' ∧ os_mo M' (T ++ os_nt v N) ∧ os_km M M' := by
  obtain ⟨hN, hv⟩ := hv
  obtain ⟨d, hd, he, h9, hdn⟩ := os_top hN
  unfold FX5_addNumber BX5_addNumber_10 os_nt
  have up := os_mup hN v M d 0 n (by omega) (by omega) (by rw [Nat.zero_add]; exact he) (by rw [Nat.zero_add]; exact h9)
  rw [Nat.zero_add] at up
  rcases hv with ⟨h0, e⟩ | ⟨h0, e⟩
  · rw [if_pos h0, if_pos h0]
    obtain ⟨M', a1, a2, a3⟩ := os_mdown (N := N) (by omega) v d (n - 1 - d) M T (by omega) (by omega) h (by omega)
    rw [if_pos h0, a1] at up
    refine ⟨M', ?_, by rw [← hdn]; simpa using a2, a3⟩
    rw [show BX5_addNumber_13 n v v (1 : Int32) M = BX5_addNumber_13 n v (nI N) (nI (os_pw 0)) M from by rw [← e]; rfl]
    exact up
  · obtain ⟨M1, b1, b2, b3⟩ := os_madd h (by omega) (c := 45) (by decide)
    obtain ⟨M', a1, a2, a3⟩ := os_mdown (N := N) (by omega) v d (n - 1 - d) M1 _ (by omega) (by omega) b2 (by simp; omega)
    rw [if_neg h0, show FX5_add (n - 1 - d) (45 : Int32) M = some M1 from b1 _, ob_v, a1] at up
    rw [if_neg h0, if_neg h0, e]
    refine ⟨M', up, by rw [← hdn, ← List.append_assoc]; exact a2, b3.tr a3⟩

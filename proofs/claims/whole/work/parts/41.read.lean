/-! reading the typed text, on both sides -/
def os_tx (M : oa_M) (len : Nat) (c : Nat → Nat) (p : Nat) : Prop := len ≤ 40 ∧ p ≤ 50 ∧ M 1 0 1 = nI len ∧ M 1 0 2 = nI p ∧ ∀ j, j < len → M 2 0 j = nI (c j) ∧ c j < 65536
def os_mx (M : oa_M) (len : Nat) (c : Nat → Nat) (p : Nat) : Prop := len ≤ 40 ∧ p ≤ 60 ∧ M 20 0 0 = nI len ∧ M 20 0 2 = nI p ∧ ∀ j, j < len → M 21 0 j = nI (c j) ∧ c j < 65536
def os_k1 (M M' : oa_M) : Prop := ∀ k i f, ¬ (k = 1 ∧ i = 0 ∧ f = 2) → M' k i f = M k i f
def os_k2 (M M' : oa_M) : Prop := ∀ k i f, ¬ (k = 20 ∧ (f = 2 ∨ f = 3)) → M' k i f = M k i f
theorem os_k1.rf (M : oa_M) : os_k1 M M := fun _ _ _ _ => rfl
theorem os_k2.rf (M : oa_M) : os_k2 M M := fun _ _ _ _ => rfl
theorem os_k1.tr {M M1 M2 : oa_M} (h : os_k1 M M1) (h2 : os_k1 M1 M2) : os_k1 M M2 := fun k i f hn => (h2 k i f hn).trans (h k i f hn)
theorem os_k2.tr {M M1 M2 : oa_M} (h : os_k2 M M1) (h2 : os_k2 M1 M2) : os_k2 M M2 := fun k i f hn => (h2 k i f hn).trans (h k i f hn)
theorem os_tx.to {M M' : oa_M} {len p : Nat} {c : Nat → Nat} (h : os_tx M len c p) (h1 : ∀ i f, i = 0 → M' 1 i f = M 1 i f) (h2 : ∀ j, M' 2 0 j = M 2 0 j) : os_tx M' len c p := by
  refine ⟨h.1, h.2.1, ?_, ?_, fun j hj => ?_⟩
  · rw [h1 0 1 rfl]; exact h.2.2.1
  · rw [h1 0 2 rfl]; exact h.2.2.2.1
  · rw [h2]; exact h.2.2.2.2 j hj
theorem os_mx.to {M M' : oa_M} {len p : Nat} {c : Nat → Nat} (h : os_mx M len c p) (h1 : M' 20 0 0 = M 20 0 0) (h2 : M' 20 0 2 = M 20 0 2) (h3 : ∀ j, M' 21 0 j = M 21 0 j) : os_mx M' len c p := by
  refine ⟨h.1, h.2.1, ?_, ?_, fun j hj => ?_⟩
  · rw [h1]; exact h.2.2.1
  · rw [h2]; exact h.2.2.2.1
  · rw [h3]; exact h.2.2.2.2 j hj
def os_within (c : Nat → Nat) (len p lo hi : Nat) : Bool := decide (p < len) && (decide (lo ≤ c p) && decide (c p ≤ hi))
theorem os_niw (n : Nat) {M : oa_M} {len p : Nat} {c : Nat → Nat} (h : os_tx M len c p) {lo hi : Nat} (hlo : lo < 65536) (hhi : hi < 65536) : FX3_nextIsWithin n 0 (nI lo) (nI hi) M = some (os_i (os_within c len p lo hi), M) := by
  obtain ⟨h1, h2, h3, h4, h5⟩ := h
  unfold FX3_nextIsWithin BX3_nextIsWithin_41 BX3_nextIsWithin_42 os_within
  rw [h3, h4]
  by_cases hp : p < len
  · obtain ⟨e, hc⟩ := h5 p hp
    rw [if_neg (nI_ge hp (by omega)), if_pos (on_in (by omega) (by decide)), nI_clamp (by omega), e]
    by_cases q1 : lo ≤ c p
    · rw [if_neg (nI_nlt q1 (by omega)), if_pos (on_in (by omega) (by decide))]
      by_cases q2 : c p ≤ hi
      · rw [if_neg (nI_nlt q2 (by omega))]
        simp [hp, q1, q2]
        rfl
      · rw [if_pos (nI_lt (by omega) (by omega))]
        simp [q2]
        rfl
    · rw [if_pos (nI_lt (by omega) (by omega))]
      simp [q1]
      rfl
  · rw [if_pos (nI_le (by omega) (by omega))]
    simp [hp]
    rfl
def os_at' (c : Nat → Nat) (len p : Nat) : Nat := if p < len then c p else 0
theorem os_step {M : oa_M} {len p : Nat} {c : Nat → Nat} (h : os_tx M len c p) (hp : p < 50) : os_tx (oa_up M 1 0 2 (nI (p + 1))) len c (p + 1) ∧ os_k1 M (oa_up M 1 0 2 (nI (p + 1))) := by
  obtain ⟨h1, h2, h3, h4, h5⟩ := h
  refine ⟨⟨h1, by omega, ?_, os_up1, fun j hj => ?_⟩, fun k i f hn => os_up (by omega)⟩
  · rw [os_up (by decide)]; exact h3
  · rw [os_up (by omega)]; exact h5 j hj
theorem os_takeAny (n : Nat) {M : oa_M} {len p : Nat} {c : Nat → Nat} (h : os_tx M len c p) : FX3_takeAny n 0 M = some (nI (os_at' c len p), oa_up M 1 0 2 (nI (p + 1))) := by
  obtain ⟨h1, h2, h3, h4, h5⟩ := h
  unfold FX3_takeAny FX3_at BX3_at_21 BX3_at_22 os_at'
  rw [h4, if_neg (nI_pos (by omega)), h3]
  by_cases hp : p < len
  · obtain ⟨e, hc⟩ := h5 p hp
    rw [if_neg (nI_ge hp (by omega)), if_pos (on_in (by omega) (by decide)), nI_clamp (by omega), e, on_nc hc, ob_d, on_nc hc, h4, nI_1, if_pos hp]
  · rw [if_pos (nI_le (by omega) (by omega)), show oa_nc 0 = nI 0 from rfl, ob_d, show oa_nc (nI 0) = nI 0 from rfl, h4, nI_1, if_neg hp]
theorem os_take (n : Nat) {M : oa_M} {len p : Nat} {c : Nat → Nat} (h : os_tx M len c p) {ch : Nat} (hch : ch < 65536) : FX3_take n 0 (nI ch) M = (if os_within c len p ch ch then some (1, oa_up M 1 0 2 (nI (p + 1))) else some (0, M)) := by
  unfold FX3_take
  rw [os_niw n h hch hch, ob_d]
  cases os_within c len p ch ch with
  | true => rw [if_neg (by decide), h.2.2.2.1, nI_1]; rfl
  | false => rw [if_pos (by rfl)]; rfl
theorem os_left (n : Nat) {M : oa_M} {len p : Nat} {c : Nat → Nat} (h : os_tx M len c p) (hp : p ≤ len) : FX3_left n 0 M = some (nI (len - p), M) := by
  unfold FX3_left
  rw [h.2.2.1, h.2.2.2.1, on_sub hp]
/-- the letters from p on, up to r of them -/
def os_ls (c : Nat → Nat) (len : Nat) : Nat → Nat → List Nat
  | 0, _ => []
  | r + 1, p => if os_within c len p 97 122 then (c p - 96) :: os_ls c len r (p + 1) else []
theorem os_ls_len (c : Nat → Nat) (len : Nat) : ∀ r p, (os_ls c len r p).length ≤ r
  | 0, p => by simp [os_ls]
  | r + 1, p => by
    have := os_ls_len c len r (p + 1)
    simp only [os_ls]
    split <;> simp <;> omega
theorem os_ls_end (c : Nat → Nat) (len : Nat) : ∀ r p, p ≤ len → p + (os_ls c len r p).length ≤ len
  | 0, p, h => by simpa [os_ls] using h
  | r + 1, p, h => by
    simp only [os_ls]
    by_cases hw : os_within c len p 97 122 = true
    · rw [if_pos hw]
      have h1 : p < len := by unfold os_within at hw; simp at hw; exact hw.1
      have := os_ls_end c len r (p + 1) (by omega)
      simp
      omega
    · rw [if_neg hw]
      simpa using h
theorem os_ls_ok (c : Nat → Nat) (len : Nat) : ∀ r p, ∀ w ∈ os_ls c len r p, 1 ≤ w ∧ w ≤ 26
  | 0, p => by simp [os_ls]
  | r + 1, p => by
    intro w hw
    simp only [os_ls] at hw
    by_cases h : os_within c len p 97 122 = true
    · rw [if_pos h] at hw
      rcases List.mem_cons.mp hw with e | e
      · unfold os_within at h
        simp at h
        omega
      · exact os_ls_ok c len r (p + 1) w e
    · rw [if_neg h] at hw
      cases hw
theorem os_ls_take (c : Nat → Nat) (len : Nat) : ∀ m r p, m ≤ r → os_ls c len m p = (os_ls c len r p).take m
  | 0, r, p, _ => by simp [os_ls]
  | m + 1, r, p, h => by
    obtain ⟨r', rfl⟩ : ∃ r', r = r' + 1 := ⟨r - 1, by omega⟩
    simp only [os_ls]
    by_cases hw : os_within c len p 97 122 = true
    · rw [if_pos hw, if_pos hw, List.take_succ_cons, os_ls_take c len m r' (p + 1) (by omega)]
    · rw [if_neg hw, if_neg hw]
      rfl
/-- behind all its letters there is none -/
theorem os_ls_stop (c : Nat → Nat) (len : Nat) : ∀ r p, len ≤ p + r → os_within c len (p + (os_ls c len r p).length) 97 122 = false
  | 0, p, h => by
    simp only [os_ls, List.length_nil, Nat.add_zero]
    unfold os_within
    rw [decide_eq_false (show ¬ p < len by omega)]
    rfl
  | r + 1, p, h => by
    simp only [os_ls]
    by_cases hw : os_within c len p 97 122 = true
    · rw [if_pos hw]
      have := os_ls_stop c len r (p + 1) (by omega)
      rw [List.length_cons, show p + ((os_ls c len r (p + 1)).length + 1) = p + 1 + (os_ls c len r (p + 1)).length by omega]
      exact this
    · rw [if_neg hw]
      simpa using hw
theorem os_cnm_snoc (A : List Nat) (w : Nat) : os_cnm (A ++ [w]) = 256 * os_cnm A + (96 + w) := by simp [os_cnm]
theorem os_mnm_snoc (A : List Nat) (w : Nat) : os_mnm (A ++ [w]) = 27 * os_mnm A + w := by simp [os_mnm]
theorem os_ctn {len : Nat} {c : Nat → Nat} : ∀ (r n p i : Nat) (M : oa_M) (A : List Nat), i + r = 4 → r < n → p + r ≤ 50 → os_tx M len c p → ∃ M', BX3_takeName_4 n 0 (nI (os_cnm A)) (nI i) M = some (nI (os_cnm (A ++ os_ls c len r p)), M') ∧ os_tx M' len c (p + (os_ls c len r p).length) ∧ os_k1 M M' := by
  intro r
  induction r with
  | zero =>
    intro n p i M A hi hn hp h
    obtain ⟨n', rfl⟩ : ∃ n', n = n' + 1 := ⟨n - 1, by omega⟩
    refine ⟨M, ?_, by simpa [os_ls] using h, os_k1.rf M⟩
    rw [BX3_takeName_4, if_pos (show (4 : Int32) ≤ nI i from nI_le (a := 4) (by omega) (by omega))]
    unfold BX3_takeName_36
    simp [os_ls]
  | succ r ih =>
    intro n p i M A hi hn hp h
    obtain ⟨n', rfl⟩ : ∃ n', n = n' + 1 := ⟨n - 1, by omega⟩
    rw [BX3_takeName_4, if_neg (show ¬ (4 : Int32) ≤ nI i from nI_ge (b := 4) (by omega) (by decide)), show (97 : Int32) = nI 97 from rfl, show (122 : Int32) = nI 122 from rfl, os_niw n' h (by decide) (by decide), ob_d]
    simp only [os_ls]
    cases hw : os_within c len p 97 122 with
    | false =>
      rw [if_pos (by rfl)]
      unfold BX3_takeName_36
      exact ⟨M, by simp, by simpa using h, os_k1.rf M⟩
    | true =>
      have hw2 := hw
      unfold os_within at hw2
      simp at hw2
      rw [if_neg (by decide), os_takeAny n' h, ob_d, show os_at' c len p = c p from if_pos hw2.1, show (8 : Int32) = nI 8 from rfl, on_shl _ (by decide), on_or, os_or8 (by omega), nI_1]
      obtain ⟨s1, s2⟩ := os_step h (by omega)
      obtain ⟨M', a1, a2, a3⟩ := ih n' (p + 1) (i + 1) _ (A ++ [c p - 96]) (by omega) (by omega) (by omega) s1
      rw [os_cnm_snoc, show 96 + (c p - 96) = c p by omega] at a1
      refine ⟨M', ?_, ?_, s2.tr a3⟩
      · rw [a1]
        simp
      · simp only [if_true, List.length_cons]
        rw [show p + ((os_ls c len r (p + 1)).length + 1) = p + 1 + (os_ls c len r (p + 1)).length by omega]
        exact a2
theorem os_takeName {M : oa_M} {len p : Nat} {c : Nat → Nat} (h : os_tx M len c p) (hp : p ≤ 46) {n : Nat} (hn : 5 < n) : ∃ M', FX3_takeName n 0 M = some (nI (os_cnm (os_ls c len 4 p)), M') ∧ os_tx M' len c (p + (os_ls c len 4 p).length) ∧ os_k1 M M' := by
  obtain ⟨M', a1, a2, a3⟩ := os_ctn (len := len) (c := c) 4 n p 0 M [] (by omega) (by omega) (by omega) h
  exact ⟨M', by show BX3_takeName_4 n 0 (nI (os_cnm [])) (nI 0) M = _; simpa using a1, a2, a3⟩
/-! the model's -/
def os_hr (c : Nat → Nat) (len p : Nat) : Int32 := if p < len then nI (c p) else -1
theorem os_here (n : Nat) {M : oa_M} {len p : Nat} {c : Nat → Nat} (h : os_mx M len c p) : FX5_here n M = some (os_hr c len p, M) := by
  obtain ⟨h1, h2, h3, h4, h5⟩ := h
  unfold FX5_here BX5_here_24 os_hr
  rw [h3, h4]
  by_cases hp : p < len
  · rw [if_neg (nI_ge hp (by omega)), if_pos (on_in (by omega) (by decide)), nI_clamp (by omega), (h5 p hp).1, if_pos hp]
  · rw [if_pos (nI_le (by omega) (by omega)), if_neg hp]
theorem os_hrw {M : oa_M} {len p : Nat} {c : Nat → Nat} (h : os_mx M len c p) {lo hi : Nat} (hlo : lo < 65536) (hhi : hi < 65536) : (os_hr c len p < nI lo ∨ nI hi < os_hr c len p) ↔ os_within c len p lo hi = false := by
  unfold os_hr os_within
  by_cases hp : p < len
  · have hc := (h.2.2.2.2 p hp).2
    rw [if_pos hp, nI_ltI (by omega) (by omega), nI_ltI (by omega) (by omega)]
    simp [hp]
    omega
  · rw [if_neg hp]
    simp [hp]
    left
    rw [Int32.lt_iff_toInt_lt, on_toInt (by omega), on_m1]
    omega
theorem os_isLetter (n : Nat) {M : oa_M} {len p : Nat} {c : Nat → Nat} (h : os_mx M len c p) (M' : oa_M) : FX5_isLetter n (os_hr c len p) M' = some (os_i (os_within c len p 97 122), M') := by
  have hw := os_hrw h (lo := 97) (hi := 122) (by decide) (by decide)
  unfold FX5_isLetter BX5_isLetter_16 BX5_isLetter_17
  rw [show (97 : Int32) = nI 97 from rfl, show (122 : Int32) = nI 122 from rfl]
  by_cases h1 : os_hr c len p < nI 97
  · rw [if_pos h1, hw.mp (Or.inl h1)]; rfl
  · rw [if_neg h1]
    by_cases h2 : nI 122 < os_hr c len p
    · rw [if_pos h2, hw.mp (Or.inr h2)]; rfl
    · rw [if_neg h2]
      cases g : os_within c len p 97 122 with
      | true => rfl
      | false => rcases hw.mpr g with q | q <;> contradiction
theorem os_isDigit (n : Nat) {M : oa_M} {len p : Nat} {c : Nat → Nat} (h : os_mx M len c p) (M' : oa_M) : FX5_isDigit n (os_hr c len p) M' = some (os_i (os_within c len p 48 57), M') := by
  have hw := os_hrw h (lo := 48) (hi := 57) (by decide) (by decide)
  unfold FX5_isDigit BX5_isDigit_16 BX5_isDigit_17
  rw [show (48 : Int32) = nI 48 from rfl, show (57 : Int32) = nI 57 from rfl]
  by_cases h1 : os_hr c len p < nI 48
  · rw [if_pos h1, hw.mp (Or.inl h1)]; rfl
  · rw [if_neg h1]
    by_cases h2 : nI 57 < os_hr c len p
    · rw [if_pos h2, hw.mp (Or.inr h2)]; rfl
    · rw [if_neg h2]
      cases g : os_within c len p 48 57 with
      | true => rfl
      | false => rcases hw.mpr g with q | q <;> contradiction
theorem os_isLabel (n : Nat) {M : oa_M} {len p : Nat} {c : Nat → Nat} (h : os_mx M len c p) (M' : oa_M) : FX5_isLabelLetter n (os_hr c len p) M' = some (os_i (os_within c len p 65 70), M') := by
  have hw := os_hrw h (lo := 65) (hi := 70) (by decide) (by decide)
  unfold FX5_isLabelLetter BX5_isLabelLetter_16 BX5_isLabelLetter_17
  rw [show (65 : Int32) = nI 65 from rfl, show (70 : Int32) = nI 70 from rfl]
  by_cases h1 : os_hr c len p < nI 65
  · rw [if_pos h1, hw.mp (Or.inl h1)]; rfl
  · rw [if_neg h1]
    by_cases h2 : nI 70 < os_hr c len p
    · rw [if_pos h2, hw.mp (Or.inr h2)]; rfl
    · rw [if_neg h2]
      cases g : os_within c len p 65 70 with
      | true => rfl
      | false => rcases hw.mpr g with q | q <;> contradiction
theorem os_hreq {M : oa_M} {len p : Nat} {c : Nat → Nat} (h : os_mx M len c p) {ch : Nat} (hch : ch < 65536) : (os_hr c len p = nI ch) ↔ os_within c len p ch ch = true := by
  unfold os_hr os_within
  by_cases hp : p < len
  · have hc := (h.2.2.2.2 p hp).2
    rw [if_pos hp, nI_eq (by omega) (by omega)]
    simp [hp]
    omega
  · rw [if_neg hp]
    simp [hp]
    exact fun q => on_ltm1 (a := ch) (by omega) q.symm
theorem os_isb (b : Bool) : oa_isb (os_i b) = true := by cases b <;> decide
theorem os_must (n : Nat) {M : oa_M} {len p : Nat} {c : Nat → Nat} {b : Bool} (h : os_mx M len c p) (hb : M 20 0 3 = os_i b) (hp : p < 60) {ch : Nat} (hch : ch < 65536) : ∃ M', FX5_must n (nI ch) M = some M' ∧ os_mx M' len c (p + 1) ∧ M' 20 0 3 = os_i (b || !os_within c len p ch ch) ∧ os_k2 M M' := by
  have fin : ∀ z : Bool, ∃ M', BX5_must_21 n (nI ch) (os_i z) M = some M' ∧ os_mx M' len c (p + 1) ∧ M' 20 0 3 = os_i z ∧ os_k2 M M' := fun z => by
    unfold BX5_must_21
    rw [if_pos (os_isb z), h.2.2.2.1, nI_1]
    refine ⟨_, rfl, ⟨h.1, by omega, ?_, os_up1, fun j hj => ?_⟩, ?_, fun k i f hn => ?_⟩
    · rw [os_up (by decide), os_up (by decide)]; exact h.2.2.1
    · rw [os_up (by omega), os_up (by omega)]; exact h.2.2.2.2 j hj
    · rw [os_up (by decide), os_up1]
    · rw [os_up (by omega), os_up (by omega)]
  unfold FX5_must BX5_must_16
  rw [hb]
  cases b with
  | true =>
    rw [if_neg (by decide)]
    exact fin true
  | false =>
    rw [if_pos (by rfl), os_here n h, ob_d]
    cases g : os_within c len p ch ch with
    | true =>
      rw [if_pos ((os_hreq h hch).mpr g)]
      exact fin false
    | false =>
      rw [if_neg (fun q => by rw [(os_hreq h hch).mp q] at g; cases g)]
      exact fin true
theorem os_mrn {len : Nat} {c : Nat → Nat} {b : Bool} : ∀ (r n p : Nat) (M : oa_M) (A : List Nat), len ≤ p + r → r < n → p + r ≤ 60 → A.length + r ≤ 60 → os_mx M len c p → M 20 0 3 = os_i b → ∃ M', BX5_readName_4 n (nI (os_mnm (A.take 4))) (nI A.length) M = some (nI (os_mnm ((A ++ os_ls c len r p).take 4)), M') ∧ os_mx M' len c (p + (os_ls c len r p).length) ∧ M' 20 0 3 = os_i (b || (decide ((A ++ os_ls c len r p).length < 1) || decide (4 < (A ++ os_ls c len r p).length))) ∧ os_k2 M M' := by
  intro r
  have fin : ∀ (n p : Nat) (M : oa_M) (A : List Nat), A.length ≤ 60 → os_mx M len c p → M 20 0 3 = os_i b → ∃ M', (if (M 20 0 3) = 0 then (if nI A.length < (1 : Int32) then (BX5_readName_72 n (nI (os_mnm (A.take 4))) (nI A.length) M) else (if nI A.length ≤ (4 : Int32) then (BX5_readName_77 n (nI (os_mnm (A.take 4))) (nI A.length) (0 : Int32) M) else (BX5_readName_72 n (nI (os_mnm (A.take 4))) (nI A.length) M))) else (BX5_readName_72 n (nI (os_mnm (A.take 4))) (nI A.length) M)) = some (nI (os_mnm (A.take 4)), M') ∧ os_mx M' len c p ∧ M' 20 0 3 = os_i (b || (decide (A.length < 1) || decide (4 < A.length))) ∧ os_k2 M M' := by
    intro n p M A hA h hb
    have e : ∀ z : Bool, BX5_readName_77 n (nI (os_mnm (A.take 4))) (nI A.length) (os_i z) M = some (nI (os_mnm (A.take 4)), oa_up M 20 0 3 (os_i z)) ∧ os_mx (oa_up M 20 0 3 (os_i z)) len c p ∧ os_k2 M (oa_up M 20 0 3 (os_i z)) := fun z => by
      unfold BX5_readName_77
      rw [if_pos (os_isb z)]
      exact ⟨rfl, h.to (os_up (by decide)) (os_up (by decide)) (fun j => os_up (by omega)), fun k i f hn => os_up (by omega)⟩
    rw [hb]
    cases b with
    | true =>
      rw [if_neg (by decide)]
      exact ⟨_, (e true).1, (e true).2.1, by rw [os_up1]; rfl, (e true).2.2⟩
    | false =>
      rw [if_pos (by rfl)]
      by_cases h1 : A.length < 1
      · rw [if_pos (show nI A.length < (1 : Int32) from nI_lt (b := 1) h1 (by decide))]
        exact ⟨_, (e true).1, (e true).2.1, by rw [os_up1]; simp [h1], (e true).2.2⟩
      · rw [if_neg (show ¬ nI A.length < (1 : Int32) from nI_nlt (b := 1) (by omega) (by omega))]
        by_cases h4 : A.length ≤ 4
        · rw [if_pos (show nI A.length ≤ (4 : Int32) from nI_le (b := 4) h4 (by decide))]
          exact ⟨_, (e false).1, (e false).2.1, by rw [os_up1]; simp [h1, show ¬ 4 < A.length by omega], (e false).2.2⟩
        · rw [if_neg (show ¬ nI A.length ≤ (4 : Int32) from nI_ge (a := 4) (by omega) (by omega))]
          exact ⟨_, (e true).1, (e true).2.1, by rw [os_up1]; simp [show 4 < A.length by omega], (e true).2.2⟩
  induction r with
  | zero =>
    intro n p M A hl hn hp hA h hb
    obtain ⟨n', rfl⟩ : ∃ n', n = n' + 1 := ⟨n - 1, by omega⟩
    have hw : os_within c len p 97 122 = false := by unfold os_within; simp; intro; omega
    rw [BX5_readName_4, os_here n' h, ob_d, os_isLetter n' h, ob_d, hw, if_pos (by rfl)]
    have := fin n' p M A (by omega) h hb
    simpa [os_ls] using this
  | succ r ih =>
    intro n p M A hl hn hp hA h hb
    obtain ⟨n', rfl⟩ : ∃ n', n = n' + 1 := ⟨n - 1, by omega⟩
    rw [BX5_readName_4, os_here n' h, ob_d, os_isLetter n' h, ob_d]
    rcases (Bool.eq_false_or_eq_true (os_within c len p 97 122)).symm with hw | hw
    · have els : os_ls c len (r + 1) p = [] := by simp only [os_ls, hw, Bool.false_eq_true, if_false]
      rw [els, hw, if_pos (by rfl)]
      have := fin n' p M A (by omega) h hb
      simpa using this
    · have els : os_ls c len (r + 1) p = (c p - 96) :: os_ls c len r (p + 1) := by simp only [os_ls, hw, if_true]
      rw [els]
      have hw2 := hw
      unfold os_within at hw2
      simp at hw2
      rw [if_neg (by rw [hw]; decide)]
      unfold BX5_readName_37
      have hx : os_mx (oa_up M 20 0 2 (nI (p + 1))) len c (p + 1) := ⟨h.1, by omega, by rw [os_up (by decide)]; exact h.2.2.1, os_up1, fun j hj => by rw [os_up (by omega)]; exact h.2.2.2.2 j hj⟩
      obtain ⟨M', a1, a2, a3, a4⟩ := ih n' (p + 1) (oa_up M 20 0 2 (nI (p + 1))) (A ++ [c p - 96]) (by omega) (by omega) (by omega) (by simp; omega) hx (by rw [os_up (by decide)]; exact hb)
      have hk : os_k2 M (oa_up M 20 0 2 (nI (p + 1))) := fun k i f hn => os_up (by omega)
      have e1 : A ++ [c p - 96] ++ os_ls c len r (p + 1) = A ++ (c p - 96) :: os_ls c len r (p + 1) := by simp
      rw [e1] at a1 a3
      simp only [List.length_append, List.length_cons, List.length_nil, Nat.zero_add] at a1
      refine ⟨M', ?_, ?_, by simpa using a3, hk.tr a4⟩
      · rw [← a1]
        by_cases h4 : 4 ≤ A.length
        · rw [if_pos (show (4 : Int32) ≤ nI A.length from nI_le (a := 4) h4 (by omega)), h.2.2.2.1, nI_1, nI_1, List.take_append_of_le_length h4]
        · rw [if_neg (show ¬ (4 : Int32) ≤ nI A.length from nI_ge (b := 4) (by omega) (by decide)), os_here n' h, ob_d, h.2.2.2.1, nI_1, nI_1]
          have t1 : A.take 4 = A := List.take_of_length_le (by omega)
          have t2 : (A ++ [c p - 96]).take 4 = A ++ [c p - 96] := List.take_of_length_le (by simp; omega)
          rw [t1, t2, os_mnm_snoc]
          congr 1
          rw [show os_hr c len p = nI (c p) from if_pos hw2.1, show (27 : Int32) = nI 27 from rfl, on_mul, nI_add, show (97 : Int32) = nI 97 from rfl, on_sub (by omega), nI_1]
          congr 1
          omega
      · rw [List.length_cons, show p + ((os_ls c len r (p + 1)).length + 1) = p + 1 + (os_ls c len r (p + 1)).length by omega]
        exact a2
theorem os_readName {M : oa_M} {len p : Nat} {c : Nat → Nat} {b : Bool} (h : os_mx M len c p) (hb : M 20 0 3 = os_i b) (hp : p ≤ 19) {n : Nat} (hn : 45 < n) : ∃ M', FX5_readName n M = some (nI (os_mnm (os_ls c len 4 p)), M') ∧ os_mx M' len c (p + (os_ls c len 41 p).length) ∧ M' 20 0 3 = os_i (b || (decide ((os_ls c len 41 p).length < 1) || decide (4 < (os_ls c len 41 p).length))) ∧ os_k2 M M' := by
  obtain ⟨M', a1, a2, a3, a4⟩ := os_mrn (len := len) (c := c) (b := b) 41 n p M [] (by have := h.1; omega) (by omega) (by omega) (by simp) h hb
  rw [os_ls_take c len 4 41 p (by decide)]
  exact ⟨M', by show BX5_readName_4 n (nI (os_mnm [])) (nI 0) M = _; simpa using a1, a2, by simpa using a3, a4⟩

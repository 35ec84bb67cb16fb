/-! labels and numbers in a line, on both sides -/
def os_rn (c : Nat → Nat) (len : Nat) : Nat → Nat → List Nat
  | 0, _ => []
  | r + 1, p => if os_within c len p 48 57 then (c p - 48) :: os_rn c len r (p + 1) else []
theorem os_rn_len (c : Nat → Nat) (len : Nat) : ∀ r p, (os_rn c len r p).length ≤ r
  | 0, p => by simp [os_rn]
  | r + 1, p => by
    have := os_rn_len c len r (p + 1)
    simp only [os_rn]
    split <;> simp <;> omega
theorem os_rn_end (c : Nat → Nat) (len : Nat) : ∀ r p, p ≤ len → p + (os_rn c len r p).length ≤ len
  | 0, p, h => by simpa [os_rn] using h
  | r + 1, p, h => by
    simp only [os_rn]
    by_cases hw : os_within c len p 48 57 = true
    · rw [if_pos hw]
      have h1 : p < len := by unfold os_within at hw; simp at hw; exact hw.1
      have := os_rn_end c len r (p + 1) (by omega)
      simp
      omega
    · rw [if_neg hw]
      simpa using h
theorem os_rn_ok (c : Nat → Nat) (len : Nat) : ∀ r p, ∀ w ∈ os_rn c len r p, w ≤ 9
  | 0, p => by simp [os_rn]
  | r + 1, p => by
    intro w hw
    simp only [os_rn] at hw
    by_cases h : os_within c len p 48 57 = true
    · rw [if_pos h] at hw
      rcases List.mem_cons.mp hw with e | e
      · unfold os_within at h
        simp at h
        omega
      · exact os_rn_ok c len r (p + 1) w e
    · rw [if_neg h] at hw
      cases hw
theorem os_rn_take (c : Nat → Nat) (len : Nat) : ∀ m r p, m ≤ r → os_rn c len m p = (os_rn c len r p).take m
  | 0, r, p, _ => by simp [os_rn]
  | m + 1, r, p, h => by
    obtain ⟨r', rfl⟩ : ∃ r', r = r' + 1 := ⟨r - 1, by omega⟩
    simp only [os_rn]
    by_cases hw : os_within c len p 48 57 = true
    · rw [if_pos hw, if_pos hw, List.take_succ_cons, os_rn_take c len m r' (p + 1) (by omega)]
    · rw [if_neg hw, if_neg hw]
      rfl
theorem os_rn_mid (c : Nat → Nat) (len : Nat) : ∀ r p j, j < (os_rn c len r p).length → os_within c len (p + j) 48 57 = true
  | 0, p, j, h => by simp [os_rn] at h
  | r + 1, p, j, h => by
    simp only [os_rn] at h
    by_cases hw : os_within c len p 48 57 = true
    · rw [if_pos hw] at h
      cases j with
      | zero => simpa using hw
      | succ j =>
        have := os_rn_mid c len r (p + 1) j (by simpa using h)
        rw [show p + (j + 1) = p + 1 + j by omega]
        exact this
    · rw [if_neg hw] at h
      simp at h
def os_dv (D : List Nat) : Nat := D.foldl (fun x d => 10 * x + d) 0
theorem os_dv_snoc (A : List Nat) (w : Nat) : os_dv (A ++ [w]) = 10 * os_dv A + w := by simp [os_dv]
theorem os_dv_lt (D : List Nat) (h : ∀ w ∈ D, w ≤ 9) : os_dv D < 10 ^ D.length := by
  have gen : ∀ (D : List Nat) (x : Nat), (∀ w ∈ D, w ≤ 9) → D.foldl (fun x d => 10 * x + d) x < (x + 1) * 10 ^ D.length := by
    intro D
    induction D with
    | nil => intro x _; simp
    | cons a D ih =>
      intro x hD
      have ha := hD a (by simp)
      have := ih (10 * x + a) (fun w hw => hD w (by simp [hw]))
      rw [List.foldl_cons, List.length_cons, Nat.pow_succ]
      have e : (10 * x + a + 1) * 10 ^ D.length ≤ (x + 1) * (10 ^ D.length * 10) := by
        rw [Nat.mul_comm (10 ^ D.length) 10, ← Nat.mul_assoc]
        exact Nat.mul_le_mul_right _ (by omega)
      omega
  have := gen D 0 h
  simpa [os_dv] using this
theorem os_takeLabel (n : Nat) {M : oa_M} {len p : Nat} {c : Nat → Nat} (h : os_tx M len c p) : FX3_takeLabel n 0 M = (if os_within c len p 65 70 then some (nI (c p - 65), oa_up M 1 0 2 (nI (p + 1))) else some (-1, M)) := by
  unfold FX3_takeLabel BX3_takeLabel_22
  rw [show (65 : Int32) = nI 65 from rfl, show (70 : Int32) = nI 70 from rfl, os_niw n h (by decide) (by decide), ob_d]
  rcases (Bool.eq_false_or_eq_true (os_within c len p 65 70)).symm with hw | hw
  · rw [hw, if_pos (by rfl), if_neg (by decide)]
  · have hw2 := hw
    unfold os_within at hw2
    simp at hw2
    rw [hw, if_neg (by decide), os_takeAny n h, ob_d, if_pos rfl, show os_at' c len p = c p from if_pos hw2.1, on_sub hw2.2.1]
theorem os_ctd {len : Nat} {c : Nat → Nat} : ∀ (r n p i : Nat) (M : oa_M) (A : List Nat), i + r = 5 → r < n → p + r ≤ 50 → os_tx M len c p → ∃ M', BX3_takeDigits_17 n 0 (nI (os_dv A)) (nI i) M = some (nI (os_dv (A ++ os_rn c len r p)), M') ∧ os_tx M' len c (p + (os_rn c len r p).length) ∧ os_k1 M M' := by
  intro r
  induction r with
  | zero =>
    intro n p i M A hi hn hp h
    obtain ⟨n', rfl⟩ : ∃ n', n = n' + 1 := ⟨n - 1, by omega⟩
    refine ⟨M, ?_, by simpa [os_rn] using h, os_k1.rf M⟩
    rw [BX3_takeDigits_17, if_pos (show (5 : Int32) ≤ nI i from nI_le (a := 5) (by omega) (by omega))]
    unfold BX3_takeDigits_52
    simp [os_rn]
  | succ r ih =>
    intro n p i M A hi hn hp h
    obtain ⟨n', rfl⟩ : ∃ n', n = n' + 1 := ⟨n - 1, by omega⟩
    rw [BX3_takeDigits_17, if_neg (show ¬ (5 : Int32) ≤ nI i from nI_ge (b := 5) (by omega) (by decide)), show FX3_nextIsWithin n' 0 (48 : Int32) (57 : Int32) M = _ from os_niw n' h (lo := 48) (hi := 57) (by decide) (by decide), ob_d]
    rcases (Bool.eq_false_or_eq_true (os_within c len p 48 57)).symm with hw | hw
    · have els : os_rn c len (r + 1) p = [] := by simp only [os_rn, hw, Bool.false_eq_true, if_false]
      rw [els, hw, if_pos (by rfl)]
      unfold BX3_takeDigits_52
      exact ⟨M, by simp, by simpa using h, os_k1.rf M⟩
    · have els : os_rn c len (r + 1) p = (c p - 48) :: os_rn c len r (p + 1) := by simp only [os_rn, hw, if_true]
      have hw2 := hw
      unfold os_within at hw2
      simp at hw2
      rw [els, hw, if_neg (by decide), os_takeAny n' h, ob_d, show os_at' c len p = c p from if_pos hw2.1, show (10 : Int32) = nI 10 from rfl, on_mul, nI_add, show (48 : Int32) = nI 48 from rfl, on_sub (by omega), nI_1]
      obtain ⟨s1, s2⟩ := os_step h (by omega)
      obtain ⟨M', a1, a2, a3⟩ := ih n' (p + 1) (i + 1) _ (A ++ [c p - 48]) (by omega) (by omega) (by omega) s1
      rw [os_dv_snoc] at a1
      refine ⟨M', ?_, ?_, s2.tr a3⟩
      · rw [show os_dv A * 10 + c p - 48 = 10 * os_dv A + (c p - 48) by omega, a1]
        simp
      · rw [List.length_cons, show p + ((os_rn c len r (p + 1)).length + 1) = p + 1 + (os_rn c len r (p + 1)).length by omega]
        exact a2
theorem os_takeDigits {M : oa_M} {len p : Nat} {c : Nat → Nat} (h : os_tx M len c p) (hp : p ≤ 45) {n : Nat} (hn : 6 < n) : (os_within c len p 48 57 = false → FX3_takeDigits n 0 M = some (-1, M)) ∧ (os_within c len p 48 57 = true → ∃ M', FX3_takeDigits n 0 M = some (nI (os_dv (os_rn c len 5 p)), M') ∧ os_tx M' len c (p + (os_rn c len 5 p).length) ∧ os_k1 M M') := by
  have e : FX3_takeDigits n 0 M = (if os_i (os_within c len p 48 57) = 0 then (some ((-1 : Int32), M)) else (BX3_takeDigits_17 n 0 (0 : Int32) (0 : Int32) M)) := by
    unfold FX3_takeDigits
    rw [show FX3_nextIsWithin n 0 (48 : Int32) (57 : Int32) M = _ from os_niw n h (lo := 48) (hi := 57) (by decide) (by decide), ob_d]
  refine ⟨fun hw => by rw [e, hw, if_pos (by rfl)], fun hw => ?_⟩
  rw [e, hw, if_neg (by decide)]
  obtain ⟨M', a1, a2, a3⟩ := os_ctd (len := len) (c := c) 5 n p 0 M [] (by omega) (by omega) (by omega) h
  exact ⟨M', by show BX3_takeDigits_17 n 0 (nI (os_dv [])) (nI 0) M = _; simpa using a1, a2, a3⟩
/-- one operand: a label or a number, and where it ends -/
def os_q (c : Nat → Nat) (len p : Nat) : Nat := if os_within c len p 45 45 then p + 1 else p
def os_opr (c : Nat → Nat) (len p : Nat) : Option (Bool × Int32 × Nat) :=
  if os_within c len p 65 70 then some (true, nI (c p - 65), p + 1)
  else if 1 ≤ (os_rn c len 41 (os_q c len p)).length ∧ (os_rn c len 41 (os_q c len p)).length ≤ 5 then some (false, (if os_within c len p 45 45 then -(nI (os_dv (os_rn c len 41 (os_q c len p)))) else nI (os_dv (os_rn c len 41 (os_q c len p)))), os_q c len p + (os_rn c len 41 (os_q c len p)).length) else none
/-- up to r operands, the last one at the text's end -/
def os_oprs (c : Nat → Nat) (len : Nat) : Nat → Nat → Option (List (Bool × Int32))
  | 0, _ => none
  | r + 1, p => match os_opr c len p with
    | none => none
    | some (b, v, p') => if len ≤ p' then some [(b, v)] else if os_within c len p' 44 44 then (match os_oprs c len r (p' + 1) with
      | none => none
      | some l => some ((b, v) :: l)) else none
theorem os_opr_end {c : Nat → Nat} {len p : Nat} {b : Bool} {v : Int32} {p' : Nat} (h : os_opr c len p = some (b, v, p')) (hp : p ≤ len) : p < p' ∧ p' ≤ len := by
  unfold os_opr at h
  by_cases h1 : os_within c len p 65 70 = true
  · rw [if_pos h1] at h
    cases h
    unfold os_within at h1
    simp at h1
    omega
  · rw [if_neg h1] at h
    have hq : os_q c len p ≤ len ∧ p ≤ os_q c len p := by
      unfold os_q
      by_cases h2 : os_within c len p 45 45 = true
      · rw [if_pos h2]
        unfold os_within at h2
        simp at h2
        omega
      · rw [if_neg h2]
        omega
    have he := os_rn_end c len 41 (os_q c len p) hq.1
    split at h
    · rename_i h3
      cases h
      omega
    · cases h
theorem os_oprs_len (c : Nat → Nat) (len : Nat) : ∀ r p l, os_oprs c len r p = some l → 1 ≤ l.length ∧ l.length ≤ r
  | 0, p, l, h => by cases h
  | r + 1, p, l, h => by
    simp only [os_oprs] at h
    cases ho : os_opr c len p with
    | none => rw [ho] at h; cases h
    | some q =>
      obtain ⟨b, v, p'⟩ := q
      rw [ho] at h
      simp only at h
      by_cases h1 : len ≤ p'
      · rw [if_pos h1] at h
        cases h
        simp
      · rw [if_neg h1] at h
        by_cases h2 : os_within c len p' 44 44 = true
        · rw [if_pos h2] at h
          cases hr : os_oprs c len r (p' + 1) with
          | none => rw [hr] at h; cases h
          | some l' =>
            rw [hr] at h
            cases h
            have := os_oprs_len c len r (p' + 1) l' hr
            simp
            omega
        · rw [if_neg h2] at h
          cases h
/-- an operand's value: small -/
theorem os_opr_v {c : Nat → Nat} {len p : Nat} {b : Bool} {v : Int32} {p' : Nat} (h : os_opr c len p = some (b, v, p')) : (b = true → ∃ a, a < 6 ∧ v = nI a) ∧ (b = false → -99999 ≤ v.toInt ∧ v.toInt ≤ 99999) := by
  unfold os_opr at h
  by_cases h1 : os_within c len p 65 70 = true
  · rw [if_pos h1] at h
    cases h
    unfold os_within at h1
    simp at h1
    exact ⟨fun _ => ⟨c p - 65, by omega, rfl⟩, fun q => by cases q⟩
  · rw [if_neg h1] at h
    split at h
    · rename_i h3
      have hd := os_dv_lt _ (os_rn_ok c len 41 (os_q c len p))
      have hp : 10 ^ (os_rn c len 41 (os_q c len p)).length ≤ 10 ^ 5 := Nat.pow_le_pow_right (by decide) h3.2
      cases h
      refine ⟨(fun q => by cases q), fun _ => ?_⟩
      generalize os_dv (os_rn c len 41 (os_q c len p)) = N at hd
      split
      · rw [Int32.toInt_neg, on_toInt (by omega), Int.bmod_eq_of_le (by omega) (by omega)]
        omega
      · rw [on_toInt (by omega)]
        omega
    · cases h

/-! a line: the model's side, and the call -/
theorem os_m17bad (n : Nat) {M : oa_M} {i p : Nat} (h2 : M 20 0 2 = nI p) (hb : M 20 0 3 = 1) : BX5_readOperands_17 (n + 1 + 1) (nI i) 1 M = some (nI i, oa_up (oa_up M 20 0 2 (nI (p + 1))) 20 0 3 1) := by
  rw [BX5_readOperands_17, if_neg (by decide), hb, if_neg (by decide), h2, nI_1]
  unfold BX5_readOperands_44 BX5_readOperands_49 BX5_readOperands_67 BX5_readOperands_87 BX5_readOperands_88
  rw [if_pos (by decide), if_neg (by decide), os_up1, if_neg (by decide)]
  rw [BX5_readOperands_17, if_pos rfl]
/-- what a line's text, read by the model, leaves: the rest is the test for a second label -/
theorem os_m75 (n : Nat) {M : oa_M} {len p : Nat} {c : Nat → Nat} {b : Bool} (h : os_mx M len c p) (hb : M 20 0 3 = os_i b) (x1 x2 x3 : Int32) : BX5_line_75 n x1 x2 x3 M = BX5_line_105 n x1 x2 x3 0 (oa_up M 20 0 3 (os_i (b || decide (p < len)))) := by
  have hl := h.1
  have e : ∀ z : Bool, BX5_line_99 n x1 x2 x3 (os_i z) M = BX5_line_105 n x1 x2 x3 0 (oa_up M 20 0 3 (os_i z)) := fun z => by
    unfold BX5_line_99
    rw [if_pos (os_isb z)]
  unfold BX5_line_75 BX5_line_94
  rw [hb]
  cases b with
  | true =>
    rw [if_neg (by decide)]
    exact e true
  | false =>
    have hp := h.2.1
    rw [if_pos (by rfl), h.2.2.1, h.2.2.2.1]
    by_cases q : p < len
    · rw [if_neg (nI_ge q (by omega)), show (false || decide (p < len)) = true from by simp [q]]
      exact e true
    · rw [if_pos (nI_le (by omega) (by omega)), show (false || decide (p < len)) = false from by simp; omega]
      exact e false
theorem os_mbody {M : oa_M} {len p0 : Nat} {c : Nat → Nat} {b : Bool} (h : os_mx M len c p0) (hb : M 20 0 3 = os_i b) (hp : p0 ≤ 2) (x1 : Int32) : ∃ (x2 x3 : Int32) (M' : oa_M), BX5_line_65 200 x1 0 0 M = BX5_line_105 200 x1 x2 x3 0 M' ∧ os_k6 M M' ∧ M' 20 0 3 = os_i (b || (os_body c len p0).isNone) ∧ ∀ A l, b = false → os_body c len p0 = some (A, l) → x2 = nI (os_mnm A) ∧ x3 = nI l.length ∧ os_ms M' 0 l := by
  have hl := h.1
  have hAl : p0 ≤ len → p0 + (os_ls c len 41 p0).length ≤ len := os_ls_end c len 41 p0
  have hA4 : os_ls c len 4 p0 = (os_ls c len 41 p0).take 4 := os_ls_take c len 4 41 p0 (by decide)
  have hA41 := os_ls_len c len 41 p0
  obtain ⟨M1, a1, a2, a3, a4⟩ := os_readName h hb (by omega) (n := 200) (by decide)
  unfold BX5_line_65
  rw [a1, ob_d]
  generalize hA : os_ls c len 41 p0 = A at *
  unfold FX5_readOperands BX5_readOperands_16
  rw [os_here 200 a2, ob_d]
  have e32 : (os_hr c len (p0 + A.length) = (32 : Int32)) ↔ os_within c len (p0 + A.length) 32 32 = true := os_hreq a2 (ch := 32) (by decide)
  rcases (Bool.eq_false_or_eq_true (os_within c len (p0 + A.length) 32 32)).symm with hw | hw
  · -- no operands
    rw [if_neg (fun q => by rw [e32.mp q] at hw; cases hw)]
    rw [show BX5_readOperands_17 200 (0 : Int32) (0 : Int32) M1 = some (0, M1) from by rw [BX5_readOperands_17, if_pos rfl], ob_d, os_m75 200 a2 a3]
    refine ⟨_, _, _, rfl, a4.k6.tr (fun k i f x y z => os_up (by omega)), ?_, fun A' l q0 q => ?_⟩
    · rw [os_up1]
      congr 1
      unfold os_body
      rw [hA]
      by_cases q : 1 ≤ A.length ∧ A.length ≤ 4
      · rw [if_pos q, hw]
        by_cases q2 : len ≤ p0 + A.length
        · rw [if_pos q2, decide_eq_false (show ¬ A.length < 1 by omega), decide_eq_false (show ¬ 4 < A.length by omega), decide_eq_false (show ¬ p0 + A.length < len by omega)]
          simp
        · rw [if_neg q2, if_neg (by decide), decide_eq_true (show p0 + A.length < len by omega)]
          simp
      · rw [if_neg q]
        have : (decide (A.length < 1) || decide (4 < A.length)) = true := by
          rcases Nat.lt_or_ge A.length 1 with q' | q'
          · rw [decide_eq_true q']; rfl
          · rw [decide_eq_true (show 4 < A.length by omega), Bool.or_true]
        rw [this]
        simp
    · unfold os_body at q
      rw [hA] at q
      by_cases q1 : 1 ≤ A.length ∧ A.length ≤ 4
      · rw [if_pos q1, hw] at q
        by_cases q2 : len ≤ p0 + A.length
        · rw [if_pos q2] at q
          cases q
          refine ⟨by rw [hA4]; rw [List.take_of_length_le q1.2], rfl, fun j b' v hj => by simp at hj⟩
        · rw [if_neg q2, if_neg (by decide)] at q
          cases q
      · rw [if_neg q1] at q
        cases q
  · have hpl : p0 + A.length < len := by unfold os_within at hw; simp at hw; exact hw.1
    rw [if_pos (e32.mpr hw)]
    have eb : 1 ≤ A.length ∧ A.length ≤ 4 → os_body c len p0 = (os_oprs c len 3 (p0 + A.length + 1)).map (fun l => (A, l)) := fun q => by
      unfold os_body
      rw [hA, if_pos q, if_neg (by omega), hw, if_pos rfl]
    cases hbd : (b || (decide (A.length < 1) || decide (4 < A.length))) with
    | true =>
      rw [hbd] at a3
      rw [show BX5_readOperands_17 200 (0 : Int32) (1 : Int32) M1 = _ from os_m17bad 198 (i := 0) a2.2.2.2.1 a3, ob_d]
      have hx : os_mx (oa_up (oa_up M1 20 0 2 (nI (p0 + A.length + 1))) 20 0 3 1) len c (p0 + A.length + 1) := ⟨h.1, by omega, by rw [os_up (by decide), os_up (by decide)]; exact a2.2.2.1, by rw [os_up (by decide), os_up1], fun j hj => by rw [os_up (by omega), os_up (by omega)]; exact a2.2.2.2.2 j hj⟩
      rw [os_m75 200 (b := true) hx (by rw [os_up1]; rfl)]
      have hno : b = false → os_body c len p0 = none := fun hb0 => by
        rw [hb0] at hbd
        unfold os_body
        rw [hA, if_neg (fun q => by rw [decide_eq_false (show ¬ A.length < 1 by omega), decide_eq_false (show ¬ 4 < A.length by omega)] at hbd; cases hbd)]
      refine ⟨_, _, _, rfl, a4.k6.tr (fun k i f x y z => by rw [os_up (by omega), os_up (by omega), os_up (by omega)]), ?_, fun A' l q0 q => by rw [hno q0] at q; cases q⟩
      rw [os_up1]
      cases b with
      | true => rfl
      | false => rw [hno rfl]; rfl
    | false =>
      rw [hbd] at a3
      have hb0 : b = false := by cases b with | false => rfl | true => simp at hbd
      subst hb0
      have hlen14 : 1 ≤ A.length ∧ A.length ≤ 4 := by
        constructor
        · rcases Nat.lt_or_ge A.length 1 with q' | q'
          · rw [decide_eq_true q'] at hbd; cases hbd
          · exact q'
        · rcases Nat.lt_or_ge 4 A.length with q' | q'
          · rw [decide_eq_true q', Bool.or_true, Bool.or_true] at hbd; cases hbd
          · exact q'
      obtain ⟨m, M', p', bd, b1, b2, b3, b4, b5, b6, b7⟩ := os_mop 3 0 200 (p0 + A.length) M1 (by omega) (by omega) hpl a2 a3
      rw [show BX5_readOperands_17 200 (0 : Int32) (1 : Int32) M1 = _ from b1, ob_d, os_m75 200 b2 b3]
      rw [eb hlen14]
      refine ⟨_, _, _, rfl, (a4.k6.tr b4).tr (fun k i f x y z => os_up (by omega)), ?_, fun A' l q0 q => ?_⟩
      · rw [os_up1]
        congr 1
        cases hr : os_oprs c len 3 (p0 + A.length + 1) with
        | none =>
          rcases b6 hr with q | q
          · rw [q]; rfl
          · rw [decide_eq_true q]; simp
        | some l =>
          obtain ⟨q1, q2, -⟩ := b7 l hr
          rw [q1, decide_eq_false (show ¬ p' < len by omega)]
          rfl
      · cases hr : os_oprs c len 3 (p0 + A.length + 1) with
        | none => rw [hr] at q; cases q
        | some l2 =>
          rw [hr] at q
          cases q
          obtain ⟨q1, q2, q3, q4⟩ := b7 _ hr
          refine ⟨by rw [hA4, List.take_of_length_le hlen14.2], by rw [q3, Nat.zero_add], fun j b' v hj => ?_⟩
          rw [os_up (by omega), os_up (by omega)]
          exact q4 j b' v hj
theorem os_mreadLine {M : oa_M} {len : Nat} {c : Nat → Nat} (h : os_mx (oa_up (oa_up M 20 0 2 0) 20 0 3 0) len c 0) : ∃ (x1 x2 x3 : Int32) (M' : oa_M), FX5_line 200 M = BX5_line_105 200 x1 x2 x3 0 M' ∧ os_k6 M M' ∧ M' 20 0 3 = os_i (os_ln c len).isNone ∧ ∀ lab A l, os_ln c len = some (lab, A, l) → x1 = lab ∧ x2 = nI (os_mnm A) ∧ x3 = nI l.length ∧ os_ms M' 0 l := by
  have hl := h.1
  obtain ⟨M0, hM0⟩ : ∃ M0 : oa_M, M0 = oa_up (oa_up M 20 0 2 0) 20 0 3 0 := ⟨_, rfl⟩
  rw [← hM0] at h
  have k0 : os_k6 M M0 := fun k i f x y z => by rw [hM0, os_up (by omega), os_up (by omega)]
  have hb : M0 20 0 3 = os_i false := by rw [hM0, os_up1]; rfl
  unfold FX5_line
  rw [← hM0, os_here 200 h, ob_d, os_isLabel 200 h, ob_d]
  unfold os_ln
  rcases (Bool.eq_false_or_eq_true (os_within c len 0 65 70)).symm with hw | hw
  · rw [hw, if_pos (by rfl), if_neg (by decide)]
    unfold BX5_line_46
    rw [if_pos (by decide)]
    obtain ⟨x2, x3, M', a1, a2, a3, a4⟩ := os_mbody (b := false) h hb (by omega) (-1)
    refine ⟨-1, x2, x3, M', a1, k0.tr a2, ?_, fun lab A l q => ?_⟩
    · rw [a3]
      cases os_body c len 0 <;> rfl
    · cases hbd : os_body c len 0 with
      | none => rw [hbd] at q; cases q
      | some q2 =>
        rw [hbd] at q
        cases q
        obtain ⟨g1, g2, g3⟩ := a4 _ _ rfl hbd
        exact ⟨rfl, g1, g2, g3⟩
  · have hw2 := hw
    unfold os_within at hw2
    simp at hw2
    rw [hw, if_neg (by decide), os_here 200 h, ob_d, h.2.2.2.1, nI_1, show os_hr c len 0 = nI (c 0) from if_pos hw2.1, show (65 : Int32) = nI 65 from rfl, on_sub hw2.2.1, if_pos rfl]
    obtain ⟨s1, s2⟩ := os_mxs h (by omega)
    obtain ⟨M1, a1, a2, a3, a4⟩ := os_must 200 (b := false) s1 (by rw [os_up (by decide)]; exact hb) (by omega) (ch := 58) (by decide)
    rw [show FX5_must 200 (58 : Int32) (oa_up M0 20 0 2 (nI (0 + 1))) = some M1 from a1, ob_v]
    have k1 : os_k6 M M1 := (k0.tr s2.k6).tr a4.k6
    have a2 : os_mx M1 len c 2 := a2
    have a3 : M1 20 0 3 = os_i (!os_within c len 1 58 58) := by rw [a3]; rfl
    unfold BX5_line_46
    rw [if_neg (nI_pos (by omega)), a2.2.2.1, a2.2.2.2.1]
    by_cases h2 : len ≤ 2
    · rw [if_pos (nI_le h2 (by decide)), os_m75 200 a2 a3]
      refine ⟨_, _, _, _, rfl, k1.tr (fun k i f x y z => os_up (by omega)), ?_, fun lab A l q => ?_⟩
      · rw [os_up1]
        congr 1
        rw [decide_eq_false (show ¬ 2 < len by omega)]
        rcases (Bool.eq_false_or_eq_true (os_within c len 1 58 58)).symm with h58 | h58
        · rw [h58, if_neg (by decide)]; rfl
        · rw [h58, if_pos rfl, if_pos h2]; rfl
      · rcases (Bool.eq_false_or_eq_true (os_within c len 1 58 58)).symm with h58 | h58
        · rw [h58, if_neg (by decide)] at q; cases q
        · rw [h58, if_pos rfl, if_pos h2] at q
          cases q
          exact ⟨rfl, rfl, rfl, fun j b v hj => by simp at hj⟩
    · rw [if_neg (nI_ge (by omega) (by omega))]
      obtain ⟨x2, x3, M', b1, b2, b3, b4⟩ := os_mbody a2 a3 (by decide) (nI (c 0 - 65))
      refine ⟨nI (c 0 - 65), x2, x3, M', b1, k1.tr b2, ?_, fun lab A l q => ?_⟩
      · rw [b3]
        rcases (Bool.eq_false_or_eq_true (os_within c len 1 58 58)).symm with h58 | h58
        · rw [h58, if_neg (by decide)]; rfl
        · rw [h58, if_pos rfl, if_neg h2]
          cases os_body c len 2 <;> rfl
      · rcases (Bool.eq_false_or_eq_true (os_within c len 1 58 58)).symm with h58 | h58
        · rw [h58, if_neg (by decide)] at q; cases q
        · rw [h58, if_pos rfl, if_neg h2] at q
          cases hbd : os_body c len 2 with
          | none => rw [hbd] at q; cases q
          | some q2 =>
            rw [hbd] at q
            cases q
            obtain ⟨g1, g2, g3⟩ := b4 _ _ (by rw [h58]; rfl) hbd
            exact ⟨rfl, g1, g2, g3⟩

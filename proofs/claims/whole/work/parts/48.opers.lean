/-! a line's operands, on both sides -/
def os_k9 (nl : Nat) (M M' : oa_M) : Prop := ∀ k i f, ¬ (k = 1 ∧ i = 0 ∧ f = 2) → ¬ (k = 9 ∧ i = nl ∧ (f = 2 ∨ f = 3 ∨ f = 4)) → ¬ ((k = 10 ∨ k = 11) ∧ i = nl) → M' k i f = M k i f
theorem os_k9.rf (nl : Nat) (M : oa_M) : os_k9 nl M M := fun _ _ _ _ _ _ => rfl
theorem os_k9.tr {nl : Nat} {M M1 M2 : oa_M} (h : os_k9 nl M M1) (h2 : os_k9 nl M1 M2) : os_k9 nl M M2 := fun k i f a b c => (h2 k i f a b c).trans (h k i f a b c)
theorem os_k1.k9 {nl : Nat} {M M' : oa_M} (h : os_k1 M M') : os_k9 nl M M' := fun k i f a _ _ => h k i f a
def os_st (M : oa_M) (nl i : Nat) (l : List (Bool × Int32)) : Prop := ∀ j b v, l[j]? = some (b, v) → (b = true → M 10 nl (i + j) = v) ∧ (b = false → M 10 nl (i + j) = -1 ∧ M 11 nl (i + j) = v)
theorem os_c75 (n : Nat) {M : oa_M} {len p nl i : Nat} {c : Nat → Nat} (h : os_tx M len c p) (hp : p ≤ len) : BX4_readOperands_75 (BX4_readOperands_2 n) n nl (nI i) M = (if len ≤ p then some (1, oa_up M 9 nl 4 (nI (i + 1))) else if os_within c len p 44 44 then BX4_readOperands_2 n nl (nI (i + 1)) (oa_up (oa_up M 9 nl 4 (nI (i + 1))) 1 0 2 (nI (p + 1))) else some (0, oa_up M 9 nl 4 (nI (i + 1)))) := by
  unfold BX4_readOperands_75
  have h5 : os_tx (oa_up M 9 nl 4 (nI (i + 1))) len c p := h.to (fun i f _ => os_up (by omega)) (fun j => os_up (by omega))
  have hl := h.1
  rw [nI_1, os_left n h5 hp, ob_d]
  by_cases hpl : len ≤ p
  · rw [if_pos (by rw [show len - p = 0 by omega]; rfl), if_pos hpl]
  · rw [if_neg (nI_ne0 (by omega) (by omega)), if_neg hpl, show (44 : Int32) = nI 44 from rfl, os_take n h5 (by decide)]
    rcases (Bool.eq_false_or_eq_true (os_within c len p 44 44)).symm with hw | hw
    · rw [hw, if_neg (by decide), ob_d, if_pos rfl, if_neg (by decide)]
    · rw [hw, if_pos rfl, ob_d, if_neg (by decide), if_pos rfl]
theorem os_cop {len nl : Nat} {c : Nat → Nat} : ∀ (r i n p : Nat) (M : oa_M), i + r = 3 → r + 10 < n → p ≤ len → os_tx M len c p → ∃ M', BX4_readOperands_2 n nl (nI i) M = some (os_i (os_oprs c len r p).isSome, M') ∧ os_k9 nl M M' ∧ (∀ j, j < i → M' 10 nl j = M 10 nl j ∧ M' 11 nl j = M 11 nl j) ∧ (M' 9 nl 2 = M 9 nl 2 ∧ M' 9 nl 3 = M 9 nl 3) ∧ ∀ l, os_oprs c len r p = some l → M' 9 nl 4 = nI (i + l.length) ∧ os_st M' nl i l := by
  intro r
  induction r with
  | zero =>
    intro i n p M hi hn hp h
    obtain ⟨n', rfl⟩ : ∃ n', n = n' + 1 := ⟨n - 1, by omega⟩
    refine ⟨M, ?_, os_k9.rf nl M, fun j _ => ⟨rfl, rfl⟩, ⟨rfl, rfl⟩, fun l hl => by cases hl⟩
    rw [BX4_readOperands_2, if_pos (show (3 : Int32) ≤ nI i from nI_le (a := 3) (by omega) (by omega))]
    rfl
  | succ r ih =>
    intro i n p M hi hn hp h
    obtain ⟨n', rfl⟩ : ∃ n', n = n' + 1 := ⟨n - 1, by omega⟩
    have hl40 := h.1
    -- behind a read operand
    have behind : ∀ (b : Bool) (v : Int32) (p' : Nat) (M4 : oa_M), os_opr c len p = some (b, v, p') → os_tx M4 len c p' → os_k9 nl M M4 → (∀ j, j < i → M4 10 nl j = M 10 nl j ∧ M4 11 nl j = M 11 nl j) → (M4 9 nl 2 = M 9 nl 2 ∧ M4 9 nl 3 = M 9 nl 3) → ((b = true → M4 10 nl i = v) ∧ (b = false → M4 10 nl i = -1 ∧ M4 11 nl i = v)) → ∃ M', BX4_readOperands_75 (BX4_readOperands_2 n') n' nl (nI i) M4 = some (os_i (os_oprs c len (r + 1) p).isSome, M') ∧ os_k9 nl M M' ∧ (∀ j, j < i → M' 10 nl j = M 10 nl j ∧ M' 11 nl j = M 11 nl j) ∧ (M' 9 nl 2 = M 9 nl 2 ∧ M' 9 nl 3 = M 9 nl 3) ∧ ∀ l, os_oprs c len (r + 1) p = some l → M' 9 nl 4 = nI (i + l.length) ∧ os_st M' nl i l := fun b v p' M4 ho ht hk hj h9 hs => by
      obtain ⟨e1, e2⟩ := os_opr_end ho hp
      rw [os_c75 n' ht e2]
      have eo : os_oprs c len (r + 1) p = (if len ≤ p' then some [(b, v)] else if os_within c len p' 44 44 then (match os_oprs c len r (p' + 1) with | none => none | some l => some ((b, v) :: l)) else none) := by
        simp only [os_oprs, ho]
        rfl
      rw [eo]
      have k5 : os_k9 nl M (oa_up M4 9 nl 4 (nI (i + 1))) := hk.tr (fun k i f a b c => os_up (by omega))
      by_cases q1 : len ≤ p'
      · rw [if_pos q1, if_pos q1]
        refine ⟨_, rfl, k5, fun j hj2 => ?_, ⟨?_, ?_⟩, fun l hl => ?_⟩
        · rw [os_up (by omega), os_up (by omega)]; exact hj j hj2
        · rw [os_up (by omega)]; exact h9.1
        · rw [os_up (by omega)]; exact h9.2
        · cases hl
          refine ⟨by rw [os_up1]; rfl, fun j b' v' hj' => ?_⟩
          cases j with
          | zero =>
            simp at hj'
            obtain ⟨rfl, rfl⟩ := hj'
            rw [os_up (by omega), os_up (by omega)]
            exact hs
          | succ j => simp at hj'
      · rw [if_neg q1, if_neg q1]
        rcases (Bool.eq_false_or_eq_true (os_within c len p' 44 44)).symm with hw | hw
        · rw [hw, if_neg (by decide), if_neg (by decide)]
          refine ⟨_, rfl, k5, fun j hj2 => ?_, ⟨?_, ?_⟩, fun l hl => by cases hl⟩
          · rw [os_up (by omega), os_up (by omega)]; exact hj j hj2
          · rw [os_up (by omega)]; exact h9.1
          · rw [os_up (by omega)]; exact h9.2
        · rw [hw, if_pos rfl, if_pos rfl]
          have t5 : os_tx (oa_up M4 9 nl 4 (nI (i + 1))) len c p' := ht.to (fun i f _ => os_up (by omega)) (fun j => os_up (by omega))
          obtain ⟨s1, s2⟩ := os_step t5 (by omega)
          obtain ⟨M', a1, a2, a3, a4, a5⟩ := ih (i + 1) n' (p' + 1) _ (by omega) (by omega) (by omega) s1
          have f4 : ∀ k i' f, ¬ (k = 1 ∧ i' = 0 ∧ f = 2) → ¬ (k = 9 ∧ i' = nl ∧ f = 4) → (oa_up (oa_up M4 9 nl 4 (nI (i + 1))) 1 0 2 (nI (p' + 1))) k i' f = M4 k i' f := fun k i' f a b => by rw [os_up a, os_up (by omega)]
          refine ⟨M', ?_, (k5.tr s2.k9).tr a2, fun j hj2 => ?_, ⟨?_, ?_⟩, fun l hl => ?_⟩
          · rw [a1]
            cases os_oprs c len r (p' + 1) <;> rfl
          · rw [(a3 j (by omega)).1, (a3 j (by omega)).2, f4 _ _ _ (by omega) (by omega), f4 _ _ _ (by omega) (by omega)]
            exact hj j hj2
          · rw [a4.1, f4 _ _ _ (by omega) (by omega)]; exact h9.1
          · rw [a4.2, f4 _ _ _ (by omega) (by omega)]; exact h9.2
          · cases hr : os_oprs c len r (p' + 1) with
            | none => rw [hr] at hl; cases hl
            | some l' =>
              rw [hr] at hl
              cases hl
              obtain ⟨g1, g2⟩ := a5 l' hr
              refine ⟨by rw [g1, List.length_cons]; congr 1; omega, fun j b' v' hj' => ?_⟩
              cases j with
              | zero =>
                simp at hj'
                obtain ⟨rfl, rfl⟩ := hj'
                rw [Nat.add_zero, (a3 i (by omega)).1, (a3 i (by omega)).2, f4 _ _ _ (by omega) (by omega), f4 _ _ _ (by omega) (by omega)]
                exact hs
              | succ j =>
                rw [show i + (j + 1) = i + 1 + j by omega]
                exact g2 j b' v' (by simpa using hj')
    rw [BX4_readOperands_2, if_neg (show ¬ (3 : Int32) ≤ nI i from nI_ge (b := 3) (by omega) (by decide)), os_takeLabel n' h]
    rcases (Bool.eq_false_or_eq_true (os_within c len p 65 70)).symm with hw | hw
    · rw [hw, if_neg (by decide), ob_d, if_pos (on_in (show i < 3 by omega) (by decide)), if_pos (on_in (show i < 3 by omega) (by decide)), nI_clamp (by omega), os_up1, if_pos rfl]
      obtain ⟨Ma, hMa⟩ : ∃ Ma : oa_M, Ma = oa_up M 10 nl i (-1) := ⟨_, rfl⟩
      rw [← hMa]
      have ta : os_tx Ma len c p := by rw [hMa]; exact h.to (fun i f _ => os_up (by omega)) (fun j => os_up (by omega))
      have fa : ∀ k i' f, ¬ (k = 10 ∧ i' = nl ∧ f = i) → Ma k i' f = M k i' f := fun k i' f a => by rw [hMa, os_up a]
      have ka : os_k9 nl M Ma := fun k i' f a b c => fa _ _ _ (by omega)
      -- the sign
      have hneg : ∃ Mb, FX3_take n' 0 (45 : Int32) Ma = some (os_i (os_within c len p 45 45), Mb) ∧ os_tx Mb len c (os_q c len p) ∧ os_k1 Ma Mb := by
        rw [show (45 : Int32) = nI 45 from rfl, os_take n' ta (by decide)]
        unfold os_q
        rcases (Bool.eq_false_or_eq_true (os_within c len p 45 45)).symm with hm | hm
        · rw [hm, if_neg (by decide)]
          exact ⟨Ma, rfl, by simpa using ta, os_k1.rf Ma⟩
        · rw [hm, if_pos rfl]
          have h1 : p < len := by unfold os_within at hm; simp at hm; exact hm.1
          obtain ⟨s1, s2⟩ := os_step ta (by omega)
          exact ⟨_, rfl, by simpa using s1, s2⟩
      obtain ⟨Mb, b1, b2, b3⟩ := hneg
      have hq : os_q c len p ≤ len := by
        unfold os_q
        by_cases h2 : os_within c len p 45 45 = true
        · rw [if_pos h2]
          unfold os_within at h2
          simp at h2
          omega
        · rw [if_neg h2]
          exact hp
      rw [b1, ob_d]
      have kb : os_k9 nl M Mb := ka.tr b3.k9
      obtain ⟨d1, d2⟩ := os_takeDigits b2 (by omega) (n := n') (by omega)
      have eopr : os_opr c len p = (if 1 ≤ (os_rn c len 41 (os_q c len p)).length ∧ (os_rn c len 41 (os_q c len p)).length ≤ 5 then some (false, (if os_within c len p 45 45 then -(nI (os_dv (os_rn c len 41 (os_q c len p)))) else nI (os_dv (os_rn c len 41 (os_q c len p)))), os_q c len p + (os_rn c len 41 (os_q c len p)).length) else none) := by
        unfold os_opr
        rw [hw, if_neg (by decide)]
      have nonp : os_opr c len p = none → os_oprs c len (r + 1) p = none := fun hn => by simp only [os_oprs, hn]
      rcases (Bool.eq_false_or_eq_true (os_within c len (os_q c len p) 48 57)).symm with hd | hd
      · have e0 : os_rn c len 41 (os_q c len p) = [] := by simp only [os_rn, hd, Bool.false_eq_true, if_false]
        have en : os_oprs c len (r + 1) p = none := nonp (by rw [eopr, e0]; simp)
        rw [d1 hd, ob_d, if_pos rfl, en]
        refine ⟨Mb, rfl, kb, fun j hj => ?_, ⟨?_, ?_⟩, fun l hl => by cases hl⟩
        · rw [b3 _ _ _ (by omega), b3 _ _ _ (by omega), fa _ _ _ (by omega), fa _ _ _ (by omega)]; exact ⟨rfl, rfl⟩
        · rw [b3 _ _ _ (by omega), fa _ _ _ (by omega)]
        · rw [b3 _ _ _ (by omega), fa _ _ _ (by omega)]
      · obtain ⟨Mc, g1, g2, g3⟩ := d2 hd
        have hne : 1 ≤ (os_rn c len 41 (os_q c len p)).length := by
          have : os_rn c len 41 (os_q c len p) = (c (os_q c len p) - 48) :: os_rn c len 40 (os_q c len p + 1) := by rw [os_rn, if_pos hd]
          rw [this]
          simp
        have ht5 := os_rn_take c len 5 41 (os_q c len p) (by decide)
        have dlt := os_dv_lt _ (os_rn_ok c len 5 (os_q c len p))
        have l5 := os_rn_len c len 5 (os_q c len p)
        have hp5 : 10 ^ (os_rn c len 5 (os_q c len p)).length ≤ 10 ^ 5 := Nat.pow_le_pow_right (by decide) l5
        have fc : ∀ k i' f, ¬ (k = 1 ∧ i' = 0 ∧ f = 2) → Mc k i' f = Ma k i' f := fun k i' f a => by rw [g3 k i' f a, b3 k i' f a]
        rw [g1, ob_d, if_neg (on_ltm1 (by omega))]
        obtain ⟨z, hz⟩ : ∃ z : Int32, z = (if os_within c len p 45 45 then -(nI (os_dv (os_rn c len 5 (os_q c len p)))) else nI (os_dv (os_rn c len 5 (os_q c len p)))) := ⟨_, rfl⟩
        have e74 : (if os_i (os_within c len p 45 45) = 0 then (BX4_readOperands_74 (BX4_readOperands_2 n') n' nl (nI i) (os_i (os_within c len p 45 45)) (nI (os_dv (os_rn c len 5 (os_q c len p)))) nl (nI i) (nI (os_dv (os_rn c len 5 (os_q c len p)))) Mc) else (BX4_readOperands_74 (BX4_readOperands_2 n') n' nl (nI i) (os_i (os_within c len p 45 45)) (nI (os_dv (os_rn c len 5 (os_q c len p)))) nl (nI i) (-(nI (os_dv (os_rn c len 5 (os_q c len p))))) Mc)) = BX4_readOperands_75 (BX4_readOperands_2 n') n' nl (nI i) (oa_up Mc 11 nl i z) := by
          unfold BX4_readOperands_74
          rw [nI_clamp (by omega), hz]
          rcases (Bool.eq_false_or_eq_true (os_within c len p 45 45)).symm with hm | hm
          · rw [hm, if_pos (by rfl), if_pos (on_in (show i < 3 by omega) (by decide)), if_neg (by decide)]
          · rw [hm, if_neg (by decide), if_pos (on_in (show i < 3 by omega) (by decide)), if_pos rfl]
        rw [e74]
        have t4 : os_tx (oa_up Mc 11 nl i z) len c (os_q c len p + (os_rn c len 5 (os_q c len p)).length) := g2.to (fun i f _ => os_up (by omega)) (fun j => os_up (by omega))
        have k4 : os_k9 nl M (oa_up Mc 11 nl i z) := (kb.tr g3.k9).tr (fun k i' f a b c => os_up (by omega))
        by_cases h5 : (os_rn c len 41 (os_q c len p)).length ≤ 5
        · have e5 : os_rn c len 5 (os_q c len p) = os_rn c len 41 (os_q c len p) := by rw [ht5]; exact List.take_of_length_le h5
          rw [e5] at hz t4
          refine behind false z _ _ (by rw [eopr, if_pos ⟨hne, h5⟩, hz]) t4 k4 (fun j hj => ?_) ⟨?_, ?_⟩ ⟨(fun q => by cases q), fun _ => ⟨?_, ?_⟩⟩
          · rw [os_up (by omega), os_up (by omega), fc _ _ _ (by omega), fc _ _ _ (by omega), fa _ _ _ (by omega), fa _ _ _ (by omega)]; exact ⟨rfl, rfl⟩
          · rw [os_up (by omega), fc _ _ _ (by omega), fa _ _ _ (by omega)]
          · rw [os_up (by omega), fc _ _ _ (by omega), fa _ _ _ (by omega)]
          · rw [os_up (by omega), fc _ _ _ (by omega), hMa, os_up1]
          · rw [os_up1]
        · have en : os_oprs c len (r + 1) p = none := nonp (by rw [eopr, if_neg (fun q => h5 q.2)])
          have l5' : (os_rn c len 5 (os_q c len p)).length = 5 := by rw [ht5, List.length_take]; omega
          rw [l5'] at t4
          have hmid := os_rn_mid c len 41 (os_q c len p) 5 (by omega)
          have hm2 := hmid
          unfold os_within at hm2
          simp at hm2
          rw [os_c75 n' t4 (by omega), if_neg (by omega), show os_within c len (os_q c len p + 5) 44 44 = false from by unfold os_within; simp; omega, if_neg (by decide), en]
          refine ⟨_, rfl, k4.tr (fun k i' f a b c => os_up (by omega)), fun j hj => ?_, ⟨?_, ?_⟩, fun l hl => by cases hl⟩
          · rw [os_up (by omega), os_up (by omega), os_up (by omega), os_up (by omega), fc _ _ _ (by omega), fc _ _ _ (by omega), fa _ _ _ (by omega), fa _ _ _ (by omega)]; exact ⟨rfl, rfl⟩
          · rw [os_up (by omega), os_up (by omega), fc _ _ _ (by omega), fa _ _ _ (by omega)]
          · rw [os_up (by omega), os_up (by omega), fc _ _ _ (by omega), fa _ _ _ (by omega)]
    · have hw2 := hw
      unfold os_within at hw2
      simp at hw2
      rw [hw, if_pos rfl, ob_d, if_pos (on_in (show i < 3 by omega) (by decide)), if_pos (on_in (show i < 3 by omega) (by decide)), nI_clamp (by omega), os_up1, if_neg (on_ltm1 (by omega))]
      obtain ⟨s1, s2⟩ := os_step h (by omega)
      refine behind true (nI (c p - 65)) (p + 1) _ (by unfold os_opr; rw [hw, if_pos rfl]) (s1.to (fun i f _ => os_up (by omega)) (fun j => os_up (by omega))) (s2.k9.tr (fun k i' f a b c => os_up (by omega))) (fun j hj => ?_) ⟨?_, ?_⟩ ⟨fun _ => os_up1, fun q => by cases q⟩
      · rw [os_up (by omega), os_up (by omega), os_up (by omega), os_up (by omega)]; exact ⟨rfl, rfl⟩
      · rw [os_up (by omega), os_up (by omega)]
      · rw [os_up (by omega), os_up (by omega)]

/-! a line's operands: the model's side -/
def os_k6 (M M' : oa_M) : Prop := ∀ k i f, ¬ (k = 20 ∧ (f = 2 ∨ f = 3)) → ¬ k = 43 → ¬ k = 44 → M' k i f = M k i f
theorem os_k6.rf (M : oa_M) : os_k6 M M := fun _ _ _ _ _ _ => rfl
theorem os_k6.tr {M M1 M2 : oa_M} (h : os_k6 M M1) (h2 : os_k6 M1 M2) : os_k6 M M2 := fun k i f a b c => (h2 k i f a b c).trans (h k i f a b c)
theorem os_k2.k6 {M M' : oa_M} (h : os_k2 M M') : os_k6 M M' := fun k i f a _ _ => h k i f a
def os_ms (M : oa_M) (i : Nat) (l : List (Bool × Int32)) : Prop := ∀ j b v, l[j]? = some (b, v) → M 44 0 (i + j) = os_i b ∧ M 43 0 (i + j) = v
theorem os_mxs {M : oa_M} {len p : Nat} {c : Nat → Nat} (h : os_mx M len c p) (hp : p < 60) : os_mx (oa_up M 20 0 2 (nI (p + 1))) len c (p + 1) ∧ os_k2 M (oa_up M 20 0 2 (nI (p + 1))) := ⟨⟨h.1, by omega, by rw [os_up (by decide)]; exact h.2.2.1, os_up1, fun j hj => by rw [os_up (by omega)]; exact h.2.2.2.2 j hj⟩, fun k i f hn => os_up (by omega)⟩
theorem os_mdl {len o : Nat} {c : Nat → Nat} {mi : Bool} (ho : o < 3) : ∀ (r n q d : Nat) (M : oa_M) (A : List Nat), d + r = 6 → A.length = d → r < n → q + r ≤ 59 → (∀ w ∈ A, w ≤ 9) → os_mx M len c q → M 20 0 3 = 0 → ∃ M', BX5_readOperand_87 n (nI o) (os_i mi) (nI (os_dv A)) (nI d) M = some M' ∧ os_mx M' len c (q + (os_rn c len r q).length) ∧ M' 20 0 3 = os_i (decide ((A ++ os_rn c len r q).length < 1) || decide (5 < (A ++ os_rn c len r q).length)) ∧ M' 43 0 o = (if mi then -(nI (os_dv (A ++ os_rn c len r q))) else nI (os_dv (A ++ os_rn c len r q))) ∧ ∀ k i f, ¬ (k = 20 ∧ (f = 2 ∨ f = 3)) → ¬ (k = 43 ∧ f = o) → M' k i f = M k i f := by
  have fin : ∀ (n q d : Nat) (M : oa_M) (A : List Nat), A.length = d → d ≤ 6 → os_mx M len c q → M 20 0 3 = 0 → ∃ M', BX5_readOperand_133 n (nI o) (os_i mi) (nI (os_dv A)) (nI d) M = some M' ∧ os_mx M' len c q ∧ M' 20 0 3 = os_i (decide (A.length < 1) || decide (5 < A.length)) ∧ M' 43 0 o = (if mi then -(nI (os_dv A)) else nI (os_dv A)) ∧ ∀ k i f, ¬ (k = 20 ∧ (f = 2 ∨ f = 3)) → ¬ (k = 43 ∧ f = o) → M' k i f = M k i f := by
    intro n q d M A hA hd h hb
    have e : ∀ z : Bool, ∃ M', BX5_readOperand_158 n (nI o) (os_i mi) (nI (os_dv A)) (nI d) (os_i z) M = some M' ∧ os_mx M' len c q ∧ M' 20 0 3 = os_i z ∧ M' 43 0 o = (if mi then -(nI (os_dv A)) else nI (os_dv A)) ∧ ∀ k i f, ¬ (k = 20 ∧ (f = 2 ∨ f = 3)) → ¬ (k = 43 ∧ f = o) → M' k i f = M k i f := fun z => by
      refine ⟨oa_up (oa_up M 20 0 3 (os_i z)) 43 0 o (if mi then -(nI (os_dv A)) else nI (os_dv A)), ?_, h.to ?_ ?_ (fun j => ?_), ?_, os_up1, fun k i f a b => ?_⟩
      · unfold BX5_readOperand_158 BX5_readOperand_176
        rw [if_pos (os_isb z), nI_clamp (by omega)]
        cases mi with
        | true => rw [if_neg (by decide), if_pos (on_in ho (by decide))]; rfl
        | false => rw [if_pos (by rfl), if_pos (on_in ho (by decide))]; rfl
      · rw [os_up (by omega), os_up (by omega)]
      · rw [os_up (by omega), os_up (by omega)]
      · rw [os_up (by omega), os_up (by omega)]
      · rw [os_up (by omega), os_up1]
      · rw [os_up (by omega), os_up (by omega)]
    unfold BX5_readOperand_133 BX5_readOperand_153
    rw [hb, if_pos rfl]
    by_cases h1 : d < 1
    · rw [if_pos (show nI d < (1 : Int32) from nI_lt (b := 1) h1 (by decide)), show (decide (A.length < 1) || decide (5 < A.length)) = true from by simp [hA]; omega]
      exact e true
    · rw [if_neg (show ¬ nI d < (1 : Int32) from nI_nlt (b := 1) (by omega) (by omega))]
      by_cases h5 : d ≤ 5
      · rw [if_pos (show nI d ≤ (5 : Int32) from nI_le (b := 5) h5 (by decide)), show (decide (A.length < 1) || decide (5 < A.length)) = false from by rw [hA, decide_eq_false h1, decide_eq_false (by omega)]; rfl]
        exact e false
      · rw [if_neg (show ¬ nI d ≤ (5 : Int32) from nI_ge (a := 5) (by omega) (by omega)), show (decide (A.length < 1) || decide (5 < A.length)) = true from by simp [hA]; omega]
        exact e true
  intro r
  induction r with
  | zero =>
    intro n q d M A hd hA hn hq hw h hb
    obtain ⟨n', rfl⟩ : ∃ n', n = n' + 1 := ⟨n - 1, by omega⟩
    have := fin n' q d M A hA (by omega) h hb
    rw [BX5_readOperand_87, os_here n' h, ob_d, os_isDigit n' h, ob_d, show (if os_i (os_within c len q 48 57) = 0 then (BX5_readOperand_133 n' (nI o) (os_i mi) (nI (os_dv A)) (nI d) M) else (if (6 : Int32) ≤ nI d then (BX5_readOperand_133 n' (nI o) (os_i mi) (nI (os_dv A)) (nI d) M) else (oa_bd (FX5_here n' M) (fun r9 M10 => (BX5_readOperand_87 n' (nI o) (os_i mi) ((((10 : Int32) * (nI (os_dv A))) + r9) - (48 : Int32)) (nI d + (1 : Int32)) (oa_up M10 20 0 2 ((M10 20 0 2) + (1 : Int32)))))))) = BX5_readOperand_133 n' (nI o) (os_i mi) (nI (os_dv A)) (nI d) M from by
      rw [if_pos (show (6 : Int32) ≤ nI d from nI_le (a := 6) (by omega) (by omega))]
      split <;> rfl]
    simpa [os_rn] using this
  | succ r ih =>
    intro n q d M A hd hA hn hq hw h hb
    obtain ⟨n', rfl⟩ : ∃ n', n = n' + 1 := ⟨n - 1, by omega⟩
    rw [BX5_readOperand_87, os_here n' h, ob_d, os_isDigit n' h, ob_d]
    rcases (Bool.eq_false_or_eq_true (os_within c len q 48 57)).symm with hdg | hdg
    · have els : os_rn c len (r + 1) q = [] := by simp only [os_rn, hdg, Bool.false_eq_true, if_false]
      rw [els, hdg, if_pos (by rfl)]
      have := fin n' q d M A hA (by omega) h hb
      simpa using this
    · have els : os_rn c len (r + 1) q = (c q - 48) :: os_rn c len r (q + 1) := by simp only [os_rn, hdg, if_true]
      have hw2 := hdg
      unfold os_within at hw2
      simp at hw2
      rw [els, hdg, if_neg (by decide), if_neg (show ¬ (6 : Int32) ≤ nI d from nI_ge (b := 6) (by omega) (by decide)), os_here n' h, ob_d, show os_hr c len q = nI (c q) from if_pos hw2.1, show (10 : Int32) = nI 10 from rfl, on_mul, nI_add, show (48 : Int32) = nI 48 from rfl, on_sub (by omega), nI_1, h.2.2.2.1, nI_1]
      obtain ⟨s1, s2⟩ := os_mxs h (by omega)
      obtain ⟨M', a1, a2, a3, a4, a5⟩ := ih n' (q + 1) (d + 1) _ (A ++ [c q - 48]) (by omega) (by simp; omega) (by omega) (by omega) (fun w hw => by
        rcases List.mem_append.mp hw with e | e
        · exact ‹∀ w ∈ A, w ≤ 9› w e
        · simp at e; omega) s1 (by rw [os_up (by decide)]; exact hb)
      rw [os_dv_snoc] at a1
      have e1 : A ++ [c q - 48] ++ os_rn c len r (q + 1) = A ++ (c q - 48) :: os_rn c len r (q + 1) := by simp
      rw [e1] at a3 a4
      refine ⟨M', ?_, ?_, a3, a4, fun k i f x y => by rw [a5 k i f x y, os_up (by omega)]⟩
      · rw [show 10 * os_dv A + c q - 48 = 10 * os_dv A + (c q - 48) by omega, a1]
      · rw [List.length_cons, show q + ((os_rn c len r (q + 1)).length + 1) = q + 1 + (os_rn c len r (q + 1)).length by omega]
        exact a2
theorem os_bz (b : Bool) : vp_nar .boolean (os_i b) = os_i b := os_nz b
theorem os_mro (n : Nat) (hn : 10 < n) {M : oa_M} {len p o : Nat} {c : Nat → Nat} (h : os_mx M len c p) (hb : M 20 0 3 = 0) (hp : p ≤ 50) (ho : o < 3) : ∃ (M' : oa_M) (p' : Nat) (bd : Bool), FX5_readOperand n (nI o) M = some M' ∧ os_mx M' len c p' ∧ M' 20 0 3 = os_i bd ∧ (∀ k i f, ¬ (k = 20 ∧ (f = 2 ∨ f = 3)) → ¬ ((k = 43 ∨ k = 44) ∧ f = o) → M' k i f = M k i f) ∧ (os_opr c len p = none → bd = true) ∧ ∀ b v p1, os_opr c len p = some (b, v, p1) → bd = false ∧ p' = p1 ∧ M' 44 0 o = os_i b ∧ M' 43 0 o = v := by
  unfold FX5_readOperand
  rw [os_here n h, ob_d, os_isLabel n h, ob_d, if_pos (on_in ho (by decide)), if_pos (on_in ho (by decide)), nI_clamp (by omega), os_up1, os_bz]
  obtain ⟨M1, hM1⟩ : ∃ M1 : oa_M, M1 = oa_up M 44 0 o (os_i (os_within c len p 65 70)) := ⟨_, rfl⟩
  rw [← hM1]
  have f1 : ∀ k i f, ¬ (k = 44 ∧ i = 0 ∧ f = o) → M1 k i f = M k i f := fun k i f a => by rw [hM1, os_up a]
  have h1 : os_mx M1 len c p := h.to (f1 _ _ _ (by omega)) (f1 _ _ _ (by omega)) (fun j => f1 _ _ _ (by omega))
  rw [os_here n h1, ob_d]
  rcases (Bool.eq_false_or_eq_true (os_within c len p 65 70)).symm with hw | hw
  · rw [hw, if_pos (by rfl)]
    have eopr : os_opr c len p = (if 1 ≤ (os_rn c len 41 (os_q c len p)).length ∧ (os_rn c len 41 (os_q c len p)).length ≤ 5 then some (false, (if os_within c len p 45 45 then -(nI (os_dv (os_rn c len 41 (os_q c len p)))) else nI (os_dv (os_rn c len 41 (os_q c len p)))), os_q c len p + (os_rn c len 41 (os_q c len p)).length) else none) := by
      unfold os_opr
      rw [hw, if_neg (by decide)]
    have ht6 := os_rn_take c len 6 41 (os_q c len p) (by decide)
    have go : ∀ (mi : Bool) (M2 : oa_M), os_within c len p 45 45 = mi → os_mx M2 len c (os_q c len p) → (∀ k i f, ¬ (k = 20 ∧ f = 2) → M2 k i f = M1 k i f) → ∃ (M' : oa_M) (p' : Nat) (bd : Bool), BX5_readOperand_87 n (nI o) (os_i mi) 0 0 M2 = some M' ∧ os_mx M' len c p' ∧ M' 20 0 3 = os_i bd ∧ (∀ k i f, ¬ (k = 20 ∧ (f = 2 ∨ f = 3)) → ¬ ((k = 43 ∨ k = 44) ∧ f = o) → M' k i f = M k i f) ∧ (os_opr c len p = none → bd = true) ∧ ∀ b v p1, os_opr c len p = some (b, v, p1) → bd = false ∧ p' = p1 ∧ M' 44 0 o = os_i b ∧ M' 43 0 o = v := fun mi M2 hmi h2 f2 => by
      have hq50 : os_q c len p ≤ 51 := by unfold os_q; split <;> omega
      obtain ⟨M', a1, a2, a3, a4, a5⟩ := os_mdl (len := len) (c := c) (mi := mi) ho 6 n (os_q c len p) 0 M2 [] (by omega) rfl (by omega) (by omega) (fun w hw => by cases hw) h2 (by rw [f2 _ _ _ (by omega), f1 _ _ _ (by omega)]; exact hb)
      rw [List.nil_append] at a3 a4
      refine ⟨M', _, _, a1, a2, a3, fun k i f x y => ?_, fun hno => ?_, fun b v p1 hsome => ?_⟩
      · rw [a5 k i f x (by omega), f2 k i f (by omega), f1 k i f (by omega)]
      · rw [eopr] at hno
        have : ¬ (1 ≤ (os_rn c len 41 (os_q c len p)).length ∧ (os_rn c len 41 (os_q c len p)).length ≤ 5) := fun q => by rw [if_pos q] at hno; cases hno
        rw [ht6, List.length_take]
        by_cases q1 : 1 ≤ (os_rn c len 41 (os_q c len p)).length
        · rw [show min 6 (os_rn c len 41 (os_q c len p)).length = 6 by omega]; rfl
        · rw [show min 6 (os_rn c len 41 (os_q c len p)).length = 0 by omega]; rfl
      · rw [eopr] at hsome
        by_cases q : 1 ≤ (os_rn c len 41 (os_q c len p)).length ∧ (os_rn c len 41 (os_q c len p)).length ≤ 5
        · rw [if_pos q] at hsome
          cases hsome
          have e6 : os_rn c len 6 (os_q c len p) = os_rn c len 41 (os_q c len p) := by rw [ht6]; exact List.take_of_length_le (by omega)
          rw [e6] at a4 ⊢
          refine ⟨by rw [decide_eq_false (by omega), decide_eq_false (by omega)]; rfl, rfl, ?_, ?_⟩
          · rw [a5 _ _ _ (by omega) (by omega), f2 _ _ _ (by omega), hM1, os_up1, hw]
          · rw [a4, hmi]
        · rw [if_neg q] at hsome
          cases hsome
    unfold BX5_readOperand_60 BX5_readOperand_79
    rw [h1.2.2.2.1, nI_1]
    rcases (Bool.eq_false_or_eq_true (os_within c len p 45 45)).symm with hm | hm
    · rw [if_neg (fun q => by rw [(os_hreq h1 (ch := 45) (by decide)).mp q] at hm; cases hm), if_pos rfl]
      exact go false _ hm (by unfold os_q; rw [hm, if_neg (by decide)]; exact h1.to (os_up (by decide)) (by rw [os_up1]; exact h1.2.2.2.1.symm) (fun j => os_up (by omega))) (fun k i f a => os_up (by omega))
    · rw [if_pos (show os_hr c len p = (45 : Int32) from (os_hreq h1 (ch := 45) (by decide)).mpr hm), if_neg (by decide)]
      exact go true _ hm (by unfold os_q; rw [hm, if_pos rfl]; exact (os_mxs h1 (by omega)).1) (fun k i f a => os_up (by omega))
  · have hw2 := hw
    unfold os_within at hw2
    simp at hw2
    rw [hw, if_neg (by decide), ob_d, if_pos (on_in ho (by decide)), h1.2.2.2.1, nI_1, show os_hr c len p = nI (c p) from if_pos hw2.1, show (65 : Int32) = nI 65 from rfl, on_sub hw2.2.1]
    refine ⟨_, p + 1, false, rfl, ⟨h.1, by omega, ?_, os_up1, fun j hj => ?_⟩, ?_, fun k i f x y => ?_, fun hno => ?_, fun b v p1 hsome => ?_⟩
    · rw [os_up (by decide), os_up (by omega), f1 _ _ _ (by omega)]; exact h.2.2.1
    · rw [os_up (by omega), os_up (by omega), f1 _ _ _ (by omega)]; exact h.2.2.2.2 j hj
    · rw [os_up (by decide), os_up (by omega), f1 _ _ _ (by omega)]; exact hb
    · rw [os_up (by omega), os_up (by omega), f1 _ _ _ (by omega)]
    · unfold os_opr at hno
      rw [hw, if_pos rfl] at hno
      cases hno
    · unfold os_opr at hsome
      rw [hw, if_pos rfl] at hsome
      cases hsome
      refine ⟨rfl, rfl, ?_, ?_⟩
      · rw [os_up (by omega), os_up (by omega), hM1, os_up1, hw]
      · rw [os_up (by omega), os_up1]
theorem os_mop {len : Nat} {c : Nat → Nat} : ∀ (r i n p : Nat) (M : oa_M), i + r = 3 → r + 14 < n → p < len → os_mx M len c p → M 20 0 3 = 0 → ∃ (m : Nat) (M' : oa_M) (p' : Nat) (bd : Bool), BX5_readOperands_17 n (nI i) 1 M = some (nI m, M') ∧ os_mx M' len c p' ∧ M' 20 0 3 = os_i bd ∧ os_k6 M M' ∧ (∀ j, j < i → M' 43 0 j = M 43 0 j ∧ M' 44 0 j = M 44 0 j) ∧ (os_oprs c len r (p + 1) = none → bd = true ∨ p' < len) ∧ ∀ l, os_oprs c len r (p + 1) = some l → bd = false ∧ len ≤ p' ∧ m = i + l.length ∧ os_ms M' i l := by
  intro r
  induction r with
  | zero =>
    intro i n p M hi hn hp h hb
    obtain ⟨n', rfl⟩ : ∃ n', n = n' + 1 + 1 := ⟨n - 2, by omega⟩
    have hl := h.1
    have hi3 : i = 3 := by omega
    obtain ⟨s1, s2⟩ := os_mxs h (by omega)
    refine ⟨3, oa_up (oa_up M 20 0 2 (nI (p + 1))) 20 0 3 1, p + 1, true, ?_, s1.to (os_up (by decide)) (os_up (by decide)) (fun j => os_up (by omega)), by rw [os_up1]; rfl, fun k i f a b c => by rw [os_up (by omega), os_up (by omega)], fun j hj => ?_, fun _ => Or.inl rfl, fun l hl => by cases hl⟩
    · subst hi3
      rw [BX5_readOperands_17, if_neg (by decide), hb, if_pos rfl, if_pos (show nI 3 = (3 : Int32) from rfl), h.2.2.2.1, nI_1]
      unfold BX5_readOperands_44 BX5_readOperands_49 BX5_readOperands_67 BX5_readOperands_87 BX5_readOperands_88
      rw [if_pos (by decide), if_neg (by decide), os_up1, if_neg (by decide)]
      rw [BX5_readOperands_17, if_pos rfl]
    · rw [os_up (by omega), os_up (by omega), os_up (by omega), os_up (by omega)]; exact ⟨rfl, rfl⟩
  | succ r ih =>
    intro i n p M hi hn hp h hb
    obtain ⟨n', rfl⟩ : ∃ n', n = n' + 1 + 1 := ⟨n - 2, by omega⟩
    have hl := h.1
    obtain ⟨s1, s2⟩ := os_mxs h (by omega)
    obtain ⟨Ma, hMa⟩ : ∃ Ma : oa_M, Ma = oa_up (oa_up M 20 0 2 (nI (p + 1))) 20 0 3 0 := ⟨_, rfl⟩
    have fa : ∀ k i f, ¬ (k = 20 ∧ (f = 2 ∨ f = 3)) → Ma k i f = M k i f := fun k i f a => by rw [hMa, os_up (by omega), os_up (by omega)]
    have ha : os_mx Ma len c (p + 1) := by rw [hMa]; exact s1.to (os_up (by decide)) (os_up (by decide)) (fun j => os_up (by omega))
    obtain ⟨Mb, p1, bd, b1, b2, b3, b4, b5, b6⟩ := os_mro (n' + 1) (by omega) ha (by rw [hMa, os_up1]) (by omega) (o := i) (by omega)
    have kb : os_k6 M Mb := fun k i' f x y z => by rw [b4 k i' f x (by omega), fa k i' f x]
    have e0 : BX5_readOperands_17 (n' + 1 + 1) (nI i) 1 M = BX5_readOperands_67 (BX5_readOperands_17 (n' + 1)) (n' + 1) (nI (i + 1)) 1 Mb := by
      rw [BX5_readOperands_17, if_neg (by decide), hb, if_pos rfl, if_neg (show ¬ nI i = (3 : Int32) from fun q => by have := (nI_eq (b := 3) (by omega) (by decide)).mp q; omega), h.2.2.2.1, nI_1]
      unfold BX5_readOperands_49
      rw [if_pos (by decide), if_pos rfl, ← hMa, b1, ob_v, nI_1]
    have stop : BX5_readOperands_87 (BX5_readOperands_17 (n' + 1)) (n' + 1) (nI (i + 1)) 1 Mb = some (nI (i + 1), Mb) := by
      unfold BX5_readOperands_87 BX5_readOperands_88
      rw [BX5_readOperands_17, if_pos rfl]
    have pj : ∀ j, j < i → Mb 43 0 j = M 43 0 j ∧ Mb 44 0 j = M 44 0 j := fun j hj => by
      rw [b4 _ _ _ (by omega) (by omega), b4 _ _ _ (by omega) (by omega), fa _ _ _ (by omega), fa _ _ _ (by omega)]; exact ⟨rfl, rfl⟩
    rw [e0]
    cases ho : os_opr c len (p + 1) with
    | none =>
      have en : os_oprs c len (r + 1) (p + 1) = none := by simp only [os_oprs, ho]
      have hbd := b5 ho
      subst hbd
      refine ⟨i + 1, Mb, p1, true, ?_, b2, b3, kb, pj, fun _ => Or.inl rfl, fun l hl => by rw [en] at hl; cases hl⟩
      unfold BX5_readOperands_67
      rw [b3, if_neg (by decide), stop]
    | some q =>
      obtain ⟨b, v, p2⟩ := q
      obtain ⟨g1, g2, g3, g4⟩ := b6 b v p2 ho
      subst g1
      subst g2
      obtain ⟨e1, e2⟩ := os_opr_end ho (by omega)
      have eo : os_oprs c len (r + 1) (p + 1) = (if len ≤ p1 then some [(b, v)] else if os_within c len p1 44 44 then (match os_oprs c len r (p1 + 1) with | none => none | some l => some ((b, v) :: l)) else none) := by
        simp only [os_oprs, ho]
        rfl
      have e67 : BX5_readOperands_67 (BX5_readOperands_17 (n' + 1)) (n' + 1) (nI (i + 1)) 1 Mb = (if os_hr c len p1 = nI 44 then BX5_readOperands_17 (n' + 1) (nI (i + 1)) 1 Mb else some (nI (i + 1), Mb)) := by
        unfold BX5_readOperands_67
        rw [b3, if_pos (by rfl), os_here _ b2, ob_d, stop]
        rfl
      rw [e67, eo]
      rcases (Bool.eq_false_or_eq_true (os_within c len p1 44 44)).symm with hw | hw
      · rw [if_neg (fun q => by rw [(os_hreq b2 (ch := 44) (by decide)).mp q] at hw; cases hw), hw]
        refine ⟨i + 1, Mb, p1, false, rfl, b2, b3, kb, pj, fun hno => ?_, fun l hl => ?_⟩
        · by_cases q1 : len ≤ p1
          · rw [if_pos q1] at hno; cases hno
          · exact Or.inr (by omega)
        · by_cases q1 : len ≤ p1
          · rw [if_pos q1] at hl
            cases hl
            refine ⟨rfl, q1, by simp, fun j b' v' hj' => ?_⟩
            cases j with
            | zero =>
              simp at hj'
              obtain ⟨rfl, rfl⟩ := hj'
              exact ⟨g3, g4⟩
            | succ j => simp at hj'
          · rw [if_neg q1, if_neg (by decide)] at hl
            cases hl
      · have hpl : p1 < len := by unfold os_within at hw; simp at hw; exact hw.1
        rw [if_pos ((os_hreq b2 (ch := 44) (by decide)).mpr hw), hw, if_neg (by omega), if_pos rfl]
        obtain ⟨m, M', p', bd, a1, a2, a3, a4, a5, a6, a7⟩ := ih (i + 1) (n' + 1) p1 Mb (by omega) (by omega) hpl b2 b3
        refine ⟨m, M', p', bd, a1, a2, a3, kb.tr a4, fun j hj => ?_, fun hno => ?_, fun l hl => ?_⟩
        · rw [(a5 j (by omega)).1, (a5 j (by omega)).2]; exact pj j hj
        · cases hr : os_oprs c len r (p1 + 1) with
          | none => exact a6 hr
          | some l' => rw [hr] at hno; cases hno
        · cases hr : os_oprs c len r (p1 + 1) with
          | none => rw [hr] at hl; cases hl
          | some l' =>
            rw [hr] at hl
            cases hl
            obtain ⟨c1, c2, c3, c4⟩ := a7 l' hr
            refine ⟨c1, c2, by rw [c3, List.length_cons]; omega, fun j b' v' hj' => ?_⟩
            cases j with
            | zero =>
              simp at hj'
              obtain ⟨rfl, rfl⟩ := hj'
              rw [Nat.add_zero, (a5 i (by omega)).1, (a5 i (by omega)).2]
              exact ⟨g3, g4⟩
            | succ j =>
              rw [show i + (j + 1) = i + 1 + j by omega]
              exact c4 j b' v' (by simpa using hj')

/-! line: the call -/
def os_lv (l : List (Bool × Int32)) : Prop := l.length ≤ 3 ∧ ∀ b v, (b, v) ∈ l → (b = true → ∃ a, a < 6 ∧ v = nI a) ∧ (b = false → -99999 ≤ v.toInt ∧ v.toInt ≤ 99999)
theorem os_oprs_v (c : Nat → Nat) (len : Nat) : ∀ r p l, os_oprs c len r p = some l → ∀ b v, (b, v) ∈ l → (b = true → ∃ a, a < 6 ∧ v = nI a) ∧ (b = false → -99999 ≤ v.toInt ∧ v.toInt ≤ 99999)
  | 0, p, l, h => by cases h
  | r + 1, p, l, h => by
    simp only [os_oprs] at h
    cases ho : os_opr c len p with
    | none => rw [ho] at h; cases h
    | some q =>
      obtain ⟨b, v, p'⟩ := q
      have hv := os_opr_v ho
      rw [ho] at h
      simp only at h
      by_cases h1 : len ≤ p'
      · rw [if_pos h1] at h
        cases h
        intro b' v' hm
        rcases List.mem_cons.mp hm with e | e
        · cases e
          exact hv
        · cases e
      · rw [if_neg h1] at h
        by_cases h2 : os_within c len p' 44 44 = true
        · rw [if_pos h2] at h
          cases hr : os_oprs c len r (p' + 1) with
          | none => rw [hr] at h; cases h
          | some l' =>
            rw [hr] at h
            cases h
            intro b' v' hm
            rcases List.mem_cons.mp hm with e | e
            · cases e
              exact hv
            · exact os_oprs_v c len r (p' + 1) l' hr b' v' e
        · rw [if_neg h2] at h
          cases h
theorem os_lv_nil : os_lv [] := ⟨by simp, fun b v h => by cases h⟩
theorem os_body_v {c : Nat → Nat} {len p0 : Nat} {A : List Nat} {l : List (Bool × Int32)} (h : os_body c len p0 = some (A, l)) : os_lv l := by
  unfold os_body at h
  split at h
  · split at h
    · cases h
      exact os_lv_nil
    · split at h
      · cases hr : os_oprs c len 3 (p0 + (os_ls c len 41 p0).length + 1) with
        | none => rw [hr] at h; cases h
        | some l' =>
          rw [hr] at h
          cases h
          exact ⟨(os_oprs_len c len 3 _ _ hr).2, os_oprs_v c len 3 _ _ hr⟩
      · cases h
  · cases h
theorem os_ln_v {c : Nat → Nat} {len : Nat} {lab : Int32} {A : List Nat} {l : List (Bool × Int32)} (h : os_ln c len = some (lab, A, l)) : (lab = -1 ∨ ∃ a, a < 6 ∧ lab = nI a) ∧ os_lv l := by
  unfold os_ln at h
  by_cases hw : os_within c len 0 65 70 = true
  · rw [if_pos hw] at h
    have ha : ∃ a, a < 6 ∧ nI (c 0 - 65) = nI a := ⟨c 0 - 65, by unfold os_within at hw; simp at hw; omega, rfl⟩
    split at h
    · split at h
      · cases h
        exact ⟨Or.inr ha, os_lv_nil⟩
      · cases hb : os_body c len 2 with
        | none => rw [hb] at h; cases h
        | some q =>
          rw [hb] at h
          cases h
          exact ⟨Or.inr ha, os_body_v hb⟩
    · cases h
  · rw [if_neg hw] at h
    cases hb : os_body c len 0 with
    | none => rw [hb] at h; cases h
    | some q =>
      rw [hb] at h
      cases h
      exact ⟨Or.inl rfl, os_body_v hb⟩
theorem os_cfb {M : oa_M} {nl : Nat} (h6 : M 0 0 6 = nI nl) (hnl : nl ≤ 20) {g : Nat → Int32} (hg : ∀ k, k < nl → M 9 k 2 = g k) (lab : Int32) : ∀ (r i n : Nat), i + r = nl → r < n → BX4_findLabel_2 n lab (nI i) M = some (os_bi (os_fnd (fun k => decide (g k = lab)) r i), M) := by
  intro r
  induction r with
  | zero =>
    intro i n hi hn
    obtain ⟨n', rfl⟩ : ∃ n', n = n' + 1 := ⟨n - 1, by omega⟩
    rw [BX4_findLabel_2, h6, if_pos (nI_le (by omega) (by omega))]
    rfl
  | succ r ih =>
    intro i n hi hn
    obtain ⟨n', rfl⟩ : ∃ n', n = n' + 1 := ⟨n - 1, by omega⟩
    rw [BX4_findLabel_2, h6, if_neg (nI_ge (by omega) (by omega)), if_pos (on_in (by omega) (by decide)), nI_clamp (by omega), hg i (by omega), nI_1, ih (i + 1) n' (by omega) (by omega)]
    simp only [os_fnd]
    by_cases e : g i = lab
    · rw [if_pos e, if_pos (decide_eq_true e)]
      rfl
    · rw [if_neg e, if_neg (by rw [decide_eq_false e]; decide)]
def os_dp (g : Nat → Int32) (x1 : Int32) (r i : Nat) : Bool := !decide (x1 < 0) && (os_fnd (fun k => decide (g k = x1)) r i).isSome
theorem os_dup {nl : Nat} (hnl : nl ≤ 20) {g : Nat → Int32} {x1 : Int32} (x2 x3 : Int32) (m : Nat) : ∀ (r i : Nat) (M : oa_M) (b : Bool), i + r = nl → M 20 0 17 = nI nl → (∀ k, k < nl → M 38 0 k = g k) → M 20 0 3 = os_i b → ∃ (M' : oa_M), BX5_line_105 (m + 1 + r) x1 x2 x3 (nI i) M = BX5_line_105 (m + 1) x1 x2 x3 (nI nl) M' ∧ (∀ k i f, ¬ (k = 20 ∧ i = 0 ∧ f = 3) → M' k i f = M k i f) ∧ M' 20 0 3 = os_i (b || os_dp g x1 r i) := by
  intro r
  induction r with
  | zero =>
    intro i M b hi h17 hg hb
    have : i = nl := by omega
    subst this
    refine ⟨M, rfl, fun _ _ _ _ => rfl, ?_⟩
    rw [hb]
    simp [os_dp, os_fnd]
  | succ r ih =>
    intro i M b hi h17 hg hb
    show ∃ (M' : oa_M), BX5_line_105 ((m + 1 + r) + 1) x1 x2 x3 (nI i) M = _ ∧ _
    have next : ∀ z : Bool, (z || os_dp g x1 r (i + 1)) = (b || os_dp g x1 (r + 1) i) → BX5_line_105 ((m + 1 + r) + 1) x1 x2 x3 (nI i) M = BX5_line_142 (BX5_line_105 (m + 1 + r)) (m + 1 + r) x1 x2 x3 (nI i) (os_i z) M → ∃ (M' : oa_M), BX5_line_105 ((m + 1 + r) + 1) x1 x2 x3 (nI i) M = BX5_line_105 (m + 1) x1 x2 x3 (nI nl) M' ∧ (∀ k i f, ¬ (k = 20 ∧ i = 0 ∧ f = 3) → M' k i f = M k i f) ∧ M' 20 0 3 = os_i (b || os_dp g x1 (r + 1) i) := fun z hz he => by
      obtain ⟨M', b1, b2, b3⟩ := ih (i + 1) (oa_up M 20 0 3 (os_i z)) z (by omega) (by rw [os_up (by omega)]; exact h17) (fun k hk => by rw [os_up (by omega)]; exact hg k hk) os_up1
      refine ⟨M', ?_, fun k i f h => by rw [b2 k i f h, os_up h], by rw [b3, hz]⟩
      rw [he]
      unfold BX5_line_142
      rw [if_pos (os_isb z), nI_1]
      exact b1
    have e0 : BX5_line_105 ((m + 1 + r) + 1) x1 x2 x3 (nI i) M = (if os_i b = 0 then (if x1 < 0 then (BX5_line_141 (BX5_line_105 (m + 1 + r)) (m + 1 + r) x1 x2 x3 (nI i) M) else (if g i = x1 then (BX5_line_137 (BX5_line_105 (m + 1 + r)) (m + 1 + r) x1 x2 x3 (nI i) M) else (BX5_line_141 (BX5_line_105 (m + 1 + r)) (m + 1 + r) x1 x2 x3 (nI i) M))) else (BX5_line_137 (BX5_line_105 (m + 1 + r)) (m + 1 + r) x1 x2 x3 (nI i) M)) := by
      rw [BX5_line_105, h17, if_neg (nI_ge (by omega) (by omega)), hb, if_pos (on_in (by omega) (by decide)), nI_clamp (by omega), hg i (by omega)]
    cases b with
    | true =>
      rw [if_neg (by decide)] at e0
      exact next true (by simp) e0
    | false =>
      rw [if_pos (by rfl)] at e0
      by_cases h0 : x1 < 0
      · rw [if_pos h0] at e0
        refine next false (by unfold os_dp; rw [decide_eq_true h0]; rfl) e0
      · rw [if_neg h0] at e0
        by_cases e : g i = x1
        · rw [if_pos e] at e0
          refine next true ?_ e0
          unfold os_dp
          simp only [os_fnd]
          rw [decide_eq_false h0, if_pos (decide_eq_true e)]
          rfl
        · rw [if_neg e] at e0
          refine next false ?_ e0
          unfold os_dp
          simp only [os_fnd]
          rw [if_neg (show ¬ decide (g i = x1) = true by rw [decide_eq_false e]; decide)]
theorem os_nb (b : Bool) : vp_nar .boolean (os_i b) = os_i b := by cases b <;> rfl
theorem os_lst1 (n : Nat) {M : oa_M} {nl j : Nat} {x1 x2 x3 : Int32} (hnl : nl < 20) (h17 : M 20 0 17 = nI nl) (hj : j < 3) : BX5_line_227 (n + 1) x1 x2 x3 (nI j) M = BX5_line_227 n x1 x2 x3 (nI (j + 1)) (oa_up (oa_up M 41 0 (3 * nl + j) (M 43 0 j)) 42 0 (3 * nl + j) (vp_nar .boolean (M 44 0 j))) := by
  have e : (3 : Int32) * nI nl + nI j = nI (3 * nl + j) := by rw [show (3 : Int32) = nI 3 from rfl, on_mul, nI_add]
  rw [BX5_line_227, if_neg (show ¬ (3 : Int32) ≤ nI j from nI_ge (b := 3) hj (by decide)), h17, e, if_pos (on_in hj (by decide)), if_pos (on_in (by omega) (by decide)), if_pos (on_in hj (by decide)), if_pos (on_in (by omega) (by decide)), nI_clamp (by omega), nI_clamp (by omega), nI_1]
theorem os_lst (n : Nat) {M : oa_M} {nl : Nat} {x1 x2 x3 : Int32} (hnl : nl < 20) (h17 : M 20 0 17 = nI nl) : ∃ M', BX5_line_227 (n + 1 + 1 + 1 + 1) x1 x2 x3 0 M = some (nI (nl + 1), M') ∧ M' 20 0 17 = nI (nl + 1) ∧ (∀ o, o < 3 → M' 41 0 (3 * nl + o) = M 43 0 o ∧ M' 42 0 (3 * nl + o) = vp_nar .boolean (M 44 0 o)) ∧ (∀ k i f, ¬ ((k = 41 ∨ k = 42) ∧ i = 0 ∧ 3 * nl ≤ f ∧ f < 3 * nl + 3) → ¬ (k = 20 ∧ i = 0 ∧ f = 17) → M' k i f = M k i f) := by
  rw [show (0 : Int32) = nI 0 from rfl, os_lst1 _ hnl h17 (by decide)]
  obtain ⟨Ma, hMa⟩ : ∃ Ma : oa_M, Ma = oa_up (oa_up M 41 0 (3 * nl + 0) (M 43 0 0)) 42 0 (3 * nl + 0) (vp_nar .boolean (M 44 0 0)) := ⟨_, rfl⟩
  have fa : ∀ k i f, ¬ ((k = 41 ∨ k = 42) ∧ i = 0 ∧ f = 3 * nl + 0) → Ma k i f = M k i f := fun k i f h => by rw [hMa, os_up (by omega), os_up (by omega)]
  rw [← hMa, os_lst1 _ hnl (by rw [fa _ _ _ (by omega)]; exact h17) (by decide)]
  obtain ⟨Mb, hMb⟩ : ∃ Mb : oa_M, Mb = oa_up (oa_up Ma 41 0 (3 * nl + (0 + 1)) (Ma 43 0 (0 + 1))) 42 0 (3 * nl + (0 + 1)) (vp_nar .boolean (Ma 44 0 (0 + 1))) := ⟨_, rfl⟩
  have fb : ∀ k i f, ¬ ((k = 41 ∨ k = 42) ∧ i = 0 ∧ f = 3 * nl + 1) → Mb k i f = Ma k i f := fun k i f h => by rw [hMb, os_up (by omega), os_up (by omega)]
  rw [← hMb, os_lst1 _ hnl (by rw [fb _ _ _ (by omega), fa _ _ _ (by omega)]; exact h17) (by decide)]
  obtain ⟨Mc, hMc⟩ : ∃ Mc : oa_M, Mc = oa_up (oa_up Mb 41 0 (3 * nl + (0 + 1 + 1)) (Mb 43 0 (0 + 1 + 1))) 42 0 (3 * nl + (0 + 1 + 1)) (vp_nar .boolean (Mb 44 0 (0 + 1 + 1))) := ⟨_, rfl⟩
  have fc : ∀ k i f, ¬ ((k = 41 ∨ k = 42) ∧ i = 0 ∧ f = 3 * nl + 2) → Mc k i f = Mb k i f := fun k i f h => by rw [hMc, os_up (by omega), os_up (by omega)]
  have h17c : Mc 20 0 17 = nI nl := by rw [fc _ _ _ (by omega), fb _ _ _ (by omega), fa _ _ _ (by omega)]; exact h17
  rw [← hMc, BX5_line_227, if_pos (by decide), h17c, nI_1]
  refine ⟨_, rfl, os_up1, fun o ho => ?_, fun k i f h1 h2 => ?_⟩
  · rw [os_up (by omega), os_up (by omega)]
    rcases (show o = 0 ∨ o = 1 ∨ o = 2 by omega) with rfl | rfl | rfl
    · rw [fc _ _ _ (by omega), fb _ _ _ (by omega), fc _ _ _ (by omega), fb _ _ _ (by omega), hMa]
      exact ⟨by rw [os_up (by omega), os_up1], os_up1⟩
    · rw [fc _ _ _ (by omega), fc _ _ _ (by omega), hMb]
      refine ⟨?_, ?_⟩
      · rw [os_up (by omega), os_up1, fa _ _ _ (by omega)]
      · rw [os_up1, fa _ _ _ (by omega)]
    · rw [hMc]
      refine ⟨?_, ?_⟩
      · rw [os_up (by omega), os_up1, fb _ _ _ (by omega), fa _ _ _ (by omega)]
      · rw [os_up1, fb _ _ _ (by omega), fa _ _ _ (by omega)]
  · rw [os_up (by omega), fc _ _ _ (by omega), fb _ _ _ (by omega), fa _ _ _ (by omega)]
theorem os_mLo {M : oa_M} {a k i f : Nat} (h1 : ¬ ((k = 9 ∨ k = 10 ∨ k = 11) ∧ (i = a ∨ i = 20))) : oa_mL M a 20 k i f = M k i f := by
  by_cases h9 : k = 9
  · subst h9
    show M 9 (oa_sw a 20 i) f = _
    rw [oa_sw_o (by omega) (by omega)]
  by_cases h10 : k = 10
  · subst h10
    show M 10 (oa_sw a 20 i) f = _
    rw [oa_sw_o (by omega) (by omega)]
  by_cases h11 : k = 11
  · subst h11
    show M 11 (oa_sw a 20 i) f = _
    rw [oa_sw_o (by omega) (by omega)]
  unfold oa_mL
  split
  · exact absurd rfl h9
  · exact absurd rfl h10
  · exact absurd rfl h11
  · rfl
theorem os_mL9 (M : oa_M) (a b f : Nat) {k : Nat} (hk : k = 9 ∨ k = 10 ∨ k = 11) : oa_mL M a b k a f = M k b f := by
  rcases hk with rfl | rfl | rfl
  · show M 9 (oa_sw a b a) f = _
    rw [oa_sw_a]
  · show M 10 (oa_sw a b a) f = _
    rw [oa_sw_a]
  · show M 11 (oa_sw a b a) f = _
    rw [oa_sw_a]
theorem os_failL {M M2 : oa_M} {nf nl len size : Nat} {c mem : Nat → Nat} (hO : os_Out M size) (hM : os_Mem M mem) (hC : os_Cn M nf nl) (hF : os_Fs M nf) (hL : os_Ls M nl) (e : ∀ k i f, ¬ (k = 20 ∧ (f = 0 ∨ f = 2 ∨ f = 3 ∨ f = 30)) → ¬ k = 43 → ¬ k = 44 → ¬ (k = 1 ∧ i = 0 ∧ (f = 1 ∨ f = 2)) → ¬ (k = 9 ∧ i = 20 ∧ (f = 2 ∨ f = 3 ∨ f = 4)) → ¬ ((k = 10 ∨ k = 11) ∧ i = 20) → M2 k i f = M k i f) (h1 : M2 1 0 1 = 0) (h2 : M2 1 0 2 = 0) (h3 : M2 20 0 0 = 0) : os_I M2 := by
  have hn20 := hC.2.1
  refine ⟨0, c, size, mem, nf, nl, ⟨by decide, h1, h2, h3, fun j hj => absurd hj (Nat.not_lt_zero _)⟩, hO.co ?_ ?_ (fun j => ?_) (fun j => ?_), hM.co (fun j => ?_) (fun j => ?_), hC.co (fun f => ?_) (fun f hf => ?_), hF.co (fun k i f hk => ?_), fun k hk => (hL k hk).co (fun f _ => ?_) (fun o _ => ?_) (fun o _ => ?_) ?_ ?_ ?_ (fun o _ => ?_) (fun o _ => ?_)⟩
  all_goals exact e _ _ _ (by omega) (by omega) (by omega) (by omega) (by omega) (by omega)
set_option maxHeartbeats 2000000 in
theorem os_S10 : oa_S10 os_I := by
  intro M hI
  obtain ⟨len, c, size, mem, nf, nl, hT, hO, hM, hC, hF, hL⟩ := id hI
  obtain ⟨c1, c2, c3, c4, c5, c6⟩ := id hC
  obtain ⟨M3, a1, a2, a3⟩ := os_creadLine (nl := 20) hT.tx
  obtain ⟨M6, hM6⟩ : ∃ M6 : oa_M, M6 = oa_up (oa_up M3 1 0 1 0) 1 0 2 0 := ⟨_, rfl⟩
  have f6 : ∀ k i f, ¬ (k = 1 ∧ i = 0 ∧ (f = 1 ∨ f = 2)) → M6 k i f = M3 k i f := fun k i f h => by rw [hM6, os_up (by omega), os_up (by omega)]
  have f6M : ∀ k i f, ¬ (k = 1 ∧ i = 0 ∧ (f = 1 ∨ f = 2)) → ¬ (k = 9 ∧ i = 20 ∧ (f = 2 ∨ f = 3 ∨ f = 4)) → ¬ ((k = 10 ∨ k = 11) ∧ i = 20) → M6 k i f = M k i f := fun k i f h h2 h3 => by rw [f6 k i f h, a2 k i f (by omega) h2 h3]
  have m61 : M6 1 0 1 = 0 := by rw [hM6, os_up (by decide), os_up1]
  have m62 : M6 1 0 2 = 0 := by rw [hM6, os_up1]
  have m606 : M6 0 0 6 = nI nl := by rw [f6M _ _ _ (by omega) (by omega) (by omega)]; exact c4.1
  have ecl : FX4_line 100 M = (if os_i (os_ln c len).isSome = 0 then (some (1, 0, M6)) else (if (M6 9 20 2) = (-1 : Int32) then (BX4_line_65 100 20 (os_i (os_ln c len).isSome) M6) else (oa_bd (FX4_findLabel 100 (M6 9 20 2) M6) (fun r10 M11 => (if r10 = (-1 : Int32) then (BX4_line_65 100 20 (os_i (os_ln c len).isSome) M11) else (some (1, 0, M11))))))) := by
    unfold FX4_line
    rw [if_pos (show oa_in (20 : Int32) 21 = true by decide), show (20 : Int32).toNatClampNeg = 20 from rfl, a1, ob_d]
    unfold FX3_clear
    rw [ob_v, hM6]
  obtain ⟨Ms, hMs⟩ : ∃ Ms : oa_M, Ms = oa_mL M6 nl 20 := ⟨_, rfl⟩
  have fs : ∀ k i f, ¬ ((k = 9 ∨ k = 10 ∨ k = 11) ∧ (i = nl ∨ i = 20)) → Ms k i f = M6 k i f := fun k i f h1 => by rw [hMs]; exact os_mLo h1
  have s9 : ∀ k f, k = 9 ∨ k = 10 ∨ k = 11 → Ms k nl f = M6 k 20 f := fun k f hk => by rw [hMs]; exact os_mL9 M6 nl 20 f hk
  have e67 : ∀ z, BX4_line_65 100 20 z M6 = (if nl < 20 then some (0, nI (nl + 1), oa_up Ms 0 0 6 (nI (nl + 1))) else some (2, 0, M6)) := fun z => by
    unfold BX4_line_65
    rw [m606]
    by_cases q : nl < 20
    · rw [if_pos q, if_pos (show nI nl < (20 : Int32) from nI_lt (b := 20) q (by decide)), if_pos (on_in (show nl < 21 by omega) (by decide)), if_pos (show 20 = (20 : Int32).toNatClampNeg from rfl), nI_clamp (by omega), nI_1, hMs]
      rfl
    · rw [if_neg q, if_neg (show ¬ nI nl < (20 : Int32) from nI_nlt (b := 20) (by omega) (by omega))]
  -- the model, from any memory that the class left
  have mdl : ∀ M1 : oa_M, (∀ k i f, k = 21 ∨ k = 38 ∨ (k = 20 ∧ (f = 0 ∨ f = 17)) → M1 k i f = M k i f) → ∃ (x1 x2 x3 : Int32) (M8 : oa_M), FX5_line 200 M1 = BX5_line_105 (199 - nl + 1) x1 x2 x3 (nI nl) M8 ∧ os_k6 M1 M8 ∧ M8 20 0 3 = os_i ((os_ln c len).isNone || os_dp (fun k => M 38 0 k) x1 nl 0) ∧ ∀ lab A l, os_ln c len = some (lab, A, l) → x1 = lab ∧ x2 = nI (os_mnm A) ∧ x3 = nI l.length ∧ os_ms M8 0 l := fun M1 h1 => by
    have hx : os_mx (oa_up (oa_up M1 20 0 2 0) 20 0 3 0) len c 0 := ⟨hT.1, by decide, by rw [os_up (by decide), os_up (by decide), h1 _ _ _ (by omega)]; exact hT.2.2.2.1, by rw [os_up (by decide), os_up1]; rfl, fun j hj => by rw [os_up (by omega), os_up (by omega), h1 _ _ _ (Or.inl rfl)]; exact ⟨(hT.2.2.2.2 j hj).2.1, (hT.2.2.2.2 j hj).2.2⟩⟩
    obtain ⟨x1, x2, x3, M7, b1, b2, b3, b4⟩ := os_mreadLine hx
    obtain ⟨M8, d1, d2, d3⟩ := os_dup c2 (g := fun k => M 38 0 k) (x1 := x1) x2 x3 (199 - nl) nl 0 M7 _ (by omega) (by rw [b2 _ _ _ (by omega) (by omega) (by omega), h1 _ _ _ (by omega)]; exact c4.2) (fun k _ => by rw [b2 _ _ _ (by omega) (by omega) (by omega), h1 _ _ _ (by omega)]) b3
    refine ⟨x1, x2, x3, M8, ?_, b2.tr (fun k i f a b c => d2 k i f (by omega)), d3, fun lab A l q => ?_⟩
    · rw [b1, ← d1, show 199 - nl + 1 + nl = 200 by omega]
      rfl
    · obtain ⟨g1, g2, g3, g4⟩ := b4 lab A l q
      exact ⟨g1, g2, g3, fun j b v hj => by rw [d2 _ _ _ (by omega), d2 _ _ _ (by omega)]; exact g4 j b v hj⟩
  have e182 : ∀ (n : Nat) (x1 x2 x3 x4 z : Int32) (M9 : oa_M), z ≠ 0 → BX5_line_182 n x1 x2 x3 x4 z M9 = some (0, oa_up M9 20 0 30 z) := fun n x1 x2 x3 x4 z M9 hz => by
    unfold BX5_line_182
    rw [if_neg hz]
  have e105 : ∀ (n : Nat) (x1 x2 x3 : Int32) (b : Bool) (M8 : oa_M), M8 20 0 17 = nI nl → M8 20 0 3 = os_i b → BX5_line_105 (n + 1) x1 x2 x3 (nI nl) M8 = (if b then some (0, oa_up (oa_up M8 20 0 0 0) 20 0 30 1) else if nl = 20 then some (0, oa_up (oa_up M8 20 0 0 0) 20 0 30 2) else BX5_line_182 n x1 x2 x3 (nI nl) 0 (oa_up M8 20 0 0 0)) := fun n x1 x2 x3 b M8 h17 hb => by
    rw [BX5_line_105, h17, if_pos (nI_le (Nat.le_refl _) (by omega)), hb, e182 _ _ _ _ _ 1 _ (by decide), e182 _ _ _ _ _ 2 _ (by decide)]
    cases b with
    | true => rw [if_neg (by decide), if_pos rfl]
    | false =>
      rw [if_pos (show os_i false = 0 from rfl), if_neg (show ¬ false = true by decide)]
      by_cases q : nl = 20
      · rw [if_pos (show nI nl = (20 : Int32) by rw [q]; rfl), if_pos q]
      · rw [if_neg (show ¬ nI nl = (20 : Int32) from fun z => q ((nI_eq (b := 20) (by omega) (by decide)).mp z)), if_neg q]
  -- refused: with k
  have fail : ∀ (kc : Nat) (k : Int32), (kc = 1 ∧ k = 1 ∨ kc = 2 ∧ k = 2) → FX4_line 100 M = some (kc, 0, M6) → (∀ (n : Nat) (x1 x2 x3 : Int32) (M8 : oa_M), M8 20 0 17 = nI nl → M8 20 0 3 = os_i ((os_ln c len).isNone || os_dp (fun k => M 38 0 k) x1 nl 0) → (∀ lab A l, os_ln c len = some (lab, A, l) → x1 = lab) → BX5_line_105 (n + 1) x1 x2 x3 (nI nl) M8 = some (0, oa_up (oa_up M8 20 0 0 0) 20 0 30 k)) → ∃ (n n' : Nat) (k : Int32) (M1 : oa_M) (b : Int32) (M2 : oa_M), FL_line n M = some (k, M1) ∧ FX5_line n' M1 = some (b, M2) ∧ M2 20 0 30 = k ∧ (k = 0 → M2 50 0 0 = b) ∧ os_I M2 := fun kc k hk h1 h2 => by
    obtain ⟨x1, x2, x3, M8, b1, b2, b3, b4⟩ := mdl M6 (fun k i f h => f6M k i f (by omega) (by omega) (by omega))
    have h17 : M8 20 0 17 = nI nl := by rw [b2 _ _ _ (by omega) (by omega) (by omega), f6M _ _ _ (by omega) (by omega) (by omega)]; exact c4.2
    refine ⟨100, 200, k, M6, 0, _, ?_, by rw [b1, h2 _ x1 x2 x3 M8 h17 b3 (fun lab A l q => (b4 lab A l q).1)], os_up1, fun h => ?_, os_failL (c := c) (len := len) hO hM hC hF hL (fun k i f p1 p2 p3 p4 p5 p6 => ?_) ?_ ?_ ?_⟩
    · unfold FL_line
      rw [h1]
      rcases hk with ⟨rfl, rfl⟩ | ⟨rfl, rfl⟩ <;> rfl
    · rcases hk with ⟨-, rfl⟩ | ⟨-, rfl⟩ <;> exact absurd h (by decide)
    · rw [os_up (by omega), os_up (by omega), b2 _ _ _ (by omega) p2 p3, f6M _ _ _ p4 p5 p6]
    · rw [os_up (by omega), os_up (by omega), b2 _ _ _ (by omega) (by omega) (by omega)]; exact m61
    · rw [os_up (by omega), os_up (by omega), b2 _ _ _ (by omega) (by omega) (by omega)]; exact m62
    · rw [os_up (by omega), os_up1]
  cases hln : os_ln c len with
  | none =>
    refine fail 1 1 (Or.inl ⟨rfl, rfl⟩) (by rw [ecl, hln, if_pos (by rfl)]) (fun n x1 x2 x3 M8 h17 h3 _ => ?_)
    rw [e105 n x1 x2 x3 true M8 h17 (by rw [h3, hln]; rfl), if_pos rfl]
  | some q =>
    obtain ⟨lab, A, l⟩ := q
    obtain ⟨⟨hA, hAl⟩, r2, r3, r4, r5⟩ := a3 lab A l hln
    obtain ⟨hlab, hlen, hlv⟩ := os_ln_v hln
    rw [hln, if_neg (show ¬ os_i (some (lab, A, l)).isSome = 0 from (show ¬ (1 : Int32) = 0 by decide)), f6 9 20 2 (by omega), r2, e67] at ecl
    have cf := os_cfb (M := M6) m606 c2 (g := fun k => M 38 0 k) (fun k hk => by rw [f6M _ _ _ (by omega) (by omega) (by omega)]; obtain ⟨-, -, -, -, -, q, -⟩ := hL k hk; exact q.1) lab nl 0 100 (by omega) (by omega)
    rw [show FX4_findLabel 100 lab M6 = _ from cf, ob_d, e67] at ecl
    rcases (Bool.eq_false_or_eq_true (os_dp (fun k => M 38 0 k) lab nl 0)).symm with hd | hd
    · have ecl2 : FX4_line 100 M = (if nl < 20 then some (0, nI (nl + 1), oa_up Ms 0 0 6 (nI (nl + 1))) else some (2, 0, M6)) := by
        rw [ecl]
        rcases hlab with rfl | ⟨a, ha, rfl⟩
        · rw [if_pos rfl]
        · rw [if_neg (on_ltm1 (by omega))]
          unfold os_dp at hd
          rw [decide_eq_false (show ¬ nI a < 0 from nI_pos (by omega))] at hd
          cases hfd : os_fnd (fun k => decide (M 38 0 k = nI a)) nl 0 with
          | none => rw [if_pos (show os_bi none = (-1 : Int32) from rfl)]
          | some b => rw [hfd] at hd; cases hd
      rcases (Decidable.em (nl < 20)).symm with h20 | h20
      · rw [if_neg h20] at ecl2
        refine fail 2 2 (Or.inr ⟨rfl, rfl⟩) ecl2 (fun n x1 x2 x3 M8 h17 h3 hx => ?_)
        rw [e105 n x1 x2 x3 false M8 h17 (by rw [h3, hx lab A l hln, hln, hd]; rfl), if_neg (by decide), if_pos (by omega)]
      · rw [if_pos h20] at ecl2
        obtain ⟨M1, hM1⟩ : ∃ M1 : oa_M, M1 = oa_up (oa_up Ms 0 0 6 (nI (nl + 1))) 50 0 0 (nI (nl + 1)) := ⟨_, rfl⟩
        have f1 : ∀ k i f, ¬ (k = 50 ∧ i = 0 ∧ f = 0) → ¬ (k = 0 ∧ i = 0 ∧ f = 6) → M1 k i f = Ms k i f := fun k i f h h2 => by rw [hM1, os_up (by omega), os_up (by omega)]
        obtain ⟨x1, x2, x3, M8, b1, b2, b3, b4⟩ := mdl M1 (fun k i f h => by rw [f1 _ _ _ (by omega) (by omega), fs _ _ _ (by omega)]; exact f6M k i f (by omega) (by omega) (by omega))
        obtain ⟨rfl, rfl, rfl, g4⟩ := b4 lab A l hln
        have h17 : M8 20 0 17 = nI nl := by rw [b2 _ _ _ (by omega) (by omega) (by omega), f1 _ _ _ (by omega) (by omega), fs _ _ _ (by omega), f6M _ _ _ (by omega) (by omega) (by omega)]; exact c4.2
        obtain ⟨My, hMy⟩ : ∃ My : oa_M, My = oa_up (oa_up (oa_up (oa_up (oa_up M8 20 0 0 0) 20 0 30 0) 38 0 nl x1) 39 0 nl (nI (os_mnm A))) 40 0 nl (nI l.length) := ⟨_, rfl⟩
        have fy : ∀ k i f, ¬ (k = 20 ∧ (f = 0 ∨ f = 30)) → ¬ ((k = 38 ∨ k = 39 ∨ k = 40) ∧ f = nl) → My k i f = M8 k i f := fun k i f a b => by rw [hMy, os_up (by omega), os_up (by omega), os_up (by omega), os_up (by omega), os_up (by omega)]
        obtain ⟨M2, y1, y2, y3, y4⟩ := os_lst (199 - nl - 4) (M := My) (x1 := x1) (x2 := nI (os_mnm A)) (x3 := nI l.length) h20 (by rw [fy _ _ _ (by omega) (by omega)]; exact h17)
        have emo : FX5_line 200 M1 = some (nI (nl + 1), M2) := by
          rw [b1, e105 _ _ _ _ false M8 h17 (by rw [b3, hln, hd]; rfl), if_neg (by decide), if_neg (by omega)]
          unfold BX5_line_182
          rw [if_pos rfl, os_up (by omega), h17, if_pos (on_in h20 (by decide)), if_pos (on_in h20 (by decide)), if_pos (on_in h20 (by decide)), nI_clamp (by omega), ← hMy]
          rw [show 199 - nl = 199 - nl - 4 + 1 + 1 + 1 + 1 by omega]
          exact y1
        have e : ∀ k i f, ¬ ((k = 41 ∨ k = 42) ∧ i = 0 ∧ 3 * nl ≤ f ∧ f < 3 * nl + 3) → ¬ (k = 20 ∧ (f = 0 ∨ f = 2 ∨ f = 3 ∨ f = 17 ∨ f = 30)) → ¬ ((k = 38 ∨ k = 39 ∨ k = 40) ∧ f = nl) → ¬ k = 43 → ¬ k = 44 → ¬ k = 50 → ¬ (k = 0 ∧ i = 0 ∧ f = 6) → M2 k i f = Ms k i f := fun k i f p1 p2 p3 p4 p5 p6 p7 => by rw [y4 k i f p1 (by omega), fy _ _ _ (by omega) p3, b2 _ _ _ (by omega) p4 p5, f1 _ _ _ (by omega) p7]
        have eM : ∀ k i f, ¬ ((k = 41 ∨ k = 42) ∧ i = 0 ∧ 3 * nl ≤ f ∧ f < 3 * nl + 3) → ¬ (k = 20 ∧ (f = 0 ∨ f = 2 ∨ f = 3 ∨ f = 17 ∨ f = 30)) → ¬ ((k = 38 ∨ k = 39 ∨ k = 40) ∧ f = nl) → ¬ k = 43 → ¬ k = 44 → ¬ k = 50 → ¬ (k = 0 ∧ i = 0 ∧ f = 6) → ¬ (k = 1 ∧ i = 0 ∧ (f = 1 ∨ f = 2)) → ¬ ((k = 9 ∨ k = 10 ∨ k = 11) ∧ (i = nl ∨ i = 20)) → M2 k i f = M k i f := fun k i f p1 p2 p3 p4 p5 p6 p7 p8 p9 => by rw [e k i f p1 p2 p3 p4 p5 p6 p7, fs k i f p9, f6M k i f p8 (by omega) (by omega)]
        have e3 : ∀ k f, k = 9 ∨ k = 10 ∨ k = 11 → M2 k nl f = M3 k 20 f := fun k f hk => by rw [e k nl f (by omega) (by omega) (by omega) (by omega) (by omega) (by omega) (by omega), s9 k f hk, f6 k 20 f (by omega)]
        refine ⟨100, 200, 0, M1, nI (nl + 1), M2, by unfold FL_line; rw [ecl2, hM1]; rfl, emo, ?_, fun _ => ?_, ?_⟩
        · rw [y4 _ _ _ (by omega) (by omega), hMy, os_up (by omega), os_up (by omega), os_up (by omega), os_up1]
        · rw [y4 _ _ _ (by omega) (by omega), fy _ _ _ (by omega) (by omega), b2 _ _ _ (by omega) (by omega) (by omega), hM1, os_up1]
        refine ⟨0, c, size, mem, nf, nl + 1, ⟨by decide, ?_, ?_, ?_, fun j hj => absurd hj (Nat.not_lt_zero _)⟩, hO.co ?_ ?_ (fun j => ?_) (fun j => ?_), hM.co (fun j => ?_) (fun j => ?_), ⟨c1, by omega, ⟨?_, ?_⟩, ⟨?_, y2⟩, ?_, ?_⟩, hF.co (fun k i f hk => ?_), fun k hk => ?_⟩
        all_goals try exact eM _ _ _ (by omega) (by omega) (by omega) (by omega) (by omega) (by omega) (by omega) (by omega) (by omega)
        · rw [e _ _ _ (by omega) (by omega) (by omega) (by omega) (by omega) (by omega) (by omega), fs _ _ _ (by omega)]; exact m61
        · rw [e _ _ _ (by omega) (by omega) (by omega) (by omega) (by omega) (by omega) (by omega), fs _ _ _ (by omega)]; exact m62
        · rw [y4 _ _ _ (by omega) (by omega), hMy, os_up (by omega), os_up (by omega), os_up (by omega), os_up (by omega), os_up1]; rfl
        · rw [eM _ _ _ (by omega) (by omega) (by omega) (by omega) (by omega) (by omega) (by omega) (by omega) (by omega)]; exact c3.1
        · rw [eM _ _ _ (by omega) (by omega) (by omega) (by omega) (by omega) (by omega) (by omega) (by omega) (by omega)]; exact c3.2
        · rw [y4 _ _ _ (by omega) (by omega), fy _ _ _ (by omega) (by omega), b2 _ _ _ (by omega) (by omega) (by omega), hM1, os_up (by omega), os_up1]
        · rw [eM _ _ _ (by omega) (by omega) (by omega) (by omega) (by omega) (by omega) (by omega) (by omega) (by omega), eM _ _ _ (by omega) (by omega) (by omega) (by omega) (by omega) (by omega) (by omega) (by omega) (by omega)]; exact c5
        · rw [eM _ _ _ (by omega) (by omega) (by omega) (by omega) (by omega) (by omega) (by omega) (by omega) (by omega), eM _ _ _ (by omega) (by omega) (by omega) (by omega) (by omega) (by omega) (by omega) (by omega) (by omega)]; exact c6
        · by_cases hin : k < nl
          · refine (hL k hin).co (fun f _ => ?_) (fun o _ => ?_) (fun o _ => ?_) ?_ ?_ ?_ (fun o _ => ?_) (fun o _ => ?_)
            all_goals exact eM _ _ _ (by omega) (by omega) (by omega) (by omega) (by omega) (by omega) (by omega) (by omega) (by omega)
          · have : k = nl := by omega
            subst this
            have h38 : M2 38 0 k = x1 := by rw [y4 _ _ _ (by omega) (by omega), hMy, os_up (by omega), os_up (by omega), os_up1]
            refine ⟨A, l.length, hA, hlen, fun q => by rw [hAl q]; rfl, ⟨?_, ?_⟩, ⟨?_, ?_⟩, ⟨?_, ?_⟩, fun o ho => ?_⟩
            · rw [e3 _ _ (by omega), r2, h38]
            · rw [h38]; exact hlab
            · rw [e3 _ _ (by omega)]; exact r3
            · rw [y4 _ _ _ (by omega) (by omega), hMy, os_up (by omega), os_up1]
            · rw [e3 _ _ (by omega)]; exact r4
            · rw [y4 _ _ _ (by omega) (by omega), hMy, os_up1]
            · obtain ⟨⟨b, v⟩, hq⟩ : ∃ q, l[o]? = some q := ⟨l[o], List.getElem?_eq_getElem ho⟩
              have hv := hlv b v (List.mem_of_getElem? hq)
              have s1 := r5 o b v hq
              have s2 := g4 o b v hq
              rw [Nat.zero_add] at s1 s2
              obtain ⟨s3, s4⟩ := y3 o (by omega)
              rw [fy _ _ _ (by omega) (by omega), s2.2] at s3
              rw [fy _ _ _ (by omega) (by omega), s2.1, os_nb] at s4
              unfold os_La
              rw [e3 10 _ (by omega), e3 11 _ (by omega), s3, s4]
              cases b with
              | false =>
                left
                obtain ⟨t1, t2⟩ := s1.2 rfl
                exact ⟨rfl, t1, t2, hv.2 rfl⟩
              | true =>
                right
                obtain ⟨a, ha, hva⟩ := hv.1 rfl
                exact ⟨rfl, a, ha, by rw [s1.1 rfl, hva], hva⟩
    · -- the label stands already
      have ecl2 : FX4_line 100 M = some (1, 0, M6) := by
        rw [ecl]
        unfold os_dp at hd
        rcases hlab with rfl | ⟨a, ha, rfl⟩
        · rw [decide_eq_true (show (-1 : Int32) < 0 by decide)] at hd
          cases hd
        · rw [if_neg (on_ltm1 (by omega))]
          cases hfd : os_fnd (fun k => decide (M 38 0 k = nI a)) nl 0 with
          | none => rw [hfd] at hd; simp at hd
          | some b =>
            have hb := (os_fnd_lt _ _ _ _ hfd).2.1
            rw [if_neg (show ¬ os_bi (some b) = (-1 : Int32) from on_ltm1 (by omega))]
      refine fail 1 1 (Or.inl ⟨rfl, rfl⟩) ecl2 (fun n x1 x2 x3 M8 h17 h3 hx => ?_)
      rw [e105 n x1 x2 x3 true M8 h17 (by rw [h3, hx lab A l hln, hd, Bool.or_true]), if_pos rfl]

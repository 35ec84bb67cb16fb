/-! operand -/
theorem os_outs (n : Nat) (x a b : Int32) (M : oa_M) : FX5_outside n x a b M = some ((if x < a then 1 else if x ≤ b then 0 else 1), M) := by
  unfold FX5_outside BX5_outside_10 BX5_outside_15
  by_cases h : x < a
  · rw [if_pos h, if_pos h]; rfl
  · rw [if_neg h, if_neg h]
    by_cases h2 : x ≤ b
    · rw [if_pos h2, if_pos h2]; rfl
    · rw [if_neg h2, if_neg h2]; rfl
theorem os_o92 (n : Nat) (x1 x2 x3 x4 x5 x6 : Int32) (M : oa_M) : BX5_operand_87 n x1 x2 x3 x4 x5 x6 M = some (0, oa_up M 20 0 30 1) := by
  unfold BX5_operand_87 BX5_operand_92
  rw [if_neg (by decide)]
theorem os_o46 (n : Nat) (x1 x2 x3 x4 x5 : Int32) (M : oa_M) : BX5_operand_46 n x1 x2 x3 x4 x5 M = some (0, oa_up M 20 0 30 1) := by
  unfold BX5_operand_46 BX5_operand_47
  rw [if_pos rfl, os_o92]
theorem os_q3 (i o : Nat) : (3 : Int32) * nI i + nI o = nI (3 * i + o) := by
  rw [show (3 : Int32) = nI 3 from rfl, on_mul, nI_add]
set_option maxHeartbeats 1000000 in
theorem os_S2 : oa_S2 os_I := by
  intro x1 x2 x3 x4 x5 M hI
  obtain ⟨len, c, size, mem, nf, nl, hT, hO, hM, hC, hF, hL⟩ := id hI
  obtain ⟨c1, c2, c3, c4, c5, c6⟩ := id hC
  have bad : FX4_operand 0 x1 x2 x3 x4 x5 M = some (1, 0, M) → FX5_operand 0 x1 x2 x3 x4 x5 M = some (0, oa_up M 20 0 30 1) → ∃ (n n' : Nat) (k : Int32) (M1 : oa_M) (b : Int32) (M2 : oa_M), FL_operand n x1 x2 x3 x4 x5 M = some (k, M1) ∧ FX5_operand n' x1 x2 x3 x4 x5 M1 = some (b, M2) ∧ M2 20 0 30 = k ∧ (k = 0 → M2 50 0 0 = b) ∧ os_I M2 := fun h1 h2 =>
    ⟨0, 0, 1, M, 0, _, by unfold FL_operand; rw [h1]; rfl, h2, rfl, fun h => absurd h (by decide), hI.up (by unfold os_free; omega) _⟩
  by_cases k1 : x1 < 0
  · exact bad (by unfold FX4_operand; rw [if_pos k1]; rfl) (by unfold FX5_operand; rw [if_pos k1, os_o46])
  obtain ⟨i, hi, rfl⟩ := nI_of k1
  rcases (Decidable.em (i < nf)).symm with k2 | k2
  · exact bad (by unfold FX4_operand; rw [if_neg k1, c3.1, if_neg (nI_nlt (by omega) hi)]; rfl) (by unfold FX5_operand; rw [if_neg k1, c3.2, if_pos (nI_le (by omega) hi), os_o46])
  have k2' : nI i < M 0 0 5 := by rw [c3.1]; exact nI_lt k2 (by omega)
  have k2m : ¬ M 20 0 4 ≤ nI i := by rw [c3.2]; exact nI_ge k2 (by omega)
  by_cases k3 : x2 < 0
  · exact bad (by unfold FX4_operand; rw [if_neg k1, if_pos k2', if_pos k3]; rfl) (by unfold FX5_operand; rw [if_neg k1, if_neg k2m, if_pos k3, os_o46])
  obtain ⟨o, ho, rfl⟩ := nI_of k3
  obtain ⟨⟨bt, sg, L, oc, fF⟩, hOp⟩ := hF.1 i k2
  obtain ⟨a1, a2, a3, a4, a5, a6, a7, a8, a9, a10, a11⟩ := id fF
  have kin : oa_in (nI i) 13 = true := on_in (by omega) (by decide)
  have kin2 : oa_in (nI i) 12 = true := on_in (by omega) (by decide)
  have k2l : nI i < M 20 0 4 := by rw [c3.2]; exact nI_lt k2 (by omega)
  have mdl : ∀ z, FX5_operand 0 (nI i) (nI o) x3 x4 x5 z = (if z 20 0 4 ≤ nI i then BX5_operand_46 0 (nI i) (nI o) x3 x4 x5 z else if nI i < z 20 0 4 then (if z 28 0 i ≤ nI o then BX5_operand_46 0 (nI i) (nI o) x3 x4 x5 z else BX5_operand_47 0 (nI i) (nI o) x3 x4 x5 1 z) else BX5_operand_33 0 (nI i) (nI o) x3 x4 x5 (nI o) z) := fun z => by
    unfold FX5_operand BX5_operand_38
    rw [if_neg k1, if_neg k3, if_neg k1, if_pos kin2, nI_clamp hi]
  rcases (Decidable.em (o < oc)).symm with k4 | k4
  · exact bad (by unfold FX4_operand; rw [if_neg k1, if_pos k2', if_neg k3, if_pos kin, nI_clamp hi, a9.1, if_neg (nI_nlt (by omega) ho)]; rfl) (by rw [mdl, if_neg k2m, if_pos k2l, a9.2, if_pos (nI_le (by omega) ho), os_o46])
  have k4c : nI o < M 5 i 5 := by rw [a9.1]; exact nI_lt k4 (by omega)
  have k4m : ¬ M 28 0 i ≤ nI o := by rw [a9.2]; exact nI_ge k4 (by omega)
  have mdl2 : FX5_operand 0 (nI i) (nI o) x3 x4 x5 M = BX5_operand_47 0 (nI i) (nI o) x3 x4 x5 1 M := by rw [mdl, if_neg k2m, if_pos k2l, if_neg k4m]
  by_cases k5 : x3 < 0
  · exact bad (by unfold FX4_operand; rw [if_neg k1, if_pos k2', if_neg k3, if_pos kin, nI_clamp hi, if_pos k4c, if_pos k5]; rfl) (by rw [mdl2]; unfold BX5_operand_47; rw [if_neg (by decide), os_outs, ob_d, if_pos k5, if_neg (by decide), os_o92])
  rcases (Decidable.em (x3 ≤ (2 : Int32))).symm with k6 | k6
  · exact bad (by unfold FX4_operand; rw [if_neg k1, if_pos k2', if_neg k3, if_pos kin, nI_clamp hi, if_pos k4c, if_neg k5, if_neg k6]; rfl) (by rw [mdl2]; unfold BX5_operand_47; rw [if_neg (by decide), os_outs, ob_d, if_neg k5, if_neg k6, if_neg (by decide), os_o92])
  obtain ⟨kd, hkd, rfl⟩ := nI_of2 (n := 2) rfl k5 k6
  by_cases k7 : x4 < (1 : Int32)
  · exact bad (by unfold FX4_operand; rw [if_neg k1, if_pos k2', if_neg k3, if_pos kin, nI_clamp hi, if_pos k4c, if_neg k5, if_pos k6, if_pos k7]; rfl) (by rw [mdl2]; unfold BX5_operand_47; rw [if_neg (by decide), os_outs, ob_d, if_neg k5, if_pos k6, if_pos rfl, os_outs, ob_d, if_pos k7, if_neg (by decide), os_o92])
  rcases (Decidable.em (x4 ≤ (8 : Int32))).symm with k8 | k8
  · exact bad (by unfold FX4_operand; rw [if_neg k1, if_pos k2', if_neg k3, if_pos kin, nI_clamp hi, if_pos k4c, if_neg k5, if_pos k6, if_neg k7, if_neg k8]; rfl) (by rw [mdl2]; unfold BX5_operand_47; rw [if_neg (by decide), os_outs, ob_d, if_neg k5, if_pos k6, if_pos rfl, os_outs, ob_d, if_neg k7, if_neg k8, if_neg (by decide), os_o92])
  have k70 : ¬ x4 < 0 := fun q => k7 (by rw [Int32.lt_iff_toInt_lt] at q ⊢; exact Int.lt_trans q (by decide))
  obtain ⟨sc, hsc, rfl⟩ := nI_of2 (n := 8) rfl k70 k8
  have hsc1 : 1 ≤ sc := by
    rcases Nat.eq_zero_or_pos sc with q | q
    · subst q; exact absurd (by decide) k7
    · exact q
  by_cases k9 : x5 < (-100 : Int32)
  · exact bad (by unfold FX4_operand; rw [if_neg k1, if_pos k2', if_neg k3, if_pos kin, nI_clamp hi, if_pos k4c, if_neg k5, if_pos k6, if_neg k7, if_pos k8, if_pos k9]; rfl) (by rw [mdl2]; unfold BX5_operand_47; rw [if_neg (by decide), os_outs, ob_d, if_neg k5, if_pos k6, if_pos rfl, os_outs, ob_d, if_neg k7, if_pos k8, if_pos rfl, os_outs, ob_d, if_pos k9, if_neg (by decide), os_o92])
  rcases (Decidable.em (x5 ≤ (100 : Int32))).symm with k10 | k10
  · exact bad (by unfold FX4_operand; rw [if_neg k1, if_pos k2', if_neg k3, if_pos kin, nI_clamp hi, if_pos k4c, if_neg k5, if_pos k6, if_neg k7, if_pos k8, if_neg k9, if_neg k10]; rfl) (by rw [mdl2]; unfold BX5_operand_47; rw [if_neg (by decide), os_outs, ob_d, if_neg k5, if_pos k6, if_pos rfl, os_outs, ob_d, if_neg k7, if_pos k8, if_pos rfl, os_outs, ob_d, if_neg k9, if_neg k10, if_neg (by decide), os_o92])
  have ho3 : o < 3 := by omega
  obtain ⟨b1, b2⟩ := a10 o ho3
  generalize hq : 3 * i + o = q at b1 b2
  have hq36 : q < 36 := by omega
  obtain ⟨b1, b3⟩ := b1
  generalize hcn : os_cnt (os_po bt sg o) 24 = w at b2 b3
  let MC := oa_up (oa_up (oa_up M 7 q 2 (nI kd)) 7 q 3 (nI sc)) 7 q 4 x5
  have e1 : FX4_operand 0 (nI i) (nI o) (nI kd) (nI sc) x5 M = some (0, nI w, MC) := by
    unfold FX4_operand
    rw [if_neg k1, if_pos k2', if_neg k3, if_pos kin, nI_clamp hi, if_pos k4c, if_neg k5, if_pos k6, if_neg k7, if_pos k8, if_neg k9, if_pos k10, if_pos kin, if_pos (on_in ho3 (by decide)), nI_clamp ho, hq, os_up (M := oa_up (oa_up M 7 q 2 (nI kd)) 7 q 3 (nI sc)) (k' := 7) (i' := q) (f' := 1) (by omega), os_up (M := oa_up M 7 q 2 (nI kd)) (k' := 7) (i' := q) (f' := 1) (by omega), os_up (M := M) (k' := 7) (i' := q) (f' := 1) (by omega), b3]
  let M1 := oa_up MC 50 0 0 (nI w)
  have e2 : FX5_operand 0 (nI i) (nI o) (nI kd) (nI sc) x5 M1 = some (nI w, oa_up (oa_up (oa_up (oa_up M1 20 0 30 0) 30 0 q (nI kd)) 31 0 q (nI sc)) 32 0 q x5) := by
    have m4 : M1 20 0 4 = M 20 0 4 := by simp [M1, MC, oa_up]
    have m28 : M1 28 0 i = M 28 0 i := by simp [M1, MC, oa_up]
    have m29 : M1 29 0 q = nI w := by simp [M1, MC, oa_up, b2]
    rw [mdl, m4, m28, if_neg k2m, if_pos k2l, if_neg k4m]
    unfold BX5_operand_47
    rw [if_neg (by decide), os_outs, ob_d, if_neg k5, if_pos k6, if_pos rfl, os_outs, ob_d, if_neg k7, if_pos k8, if_pos rfl, os_outs, ob_d, if_neg k9, if_pos k10, if_pos rfl]
    unfold BX5_operand_92
    rw [if_pos rfl, os_q3, hq, if_pos (on_in hq36 (by decide)), if_pos (on_in hq36 (by decide)), if_pos (on_in hq36 (by decide)), if_pos (on_in hq36 (by decide)), nI_clamp (by omega), m29]
  refine ⟨0, 0, 0, M1, nI w, _, by unfold FL_operand; rw [e1]; rfl, e2, ?_, fun _ => ?_, len, c, size, mem, nf, nl, hT.co ?_ ?_ ?_ (fun j => ?_) (fun j => ?_), hO.co ?_ ?_ (fun j => ?_) (fun j => ?_), hM.co (fun j => ?_) (fun j => ?_), hC.co (fun f => ?_) (fun f hf => ?_), ⟨fun i' hi' => ?_, fun i' h1 h2 o' ho' => ?_⟩, hL.co (fun k i f hk => ?_) (fun i f hf => ?_)⟩
  all_goals try (simp only [M1, MC, oa_up]; rw [if_neg (by omega), if_neg (by omega), if_neg (by omega), if_neg (by omega), if_neg (by omega), if_neg (by omega), if_neg (by omega), if_neg (by omega)]; done)
  · simp [oa_up]
  · simp [oa_up, M1]
  · obtain ⟨⟨bt', sg', L', oc', gF⟩, gO⟩ := hF.1 i' hi'
    refine ⟨⟨bt', sg', L', oc', gF.co (fun f => ?_) (fun o' f _ _ => ?_) ?_ ?_ (fun k _ => ?_) ?_ (fun o' _ => ?_)⟩, fun o' ho' => ?_⟩
    all_goals try (simp only [M1, MC, oa_up]; rw [if_neg (by omega), if_neg (by omega), if_neg (by omega), if_neg (by omega), if_neg (by omega), if_neg (by omega), if_neg (by omega), if_neg (by omega)]; done)
    by_cases hh : 3 * i' + o' = q
    · rw [hh]
      refine ⟨kd, sc, x5.toInt, hkd, ⟨hsc1, hsc⟩, ⟨?_, ?_⟩, ⟨?_, ?_⟩, ⟨?_, ?_⟩, ?_, ?_⟩
      · rw [Int32.lt_iff_toInt_lt, show (-100 : Int32).toInt = -100 from by decide] at k9; omega
      · rw [Int32.le_iff_toInt_le, show (100 : Int32).toInt = 100 from by decide] at k10; omega
      all_goals simp [M1, MC, oa_up]
    · refine (gO o' ho').co (fun f => ?_) ?_ ?_ ?_
      all_goals (simp only [M1, MC, oa_up]; rw [if_neg (by omega), if_neg (by omega), if_neg (by omega), if_neg (by omega), if_neg (by omega), if_neg (by omega), if_neg (by omega), if_neg (by omega)])
  · have := hF.2 i' h1 h2 o' ho'
    have hne : 3 * i' + o' ≠ q := by omega
    simp only [M1, MC, oa_up]
    simp [hne]
    exact this

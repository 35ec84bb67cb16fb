/-! the calls that touch little -/
theorem os_w0 {M M' : oa_M} (h : os_I M) (hk : ∀ k i f, ¬ os_free k f → M' k i f = M k i f) : os_I M' := h.co hk
theorem os_S0 : oa_S0 os_I := by
  intro a1 M hI
  obtain ⟨a, ha, ea⟩ := on_i2cn a1
  rw [ea]
  obtain ⟨len, c, size, mem, nf, nl, hT, hO, hM, hC, hF, hL⟩ := id hI
  obtain ⟨t1, t2, t3, t4, t5⟩ := id hT
  by_cases hl : len < 40
  · have e1 : FX4_type 0 (nI a) M = some (nI (len + 1), oa_up (oa_up M 2 0 len (nI a)) 1 0 1 (nI (len + 1))) := by
      unfold FX4_type FX3_add
      rw [t2, if_pos (show nI len < (40 : Int32) from nI_lt hl (by decide)), if_pos (on_in hl (by decide)), on_ncr ha, nI_clamp (by omega), nI_1]
      rw [ob_d, if_neg (by decide), os_up1]
      rfl
    have e2 : FX5_type 0 (nI a) (oa_up (oa_up M 2 0 len (nI a)) 1 0 1 (nI (len + 1))) = some (nI (len + 1), oa_up (oa_up (oa_up (oa_up (oa_up M 2 0 len (nI a)) 1 0 1 (nI (len + 1))) 20 0 30 0) 21 0 len (nI a)) 20 0 0 (nI (len + 1))) := by
      unfold FX5_type
      rw [show (oa_up (oa_up M 2 0 len (nI a)) 1 0 1 (nI (len + 1))) 20 0 0 = nI len from by rw [os_up (by decide), os_up (by omega)]; exact t4]
      rw [if_neg (show ¬ nI len = (40 : Int32) from fun q => by rw [show (40 : Int32) = nI 40 from rfl, nI_eq (by omega) (by decide)] at q; omega), if_pos (on_in hl (by decide)), on_ncr ha, nI_clamp (by omega), nI_1]
    refine ⟨0, 0, _, _, _, e1, e2, len + 1, fun j => if j = len then a else c j, size, mem, nf, nl, ⟨by omega, ?_, ?_, ?_, fun j hj => ?_⟩, hO.co ?_ ?_ (fun j => ?_) (fun j => ?_), hM.co (fun j => ?_) (fun j => ?_), hC.co (fun f => ?_) (fun f hf => ?_), hF.co (fun k i f hk => ?_), hL.co (fun k i f hk => ?_) (fun i f hf => ?_)⟩
    all_goals try (simp only [oa_up]; rw [if_neg (by omega), if_neg (by omega), if_neg (by omega), if_neg (by omega), if_neg (by omega)]; done)
    · simp [oa_up]
    · simp [oa_up, t3]
    · simp [oa_up]
    · by_cases hj2 : j = len
      · subst hj2
        simp [oa_up, ha]
      · simp [oa_up, hj2]
        exact t5 j (by omega)
  · have hl : len = 40 := by omega
    subst hl
    have e1 : FX4_type 0 (nI a) M = some (-1, M) := by
      unfold FX4_type FX3_add
      rw [t2, if_neg (show ¬ nI 40 < (40 : Int32) from by decide)]
      rfl
    have e2 : FX5_type 0 (nI a) M = some (-1, oa_up M 20 0 30 0) := by
      unfold FX5_type
      rw [t4, if_pos (show nI 40 = (40 : Int32) from rfl)]
    exact ⟨0, 0, _, _, _, e1, e2, hI.up (by unfold os_free; omega) _⟩
theorem os_S13 : oa_S13 os_I := by
  intro M hI
  obtain ⟨len, c, size, mem, nf, nl, hT, hO, hM, hC, hF, hL⟩ := id hI
  obtain ⟨c1, c2, c3, c4, c5, c6⟩ := hC
  refine ⟨0, 0, _, _, _, rfl, ?_, hI.up (k := 20) (i := 0) (f := 30) (by unfold os_free; omega) 0⟩
  unfold FX5_fault
  rw [c5]
theorem os_S11 : oa_S11 os_I := by
  intro M hI
  obtain ⟨len, c, size, mem, nf, nl, hT, hO, hM, hC, hF, hL⟩ := id hI
  obtain ⟨c1, c2, c3, c4, c5, c6⟩ := hC
  refine ⟨0, 0, M 0 0 6, oa_up M 0 0 6 0, oa_up (oa_up (oa_up M 0 0 6 0) 20 0 30 0) 20 0 17 0, rfl, ?_, len, c, size, mem, nf, 0, hT.co ?_ ?_ ?_ (fun j => ?_) (fun j => ?_), hO.co ?_ ?_ (fun j => ?_) (fun j => ?_), hM.co (fun j => ?_) (fun j => ?_), ⟨c1, by decide, ?_, ?_, ?_, ?_⟩, hF.co (fun k i f hk => ?_), fun k hk => absurd hk (Nat.not_lt_zero _)⟩
  all_goals try (simp only [oa_up]; rw [if_neg (by omega), if_neg (by omega), if_neg (by omega)]; done)
  · unfold FX5_erase
    rw [show (oa_up M 0 0 6 0) 20 0 17 = M 0 0 6 from by rw [os_up (by decide), c4.1, c4.2]]
  · simp [oa_up, c3]
  · simp [oa_up]; decide
  · simp [oa_up, c5]
  · simp [oa_up]; exact c6
theorem os_S14 : oa_S14 os_I := by
  intro x M hI
  obtain ⟨len, c, size, mem, nf, nl, hT, hO, hM, hC, hF, hL⟩ := id hI
  obtain ⟨c1, c2, c3, c4, c5, c6⟩ := hC
  have h30 : os_I (oa_up M 20 0 30 0) := hI.up (by unfold os_free; omega) _
  have go : ∀ r, FX4_count 0 x M = some (r, M) → FX5_count 0 x M = some (r, oa_up M 20 0 30 0) → ∃ (n n' : Nat) (r : Int32) (M1 M2 : oa_M), FX4_count n x M = some (r, M1) ∧ FX5_count n' x M1 = some (r, M2) ∧ os_I M2 := fun r h1 h2 => ⟨0, 0, r, M, _, h1, h2, h30⟩
  by_cases h0 : x = 0
  · subst h0
    exact go (M 0 0 5) rfl (by unfold FX5_count BX5_count_61; rw [if_pos rfl, c3.1, c3.2])
  by_cases h1 : x = 1
  · subst h1
    exact go (M 0 0 6) rfl (by unfold FX5_count BX5_count_61; rw [if_neg (by decide), if_pos rfl, c4.1, c4.2])
  by_cases h2 : x = 2
  · subst h2
    rcases c6.2 with q | q
    · exact go 0 (by unfold FX4_count BX4_count_54; rw [if_neg (by decide), if_neg (by decide), if_pos rfl, c6.1, q]; rfl) (by unfold FX5_count BX5_count_61; rw [if_neg (by decide), if_neg (by decide), if_pos rfl, q]; rfl)
    · exact go 1 (by unfold FX4_count BX4_count_54; rw [if_neg (by decide), if_neg (by decide), if_pos rfl, c6.1, q]; rfl) (by unfold FX5_count BX5_count_61; rw [if_neg (by decide), if_neg (by decide), if_pos rfl, q]; rfl)
  by_cases h3 : x = 3
  · subst h3
    exact go (M 1 0 1) rfl (by unfold FX5_count BX5_count_61; rw [if_neg (by decide), if_neg (by decide), if_neg (by decide), if_pos rfl, hT.2.1, hT.2.2.2.1])
  · exact go (-1) (by unfold FX4_count; rw [if_neg h0, if_neg h1, if_neg h2, if_neg h3]) (by unfold FX5_count BX5_count_61; rw [if_neg h0, if_neg h1, if_neg h2, if_neg h3])
/-- an address: within the memory, or not -/
theorem os_addr (x : Int32) : (∃ a, a < 64 ∧ x = nI a) ∨ (x < 0 ∨ ¬ x < (64 : Int32)) := by
  by_cases h : x < 0
  · exact Or.inr (Or.inl h)
  by_cases h2 : x < (64 : Int32)
  · obtain ⟨j, hj, e⟩ := nI_of h
    subst e
    exact Or.inl ⟨j, by rw [show (64 : Int32) = nI 64 from rfl, nI_ltI hj (by decide)] at h2; exact h2, rfl⟩
  · exact Or.inr (Or.inr h2)
theorem os_out63 (n : Nat) {a : Nat} (h : a < 64) (M : oa_M) : FX5_outside n (nI a) 0 63 M = some (0, M) := by
  unfold FX5_outside BX5_outside_15
  rw [if_neg (nI_pos (by omega)), if_pos (show nI a ≤ (63 : Int32) from nI_le (b := 63) (by omega) (by decide))]
  rfl
theorem os_out63n (n : Nat) {x : Int32} (h : x < 0 ∨ ¬ x < (64 : Int32)) (M : oa_M) : FX5_outside n x 0 63 M = some (1, M) := by
  unfold FX5_outside BX5_outside_10 BX5_outside_15
  rcases h with h | h
  · rw [if_pos h]; rfl
  · by_cases h0 : x < 0
    · rw [if_pos h0]; rfl
    · rw [if_neg h0, if_neg (fun q => h (by
        rw [Int32.lt_iff_toInt_lt]
        rw [Int32.le_iff_toInt_le] at q
        exact Int.lt_of_le_of_lt q (by decide)))]
      rfl
theorem os_ra (n : Nat) {a : Nat} (h : a < 64) (M : oa_M) : FX4_requireAddress n (nI a) M = some (0, M) := by
  unfold FX4_requireAddress
  rw [if_neg (nI_pos (by omega)), if_pos (show nI a < (64 : Int32) from nI_lt h (by decide))]
theorem os_ran (n : Nat) {x : Int32} (h : x < 0 ∨ ¬ x < (64 : Int32)) (M : oa_M) : FX4_requireAddress n x M = some (3, M) := by
  unfold FX4_requireAddress BX4_requireAddress_10
  by_cases h0 : x < 0
  · rw [if_pos h0]
  · rw [if_neg h0, if_neg (h.resolve_left h0)]
theorem os_and255 (x : Int32) : ∃ a, a < 256 ∧ x &&& (255 : Int32) = nI a := by
  refine ⟨x.toBitVec.toNat &&& 255, ?_, ?_⟩
  · rw [show x.toBitVec.toNat &&& 255 = x.toBitVec.toNat % 2 ^ 8 from Nat.and_two_pow_sub_one_eq_mod _ 8]
    exact Nat.mod_lt _ (by decide)
  · refine on_inj ?_
    apply BitVec.eq_of_toNat_eq
    have h1 : x.toBitVec.toNat &&& 255 < 2 ^ 32 := by
      rw [show x.toBitVec.toNat &&& 255 = x.toBitVec.toNat % 2 ^ 8 from Nat.and_two_pow_sub_one_eq_mod _ 8]
      exact Nat.lt_trans (Nat.mod_lt _ (by decide)) (by decide)
    rw [Int32.toBitVec_and, BitVec.toNat_and, on_bv, BitVec.toNat_ofNat, Nat.mod_eq_of_lt h1]
    rfl
theorem os_S5 : oa_S5 os_I := by
  intro x M hI
  obtain ⟨len, c, size, mem, nf, nl, hT, hO, hM, hC, hF, hL⟩ := id hI
  rcases os_addr x with ⟨a, ha, rfl⟩ | h
  · obtain ⟨m1, m2, m3⟩ := hM a ha
    refine ⟨0, 0, 0, oa_up M 50 0 0 (nI (mem a)), nI (mem a), oa_up (oa_up M 50 0 0 (nI (mem a))) 20 0 30 0, ?_, ?_, rfl, fun _ => rfl, (hI.up (by unfold os_free; omega) _).up (by unfold os_free; omega) _⟩
    · unfold FL_peek FX4_peek
      rw [os_ra 0 ha, ob_x0, if_pos (on_in ha (by decide)), nI_clamp (by omega), m1]
      rfl
    · unfold FX5_peek BX5_peek_16 BX5_peek_36
      rw [os_out63 0 ha, ob_d, if_pos rfl, if_pos rfl, if_pos (on_in ha (by decide)), nI_clamp (by omega), os_up (by omega), m2]
  · refine ⟨0, 0, 1, M, 0, oa_up M 20 0 30 1, ?_, ?_, rfl, fun h => absurd h (by decide), hI.up (by unfold os_free; omega) _⟩
    · unfold FL_peek FX4_peek
      rw [os_ran 0 h]
      rfl
    · unfold FX5_peek BX5_peek_16 BX5_peek_36
      rw [os_out63n 0 h]
      rfl
theorem os_S4 : oa_S4 os_I := by
  intro x y M hI
  obtain ⟨len, c, size, mem, nf, nl, hT, hO, hM, hC, hF, hL⟩ := id hI
  rcases os_addr x with ⟨a, ha, rfl⟩ | h
  · obtain ⟨m1, m2, m3⟩ := hM a ha
    obtain ⟨v, hv, ev⟩ := os_and255 y
    refine ⟨0, 0, 0, oa_up (oa_up M 3 0 a (nI v)) 50 0 0 (nI (mem a)), nI (mem a), oa_up (oa_up (oa_up (oa_up M 3 0 a (nI v)) 50 0 0 (nI (mem a))) 20 0 30 0) 36 0 a (nI v), ?_, ?_, ?_, fun _ => ?_, ?_⟩
    · unfold FL_poke FX4_poke
      rw [os_ra 0 ha, ob_x0, if_pos (on_in ha (by decide)), if_pos (on_in ha (by decide)), nI_clamp (by omega), m1, ev]
      rfl
    · unfold FX5_poke BX5_poke_16
      rw [os_out63 0 ha, ob_d, if_pos rfl, if_pos rfl, if_pos (on_in ha (by decide)), if_pos (on_in ha (by decide)), nI_clamp (by omega), os_up (by omega), os_up (by omega), m2, ev]
    · simp [oa_up]
    · simp [oa_up]
    · refine ⟨len, c, size, fun j => if j = a then v else mem j, nf, nl, hT.co ?_ ?_ ?_ (fun j => ?_) (fun j => ?_), hO.co ?_ ?_ (fun j => ?_) (fun j => ?_), fun j hj => ?_, hC.co (fun f => ?_) (fun f hf => ?_), hF.co (fun k i f hk => ?_), hL.co (fun k i f hk => ?_) (fun i f hf => ?_)⟩
      all_goals try (simp only [oa_up]; rw [if_neg (by omega), if_neg (by omega), if_neg (by omega), if_neg (by omega)]; done)
      by_cases hj2 : j = a
      · subst hj2
        simp [oa_up, hv]
      · simp [oa_up, hj2]
        exact hM j hj
  · refine ⟨0, 0, 1, M, 0, oa_up M 20 0 30 1, ?_, ?_, rfl, fun h => absurd h (by decide), hI.up (by unfold os_free; omega) _⟩
    · unfold FL_poke FX4_poke
      rw [os_ran 0 h]
      rfl
    · unfold FX5_poke BX5_poke_16
      rw [os_out63n 0 h]
      rfl
theorem os_S9 : oa_S9 os_I := by
  intro x M hI
  obtain ⟨len, c, size, mem, nf, nl, hT, hO, hM, hC, hF, hL⟩ := id hI
  obtain ⟨o1, o2, o3, o4⟩ := hO
  have h30 : os_I (oa_up M 20 0 30 0) := hI.up (by unfold os_free; omega) _
  by_cases h0 : x < 0
  · refine ⟨0, 0, 0, M, _, ?_, ?_, h30⟩
    · unfold FX4_written FX3_at
      rw [if_pos h0]
      rfl
    · unfold FX5_written
      rw [if_pos h0]
      rfl
  · obtain ⟨j, hj, rfl⟩ := nI_of h0
    by_cases h1 : j < size
    · obtain ⟨a, ha, e1, e2⟩ := o4 j h1
      refine ⟨0, 0, nI a, M, _, ?_, ?_, h30⟩
      · unfold FX4_written FX3_at BX3_at_22
        rw [if_neg h0, o2, if_neg (nI_ge h1 (by omega)), if_pos (on_in (show j < 40 by omega) (by decide)), nI_clamp hj, e1, on_nc ha, ob_d, on_nc ha]
      · unfold FX5_written BX5_written_27
        rw [if_neg h0, o3, if_pos (nI_lt h1 (by omega)), if_pos (on_in (show j < 40 by omega) (by decide)), nI_clamp hj, e2, on_nc ha]
    · refine ⟨0, 0, 0, M, _, ?_, ?_, h30⟩
      · unfold FX4_written FX3_at
        rw [if_neg h0, o2, if_pos (nI_le (by omega) hj)]
        rfl
      · unfold FX5_written
        rw [if_neg h0, o3, if_neg (nI_nlt (by omega) hj)]
        rfl

/-! form: the call -/
theorem os_Txt.tx {M : oa_M} {len : Nat} {c : Nat → Nat} (h : os_Txt M len c) : os_tx M len c 0 := ⟨h.1, by decide, h.2.1, h.2.2.1, fun j hj => ⟨(h.2.2.2.2 j hj).1, (h.2.2.2.2 j hj).2.2⟩⟩
theorem os_okw_oc {w0 w1 w2 : Nat} (h : os_okw w0 w1 w2 = true) : ∀ o, o < os_ocn w0 w1 w2 → 1 ≤ (if o = 0 then w0 else if o = 1 then w1 else w2) ∧ (if o = 0 then w0 else if o = 1 then w1 else w2) ≤ 16 := by
  unfold os_okw at h
  simp at h
  intro o ho
  unfold os_ocn at ho
  rcases (show o = 0 ∨ o = 1 ∨ o = 2 by split at ho <;> (try split at ho) <;> (try split at ho) <;> omega) with rfl | rfl | rfl
  · simp
    split at ho <;> (try split at ho) <;> (try split at ho) <;> omega
  · simp
    split at ho <;> (try split at ho) <;> (try split at ho) <;> omega
  · simp
    split at ho <;> (try split at ho) <;> (try split at ho) <;> omega
theorem os_le0 {w : Nat} (h : w < 2 ^ 31) : nI w ≤ 0 ↔ w = 0 := by
  rw [show (0 : Int32) = nI 0 from rfl, nI_leI h (by decide)]
  omega
theorem os_mFo {M : oa_M} {a k i f : Nat} (h1 : ¬ (k = 5 ∧ (i = a ∨ i = 12))) (h2 : ¬ (k = 7 ∧ (3 * a ≤ i ∧ i < 3 * a + 3 ∨ 36 ≤ i ∧ i < 39))) (h3 : ¬ (k = 9 ∧ f = 6)) : oa_mF M a 12 k i f = M k i f := by
  by_cases h5 : k = 5
  · subst h5
    show M 5 (oa_sw a 12 i) f = _
    rw [oa_sw_o (by omega) (by omega)]
  by_cases h7 : k = 7
  · subst h7
    show M 7 (3 * oa_sw a 12 (i / 3) + i % 3) f = _
    rw [oa_sw_o (by omega) (by omega), show 3 * (i / 3) + i % 3 = i by omega]
  by_cases h9 : k = 9
  · subst h9
    show (if f = 6 then _ else M 9 i f) = _
    rw [if_neg (by omega)]
  unfold oa_mF
  split
  · exact absurd rfl h5
  · exact absurd rfl h7
  · exact absurd rfl h9
  · rfl
theorem os_mF5 (M : oa_M) (a b f : Nat) : oa_mF M a b 5 a f = M 5 b f := by
  show M 5 (oa_sw a b a) f = _
  rw [oa_sw_a]
theorem os_mF7 (M : oa_M) (a b f : Nat) {o : Nat} (ho : o < 3) : oa_mF M a b 7 (3 * a + o) f = M 7 (3 * b + o) f := by
  show M 7 (3 * oa_sw a b ((3 * a + o) / 3) + (3 * a + o) % 3) f = _
  rw [show (3 * a + o) / 3 = a by omega, show (3 * a + o) % 3 = o by omega, oa_sw_a]
theorem os_mF7' (M : oa_M) (a b f : Nat) {o : Nat} (ho : o < 3) : oa_mF M a b 7 (3 * b + o) f = M 7 (3 * a + o) f := by
  show M 7 (3 * oa_sw a b ((3 * b + o) / 3) + (3 * b + o) % 3) f = _
  rw [show (3 * b + o) / 3 = b by omega, show (3 * b + o) % 3 = o by omega, oa_sw_b]
/-- behind a refused form -/
theorem os_failI {M M3 M8 : oa_M} {nf nl len size : Nat} {c mem : Nat → Nat} {z : Int32} (hT : os_Txt M len c) (hO : os_Out M size) (hM : os_Mem M mem) (hC : os_Cn M nf nl) (hF : os_Fs M nf) (hL : os_Ls M nl) (h5 : os_k5 12 M M3) (h8 : os_k3 (oa_up (oa_up (oa_up (oa_up M3 1 0 1 0) 1 0 2 0) 20 0 2 0) 20 0 3 0) M8) : os_I (oa_up (oa_up M8 20 0 0 0) 20 0 30 z) := by
  have hn12 := hC.1
  have e8 : ∀ k i f, ¬ (k = 20 ∧ (f = 2 ∨ f = 3)) → ¬ k = 34 → ¬ k = 35 → ¬ (k = 1 ∧ i = 0 ∧ (f = 1 ∨ f = 2)) → M8 k i f = M3 k i f := fun k i f a b c d => by rw [h8 k i f a b c, os_up (by omega), os_up (by omega), os_up (by omega), os_up (by omega)]
  have e : ∀ k i f, ¬ (k = 20 ∧ (f = 0 ∨ f = 2 ∨ f = 3 ∨ f = 30)) → ¬ k = 34 → ¬ k = 35 → ¬ (k = 1 ∧ i = 0 ∧ (f = 1 ∨ f = 2)) → ¬ (k = 5 ∧ i = 12) → ¬ (k = 7 ∧ f < 2 ∧ 3 * 12 ≤ i ∧ i < 3 * 12 + 3) → (oa_up (oa_up M8 20 0 0 0) 20 0 30 z) k i f = M k i f := fun k i f a b c d e g => by rw [os_up (by omega), os_up (by omega), e8 k i f (by omega) b c d, h5 k i f (by omega) e g]
  refine ⟨0, c, size, mem, nf, nl, ⟨by decide, ?_, ?_, ?_, fun j hj => absurd hj (Nat.not_lt_zero _)⟩, hO.co ?_ ?_ (fun j => ?_) (fun j => ?_), hM.co (fun j => ?_) (fun j => ?_), hC.co (fun f => ?_) (fun f hf => ?_), ⟨fun i hi => ?_, fun i h1 h2 o ho => ?_⟩, hL.co (fun k i f hk => ?_) (fun i f hf => ?_)⟩
  all_goals try exact e _ _ _ (by omega) (by omega) (by omega) (by omega) (by omega) (by omega)
  · rw [os_up (by omega), os_up (by omega), h8 _ _ _ (by omega) (by omega) (by omega), os_up (by decide), os_up (by decide), os_up (by decide), os_up1]; rfl
  · rw [os_up (by omega), os_up (by omega), h8 _ _ _ (by omega) (by omega) (by omega), os_up (by decide), os_up (by decide), os_up1]
  · rw [os_up (by omega), os_up1]; rfl
  · obtain ⟨⟨bt, sg, L, oc, hFi⟩, hOp⟩ := hF.1 i hi
    refine ⟨⟨bt, sg, L, oc, hFi.co (fun f => ?_) (fun o f _ _ => ?_) ?_ ?_ (fun k _ => ?_) ?_ (fun o _ => ?_)⟩, fun o ho => (hOp o ho).co (fun f => ?_) ?_ ?_ ?_⟩
    all_goals exact e _ _ _ (by omega) (by omega) (by omega) (by omega) (by omega) (by omega)
  · rw [e _ _ _ (by omega) (by omega) (by omega) (by omega) (by omega) (by omega), e _ _ _ (by omega) (by omega) (by omega) (by omega) (by omega) (by omega), e _ _ _ (by omega) (by omega) (by omega) (by omega) (by omega) (by omega)]
    exact hF.2 i h1 h2 o ho
set_option maxHeartbeats 2000000 in
theorem os_S1 : oa_S1 os_I := by
  intro M hI
  obtain ⟨len, c, size, mem, nf, nl, hT, hO, hM, hC, hF, hL⟩ := id hI
  obtain ⟨c1, c2, c3, c4, c5, c6⟩ := id hC
  obtain ⟨M3, a1, a2, a3⟩ := os_creadForm (i := 12) hT.tx
  obtain ⟨M6, hM6⟩ : ∃ M6 : oa_M, M6 = oa_up (oa_up M3 1 0 1 0) 1 0 2 0 := ⟨_, rfl⟩
  have f6 : ∀ k i f, ¬ (k = 1 ∧ i = 0 ∧ (f = 1 ∨ f = 2)) → M6 k i f = M3 k i f := fun k i f h => by rw [hM6, os_up (by omega), os_up (by omega)]
  have f6M : ∀ k i f, ¬ (k = 1 ∧ i = 0 ∧ (f = 1 ∨ f = 2)) → ¬ (k = 5 ∧ i = 12) → ¬ (k = 7 ∧ f < 2 ∧ 3 * 12 ≤ i ∧ i < 3 * 12 + 3) → M6 k i f = M k i f := fun k i f h h2 h3 => by rw [f6 k i f h, a2 k i f (by omega) h2 h3]
  have ecl : FX4_form 100 M = (if os_i (os_told c len) = 0 then (some (1, 0, M6)) else (if (M6 0 0 5) < (12 : Int32) then (oa_bd (FX4_findForm 100 (M6 5 12 1) (M6 5 12 5) M6) (fun r10 M11 => (if r10 = (-1 : Int32) then (if oa_in (M11 0 0 5) 13 = true then (some (0, (((M11 0 0 5) + (1 : Int32)) - (1 : Int32)), (oa_up (oa_up (oa_mF M11 ((M11 0 0 5).toNatClampNeg) 12) 0 0 5 ((M11 0 0 5) + (1 : Int32))) 0 0 8 (0 : Int32)))) else none) else (some (2, 0, M11))))) else (some (2, 0, M6)))) := by
    unfold FX4_form
    rw [if_pos (show oa_in (12 : Int32) 13 = true by decide), show (12 : Int32).toNatClampNeg = 12 from rfl, a1, ob_d]
    unfold FX3_clear
    rw [ob_v, hM6]
  -- the model, from any memory that the class left
  have mdl : ∀ M1 : oa_M, (∀ k i f, k = 21 ∨ (k = 20 ∧ f = 0) → M1 k i f = M k i f) → ∃ (m : Nat) (M8 : oa_M) (z : Int32), os_k3 (oa_up (oa_up M1 20 0 2 0) 20 0 3 0) M8 ∧ M8 20 0 3 = os_i (!os_told c len) ∧ (os_told c len = true → m = os_S c len ∧ os_ns M8 (os_sg c len) (os_S c len) ∧ z = nI (os_ocn (os_wd (os_sg c len) 0 (os_S c len)) (os_wd (os_sg c len) 1 (os_S c len)) (os_wd (os_sg c len) 2 (os_S c len)))) ∧ FX5_form 200 M1 = BX5_form_71 200 (nI (os_mnm (os_ls c len 4 0))) (nI m) z (oa_up M8 20 0 0 0) := fun M1 h1 => by
    have hx : os_mx (oa_up (oa_up M1 20 0 2 0) 20 0 3 0) len c 0 := ⟨hT.1, by decide, by rw [os_up (by decide), os_up (by decide), h1 _ _ _ (Or.inr ⟨rfl, rfl⟩)]; exact hT.2.2.2.1, by rw [os_up (by decide), os_up1]; rfl, fun j hj => by rw [os_up (by omega), os_up (by omega), h1 _ _ _ (Or.inl rfl)]; exact ⟨(hT.2.2.2.2 j hj).2.1, (hT.2.2.2.2 j hj).2.2⟩⟩
    obtain ⟨m, N1, N2, M8, b1, b2, b3, b4, b5, b6⟩ := os_mreadForm hx os_up1
    have i0 : oa_in (0 : Int32) 3 = true := by decide
    have i1 : oa_in (1 : Int32) 3 = true := by decide
    have i2 : oa_in (2 : Int32) 3 = true := by decide
    have d0 : (0 : Int32).toNatClampNeg = 0 := rfl
    have d1 : (1 : Int32).toNatClampNeg = 1 := rfl
    have d2 : (2 : Int32).toNatClampNeg = 2 := rfl
    have e0 : FX5_form 200 M1 = (if (M8 35 0 2) ≤ 0 then (if (M8 35 0 1) ≤ 0 then (if (M8 35 0 0) ≤ 0 then (BX5_form_71 200 (nI (os_mnm (os_ls c len 4 0))) (nI m) (0 : Int32) (oa_up M8 20 0 0 (0 : Int32))) else (BX5_form_71 200 (nI (os_mnm (os_ls c len 4 0))) (nI m) (1 : Int32) (oa_up M8 20 0 0 (0 : Int32)))) else (BX5_form_71 200 (nI (os_mnm (os_ls c len 4 0))) (nI m) (2 : Int32) (oa_up M8 20 0 0 (0 : Int32)))) else (BX5_form_71 200 (nI (os_mnm (os_ls c len 4 0))) (nI m) (3 : Int32) (oa_up M8 20 0 0 (0 : Int32)))) := by
      unfold FX5_form
      rw [b1, ob_d, b2, ob_v, b3, ob_d, if_pos i2, if_pos i1, if_pos i0, d0, d1, d2]
    have hz : os_told c len = true → os_S c len ≤ 24 := fun ht => by
      unfold os_told at ht
      simp only [Bool.and_eq_true] at ht
      have := ht.2.1
      unfold os_sz8 at this
      simp at this
      omega
    have wl : os_told c len = true → ∀ o, os_wd (os_sg c len) o (os_S c len) < 2 ^ 31 := fun ht o => by
      have h1 := os_cnt_le (fun j => decide (os_sg c len j = 2 + o)) (os_S c len)
      have h2 := hz ht
      show os_cnt (fun j => decide (os_sg c len j = 2 + o)) (os_S c len) < 2 ^ 31
      omega
    have w35 : os_told c len = true → ∀ o, o < 3 → (M8 35 0 o ≤ 0 ↔ os_wd (os_sg c len) o (os_S c len) = 0) := fun ht o ho => by
      rw [(b6 ht).2.2 o ho]
      exact os_le0 (wl ht o)
    by_cases q2 : M8 35 0 2 ≤ 0
    · rw [if_pos q2] at e0
      by_cases q1 : M8 35 0 1 ≤ 0
      · rw [if_pos q1] at e0
        by_cases q0 : M8 35 0 0 ≤ 0
        · rw [if_pos q0] at e0
          refine ⟨m, M8, _, b4, b5, fun ht => ⟨(b6 ht).1, (b6 ht).2, ?_⟩, e0⟩
          have u2 := (w35 ht 2 (by decide)).mp q2
          have u1 := (w35 ht 1 (by decide)).mp q1
          have u0 := (w35 ht 0 (by decide)).mp q0
          rw [u0, u1, u2]
          rfl
        · rw [if_neg q0] at e0
          refine ⟨m, M8, _, b4, b5, fun ht => ⟨(b6 ht).1, (b6 ht).2, ?_⟩, e0⟩
          have u2 := (w35 ht 2 (by decide)).mp q2
          have u1 := (w35 ht 1 (by decide)).mp q1
          have u0 : ¬ os_wd (os_sg c len) 0 (os_S c len) = 0 := fun h => q0 ((w35 ht 0 (by decide)).mpr h)
          unfold os_ocn
          rw [if_neg (by omega), if_neg (by omega), if_pos (by omega)]
          rfl
      · rw [if_neg q1] at e0
        refine ⟨m, M8, _, b4, b5, fun ht => ⟨(b6 ht).1, (b6 ht).2, ?_⟩, e0⟩
        have u2 := (w35 ht 2 (by decide)).mp q2
        have u1 : ¬ os_wd (os_sg c len) 1 (os_S c len) = 0 := fun h => q1 ((w35 ht 1 (by decide)).mpr h)
        unfold os_ocn
        rw [if_neg (by omega), if_pos (by omega)]
        rfl
    · rw [if_neg q2] at e0
      refine ⟨m, M8, _, b4, b5, fun ht => ⟨(b6 ht).1, (b6 ht).2, ?_⟩, e0⟩
      have u2 : ¬ os_wd (os_sg c len) 2 (os_S c len) = 0 := fun h => q2 ((w35 ht 2 (by decide)).mpr h)
      unfold os_ocn
      rw [if_pos (by omega)]
      rfl
  -- refused: with z
  have fail : ∀ (kc : Nat) (k : Int32), (kc = 1 ∧ k = 1 ∨ kc = 2 ∧ k = 2) → FX4_form 100 M = some (kc, 0, M6) → (∀ (m : Nat) (M8 : oa_M) (z : Int32), os_k3 (oa_up (oa_up M6 20 0 2 0) 20 0 3 0) M8 → M8 20 0 3 = os_i (!os_told c len) → (os_told c len = true → m = os_S c len ∧ os_ns M8 (os_sg c len) (os_S c len) ∧ z = nI (os_ocn (os_wd (os_sg c len) 0 (os_S c len)) (os_wd (os_sg c len) 1 (os_S c len)) (os_wd (os_sg c len) 2 (os_S c len)))) → BX5_form_71 200 (nI (os_mnm (os_ls c len 4 0))) (nI m) z (oa_up M8 20 0 0 0) = some (0, oa_up (oa_up M8 20 0 0 0) 20 0 30 k)) → ∃ (n n' : Nat) (k : Int32) (M1 : oa_M) (b : Int32) (M2 : oa_M), FL_form n M = some (k, M1) ∧ FX5_form n' M1 = some (b, M2) ∧ M2 20 0 30 = k ∧ (k = 0 → M2 50 0 0 = b) ∧ os_I M2 := fun kc k hk h1 h2 => by
    obtain ⟨m, M8, z, b1, b2, b3, b4⟩ := mdl M6 (fun k i f h => f6M k i f (by omega) (by omega) (by omega))
    refine ⟨100, 200, k, M6, 0, _, ?_, by rw [b4, h2 m M8 z b1 b2 b3], os_up1, fun h => ?_, os_failI hT hO hM hC hF hL a2 (by rw [← hM6]; exact b1)⟩
    · unfold FL_form
      rw [h1]
      rcases hk with ⟨rfl, rfl⟩ | ⟨rfl, rfl⟩ <;> rfl
    · rcases hk with ⟨-, rfl⟩ | ⟨-, rfl⟩ <;> exact absurd h (by decide)
  have e107 : ∀ (x1 x2 x3 z : Int32) (M9 : oa_M), z ≠ 0 → BX5_form_107 200 x1 x2 x3 z M9 = some (0, oa_up M9 20 0 30 z) := fun x1 x2 x3 z M9 hz => by
    unfold BX5_form_107
    rw [if_neg hz]
  rcases (Bool.eq_false_or_eq_true (os_told c len)).symm with ht | ht
  · refine fail 1 1 (Or.inl ⟨rfl, rfl⟩) (by rw [ecl, ht, if_pos (by rfl)]) (fun m M8 z b1 b2 b3 => ?_)
    unfold BX5_form_71
    rw [os_up (by decide), b2, ht, if_neg (by decide), e107 _ _ _ _ _ (by decide)]
  rw [ht, if_neg (by decide), f6M 0 0 5 (by omega) (by omega) (by omega), c3.1] at ecl
  have hSpecs := ht
  unfold os_told at hSpecs
  simp only [Bool.and_eq_true] at hSpecs
  obtain ⟨hpre, hsz, hvd, hokw⟩ := hSpecs
  unfold os_pre at hpre
  simp only [Bool.and_eq_true, decide_eq_true_eq] at hpre
  have hA : os_ls c len 4 0 = os_A c len := by rw [os_ls_take c len 4 41 0 (by decide)]; exact List.take_of_length_le hpre.1.2
  have hAn : os_nm (os_A c len) := os_A_nm hpre.1.2
  have hS24 : os_S c len ≤ 24 ∧ os_S c len % 8 = 0 ∧ 8 ≤ os_S c len := by unfold os_sz8 at hsz; simp at hsz; omega
  obtain ⟨r1, r2, r3, r4⟩ := a3 ht
  have hoc3 : os_ocn (os_wd (os_sg c len) 0 (os_S c len)) (os_wd (os_sg c len) 1 (os_S c len)) (os_wd (os_sg c len) 2 (os_S c len)) ≤ 3 := by unfold os_ocn; split <;> (try split) <;> (try split) <;> omega
  rw [f6 5 12 1 (by omega), f6 5 12 5 (by omega), r1, r4] at ecl
  have howd := os_okw_oc hokw
  generalize hocg : os_ocn (os_wd (os_sg c len) 0 (os_S c len)) (os_wd (os_sg c len) 1 (os_S c len)) (os_wd (os_sg c len) 2 (os_S c len)) = oc at *
  rcases (Decidable.em (nf < 12)).symm with h12 | h12
  · have : nf = 12 := by omega
    refine fail 2 2 (Or.inr ⟨rfl, rfl⟩) (by rw [ecl, if_neg (show ¬ nI nf < (12 : Int32) from nI_nlt (b := 12) (by omega) (by omega))]) (fun m M8 z b1 b2 b3 => ?_)
    unfold BX5_form_71 BX5_form_102
    rw [os_up (by decide), b2, ht, if_pos (by rfl), os_up (by decide), b1 _ _ _ (by omega) (by omega) (by omega), os_up (by decide), os_up (by decide), f6M _ _ _ (by omega) (by omega) (by omega), c3.2, this, if_pos (by rfl), e107 _ _ _ _ _ (by decide)]
  rw [if_pos (show nI nf < (12 : Int32) from nI_lt (b := 12) h12 (by decide))] at ecl
  obtain ⟨bt, sg, L, ocs, hp⟩ := hF.pick
  have cf := os_cfl (M := M6) (by rw [f6M _ _ _ (by omega) (by omega) (by omega)]; exact c3.1) c1 (L := L) (oc := ocs) (fun i hi => ⟨(hp i hi).2.2.1.1, (hp i hi).2.2.2.1, by rw [f6M _ _ _ (by omega) (by omega) (by omega)]; exact (hp i hi).2.2.2.2.1.1, by rw [f6M _ _ _ (by omega) (by omega) (by omega)]; exact (hp i hi).2.2.2.2.2.2.2.2.1.1⟩) hAn hoc3 nf 0 100 (by omega) (by omega)
  rw [show FX4_findForm 100 (nI (os_cnm (os_A c len))) (nI oc) M6 = _ from cf, ob_d] at ecl
  have mf : ∀ M9 : oa_M, (∀ k i f, k = 25 ∨ k = 28 ∨ (k = 20 ∧ f = 4) → M9 k i f = M k i f) → FX5_formOf 200 (nI (os_mnm (os_A c len))) (nI oc) M9 = some (os_bi (os_fnd (fun i => decide (L i = os_A c len) && decide (ocs i = oc)) nf 0), M9) := fun M9 h9 => os_mfl (M := M9) (by rw [h9 _ _ _ (by omega)]; exact c3.2) c1 (L := L) (oc := ocs) (fun i hi => ⟨(hp i hi).2.2.1.1, (hp i hi).2.2.2.1, by rw [h9 _ _ _ (by omega)]; exact (hp i hi).2.2.2.2.1.2, by rw [h9 _ _ _ (by omega)]; exact (hp i hi).2.2.2.2.2.2.2.2.1.2⟩) hAn hoc3 nf 0 200 (by omega) (by omega)
  cases hfd : os_fnd (fun i => decide (L i = os_A c len) && decide (ocs i = oc)) nf 0 with
  | some b =>
    have hb := (os_fnd_lt _ _ _ _ hfd).2.1
    rw [hfd, if_neg (show ¬ os_bi (some b) = (-1 : Int32) from on_ltm1 (by omega))] at ecl
    refine fail 2 2 (Or.inr ⟨rfl, rfl⟩) ecl (fun m M8 z b1 b2 b3 => ?_)
    obtain ⟨g1, g2, g3⟩ := b3 ht
    unfold BX5_form_71 BX5_form_102
    have n12 : ¬ (oa_up M8 20 0 0 0) 20 0 4 = (12 : Int32) := by
      rw [os_up (by decide), b1 _ _ _ (by omega) (by omega) (by omega), os_up (by decide), os_up (by decide), f6M _ _ _ (by omega) (by omega) (by omega), c3.2]
      exact fun q => by have := (nI_eq (b := 12) (by omega) (by decide)).mp q; omega
    rw [os_up (by decide), b2, ht, if_pos (by rfl), if_neg n12, hA, g3, mf _ (fun k i f hk => by rw [os_up (by omega), b1 _ _ _ (by omega) (by omega) (by omega), os_up (by omega), os_up (by omega), f6M _ _ _ (by omega) (by omega) (by omega)]), ob_d, hfd, if_neg (show ¬ os_bi (some b) < 0 from nI_pos (by omega)), e107 _ _ _ _ _ (by decide)]
  | none =>
    rw [hfd, if_pos (show os_bi none = (-1 : Int32) from rfl), f6M 0 0 5 (by omega) (by omega) (by omega), c3.1, if_pos (on_in (show nf < 13 by omega) (by decide)), nI_clamp (by omega), nI_1, show nI (nf + 1) - (1 : Int32) = nI nf from nI_pred nf] at ecl
    obtain ⟨Ms, hMs⟩ : ∃ Ms : oa_M, Ms = oa_mF M6 nf 12 := ⟨_, rfl⟩
    rw [← hMs] at ecl
    have fs : ∀ k i f, ¬ (k = 5 ∧ (i = nf ∨ i = 12)) → ¬ (k = 7 ∧ (3 * nf ≤ i ∧ i < 3 * nf + 3 ∨ 36 ≤ i ∧ i < 39)) → ¬ (k = 9 ∧ f = 6) → Ms k i f = M6 k i f := fun k i f h1 h2 h3 => by rw [hMs]; exact os_mFo h1 h2 h3
    have s5 : ∀ f, Ms 5 nf f = M6 5 12 f := fun f => by rw [hMs]; exact os_mF5 M6 nf 12 f
    have s7 : ∀ o f, o < 3 → Ms 7 (3 * nf + o) f = M6 7 (3 * 12 + o) f := fun o f ho => by rw [hMs]; exact os_mF7 M6 nf 12 f ho
    have s7' : ∀ o f, o < 3 → Ms 7 (3 * 12 + o) f = M6 7 (3 * nf + o) f := fun o f ho => by rw [hMs]; exact os_mF7' M6 nf 12 f ho
    obtain ⟨M1, hM1⟩ : ∃ M1 : oa_M, M1 = oa_up (oa_up (oa_up Ms 0 0 5 (nI (nf + 1))) 0 0 8 0) 50 0 0 (nI nf) := ⟨_, rfl⟩
    have f1 : ∀ k i f, ¬ (k = 50 ∧ i = 0 ∧ f = 0) → ¬ (k = 0 ∧ (f = 5 ∨ f = 8)) → M1 k i f = Ms k i f := fun k i f h h2 => by rw [hM1, os_up (by omega), os_up (by omega), os_up (by omega)]
    obtain ⟨m, M8, z, b1, b2, b3, b4⟩ := mdl M1 (fun k i f h => by rw [f1 _ _ _ (by omega) (by omega), fs _ _ _ (by omega) (by omega) (by omega)]; exact f6M k i f (by omega) (by omega) (by omega))
    obtain ⟨g1, g2, g3⟩ := b3 ht
    obtain ⟨M9, hM9⟩ : ∃ M9 : oa_M, M9 = oa_up M8 20 0 0 0 := ⟨_, rfl⟩
    have f9 : ∀ k i f, ¬ (k = 20 ∧ (f = 0 ∨ f = 2 ∨ f = 3)) → ¬ k = 34 → ¬ k = 35 → M9 k i f = M1 k i f := fun k i f a b c => by rw [hM9, os_up (by omega), b1 k i f (by omega) b c, os_up (by omega), os_up (by omega)]
    have h94 : M9 20 0 4 = nI nf := by rw [f9 _ _ _ (by omega) (by omega) (by omega), f1 _ _ _ (by omega) (by omega), fs _ _ _ (by omega) (by omega) (by omega), f6M _ _ _ (by omega) (by omega) (by omega)]; exact c3.2
    rw [← hM9] at b4
    obtain ⟨My, hMy⟩ : ∃ My : oa_M, My = oa_up (oa_up (oa_up (oa_up M9 20 0 30 0) 25 0 nf (nI (os_mnm (os_A c len)))) 26 0 nf (nI (os_S c len))) 28 0 nf (nI oc) := ⟨_, rfl⟩
    have fy : ∀ k i f, ¬ (k = 20 ∧ f = 30) → ¬ ((k = 25 ∨ k = 26 ∨ k = 28) ∧ f = nf) → My k i f = M9 k i f := fun k i f a b => by rw [hMy, os_up (by omega), os_up (by omega), os_up (by omega), os_up (by omega)]
    obtain ⟨Mx, x1, x2, x3⟩ := os_mst1 (x1 := nI (os_mnm (os_A c len))) (x3 := nI oc) (sg := os_sg c len) h12 hS24.1 (os_S c len) 0 200 My (by omega) (by omega) (by rw [fy _ _ _ (by omega) (by omega)]; exact h94) (fun j hj => by rw [fy _ _ _ (by omega) (by omega), hM9, os_up (by omega)]; exact g2.1 j hj) (fun j hj => absurd hj (Nat.not_lt_zero _))
    obtain ⟨M2, y1, y2, y3, y4, y5⟩ := os_mst2 (200 - os_S c len - 5) (x1 := nI (os_mnm (os_A c len))) (x2 := nI (os_S c len)) (x3 := nI oc) h12 (w := fun o => os_wd (os_sg c len) o (os_S c len)) (M := Mx) (by rw [x3 _ _ _ (by omega), fy _ _ _ (by omega) (by omega)]; exact h94) (fun o ho => by rw [x3 _ _ _ (by omega), fy _ _ _ (by omega) (by omega), hM9, os_up (by omega)]; exact g2.2 o ho)
    have emo : FX5_form 200 M1 = some (nI nf, M2) := by
      rw [b4]
      unfold BX5_form_71
      rw [hM9, os_up (by decide), b2, ht, if_pos (by rfl), ← hM9, h94, if_neg (show ¬ nI nf = (12 : Int32) from fun q => by have := (nI_eq (b := 12) (by omega) (by decide)).mp q; omega), hA, g1, g3, mf M9 (fun k i f hk => by rw [f9 _ _ _ (by omega) (by omega) (by omega), f1 _ _ _ (by omega) (by omega), fs _ _ _ (by omega) (by omega) (by omega), f6M _ _ _ (by omega) (by omega) (by omega)]), ob_d, hfd, if_pos (show os_bi none < 0 from by decide)]
      unfold BX5_form_107
      rw [if_pos rfl, h94, if_pos (on_in h12 (by decide)), if_pos (on_in h12 (by decide)), if_pos (on_in h12 (by decide)), nI_clamp (by omega), ← hMy, show BX5_form_152 200 (nI (os_mnm (os_A c len))) (nI (os_S c len)) (nI oc) 0 My = _ from x1, show 200 - os_S c len - 1 = 200 - os_S c len - 5 + 1 + 1 + 1 + 1 by omega]
      exact y1
    have e : ∀ k i f, ¬ (k = 50 ∧ i = 0 ∧ f = 0) → ¬ (k = 0 ∧ (f = 5 ∨ f = 8)) → ¬ (k = 20 ∧ (f = 0 ∨ f = 2 ∨ f = 3 ∨ f = 4 ∨ f = 13 ∨ f = 30)) → ¬ k = 34 → ¬ k = 35 → ¬ ((k = 25 ∨ k = 26 ∨ k = 28) ∧ f = nf) → ¬ (k = 27 ∧ 24 * nf ≤ f ∧ f < 24 * nf + 24) → ¬ (29 ≤ k ∧ k ≤ 32 ∧ 3 * nf ≤ f ∧ f < 3 * nf + 3) → M2 k i f = Ms k i f := fun k i f p1 p2 p3 p4 p5 p6 p7 p8 => by rw [y5 k i f p8 (by omega), x3 k i f p7, fy k i f (by omega) p6, f9 k i f (by omega) p4 p5, f1 k i f p1 p2]
    have eM : ∀ k i f, ¬ (k = 50 ∧ i = 0 ∧ f = 0) → ¬ (k = 0 ∧ (f = 5 ∨ f = 8)) → ¬ (k = 20 ∧ (f = 0 ∨ f = 2 ∨ f = 3 ∨ f = 4 ∨ f = 13 ∨ f = 30)) → ¬ k = 34 → ¬ k = 35 → ¬ ((k = 25 ∨ k = 26 ∨ k = 28) ∧ f = nf) → ¬ (k = 27 ∧ 24 * nf ≤ f ∧ f < 24 * nf + 24) → ¬ (29 ≤ k ∧ k ≤ 32 ∧ 3 * nf ≤ f ∧ f < 3 * nf + 3) → ¬ (k = 1 ∧ i = 0 ∧ (f = 1 ∨ f = 2)) → ¬ (k = 5 ∧ (i = nf ∨ i = 12)) → ¬ (k = 7 ∧ (3 * nf ≤ i ∧ i < 3 * nf + 3 ∨ 36 ≤ i ∧ i < 39)) → ¬ (k = 9 ∧ f = 6) → M2 k i f = M k i f := fun k i f p1 p2 p3 p4 p5 p6 p7 p8 p9 p10 p11 p12 => by rw [e k i f p1 p2 p3 p4 p5 p6 p7 p8, fs k i f p10 p11 p12, f6M k i f p9 (by omega) (by omega)]
    have e5 : ∀ f, M2 5 nf f = M3 5 12 f := fun f => by rw [e 5 nf f (by omega) (by omega) (by omega) (by omega) (by omega) (by omega) (by omega) (by omega), s5, f6 _ _ _ (by omega)]
    have e7o : ∀ o f, o < 3 → M2 7 (3 * nf + o) f = M3 7 (3 * 12 + o) f := fun o f ho => by rw [e 7 _ f (by omega) (by omega) (by omega) (by omega) (by omega) (by omega) (by omega) (by omega), s7 o f ho, f6 _ _ _ (by omega)]
    have e7n : ∀ o f, o < 3 → 2 ≤ f → M2 7 (3 * 12 + o) f = M 7 (3 * nf + o) f := fun o f ho hf => by rw [e 7 _ f (by omega) (by omega) (by omega) (by omega) (by omega) (by omega) (by omega) (by omega), s7' o f ho, f6M _ _ _ (by omega) (by omega) (by omega)]
    refine ⟨100, 200, 0, M1, nI nf, M2, by unfold FL_form; rw [ecl, hM1]; rfl, emo, ?_, fun _ => ?_, ?_⟩
    · rw [y5 _ _ _ (by omega) (by omega), x3 _ _ _ (by omega), hMy, os_up (by omega), os_up (by omega), os_up (by omega), os_up1]
    · rw [y5 _ _ _ (by omega) (by omega), x3 _ _ _ (by omega), fy _ _ _ (by omega) (by omega), f9 _ _ _ (by omega) (by omega) (by omega), hM1, os_up1]
    refine ⟨0, c, size, mem, nf + 1, nl, ⟨by decide, ?_, ?_, ?_, fun j hj => absurd hj (Nat.not_lt_zero _)⟩, hO.co ?_ ?_ (fun j => ?_) (fun j => ?_), hM.co (fun j => ?_) (fun j => ?_), ⟨by omega, c2, ⟨?_, y3⟩, ⟨?_, ?_⟩, ?_, ?_, Or.inl y4⟩, ⟨fun i hi => ?_, fun i h1 h2 o ho => ?_⟩, hL.co (fun k i f hk => ?_) (fun i f hf => ?_)⟩
    all_goals try exact eM _ _ _ (by omega) (by omega) (by omega) (by omega) (by omega) (by omega) (by omega) (by omega) (by omega) (by omega) (by omega) (by omega)
    · rw [e _ _ _ (by omega) (by omega) (by omega) (by omega) (by omega) (by omega) (by omega) (by omega), fs _ _ _ (by omega) (by omega) (by omega), hM6, os_up (by decide), os_up1]; rfl
    · rw [e _ _ _ (by omega) (by omega) (by omega) (by omega) (by omega) (by omega) (by omega) (by omega), fs _ _ _ (by omega) (by omega) (by omega), hM6, os_up1]
    · rw [y5 _ _ _ (by omega) (by omega), x3 _ _ _ (by omega), fy _ _ _ (by omega) (by omega), hM9, os_up1]; rfl
    · rw [y5 _ _ _ (by omega) (by omega), x3 _ _ _ (by omega), fy _ _ _ (by omega) (by omega), f9 _ _ _ (by omega) (by omega) (by omega), hM1, os_up (by decide), os_up (by decide), os_up1]
    · rw [eM _ _ _ (by omega) (by omega) (by omega) (by omega) (by omega) (by omega) (by omega) (by omega) (by omega) (by omega) (by omega) (by omega)]; exact c4.1
    · rw [eM _ _ _ (by omega) (by omega) (by omega) (by omega) (by omega) (by omega) (by omega) (by omega) (by omega) (by omega) (by omega) (by omega)]; exact c4.2
    · rw [eM _ _ _ (by omega) (by omega) (by omega) (by omega) (by omega) (by omega) (by omega) (by omega) (by omega) (by omega) (by omega) (by omega), eM _ _ _ (by omega) (by omega) (by omega) (by omega) (by omega) (by omega) (by omega) (by omega) (by omega) (by omega) (by omega) (by omega)]; exact c5
    · rw [y4, y5 _ _ _ (by omega) (by omega), x3 _ _ _ (by omega), fy _ _ _ (by omega) (by omega), f9 _ _ _ (by omega) (by omega) (by omega), hM1, os_up (by decide), os_up1]
    · by_cases hin : i < nf
      · obtain ⟨⟨bt', sg', L', oc', hFi⟩, hOp⟩ := hF.1 i hin
        refine ⟨⟨bt', sg', L', oc', hFi.co (fun f => ?_) (fun o f _ _ => ?_) ?_ ?_ (fun k _ => ?_) ?_ (fun o _ => ?_)⟩, fun o ho => (hOp o ho).co (fun f => ?_) ?_ ?_ ?_⟩
        all_goals exact eM _ _ _ (by omega) (by omega) (by omega) (by omega) (by omega) (by omega) (by omega) (by omega) (by omega) (by omega) (by omega) (by omega)
      · have : i = nf := by omega
        subst this
        have h8 : 8 * (os_S c len / 8) = os_S c len := by omega
        have cutb : ∀ (P : Nat → Bool), os_bits (fun j => decide (j < 8 * (os_S c len / 8)) && P j) 24 = os_bits P (os_S c len) := fun P => by
          have := os_bits_cut (P := P) (Q := fun j => decide (j < 8 * (os_S c len / 8)) && P j) (S := os_S c len) (fun j hj => by simp [show j < 8 * (os_S c len / 8) by omega]) (fun j hj => by simp [show ¬ j < 8 * (os_S c len / 8) by omega]) (24 - os_S c len)
          rw [show os_S c len + (24 - os_S c len) = 24 by omega] at this
          exact this
        have cutc : ∀ (P : Nat → Bool), os_cnt (fun j => decide (j < 8 * (os_S c len / 8)) && P j) 24 = os_cnt P (os_S c len) := fun P => by
          have := os_cnt_cut (P := P) (Q := fun j => decide (j < 8 * (os_S c len / 8)) && P j) (S := os_S c len) (fun j hj => by simp [show j < 8 * (os_S c len / 8) by omega]) (fun j hj => by simp [show ¬ j < 8 * (os_S c len / 8) by omega]) (24 - os_S c len)
          rw [show os_S c len + (24 - os_S c len) = 24 by omega] at this
          exact this
        have cpo : ∀ o, os_cnt (os_po (os_S c len / 8) (os_sg c len) o) 24 = os_wd (os_sg c len) o (os_S c len) := fun o => cutc (fun j => decide (os_sg c len j = 2 + o))
        refine ⟨⟨os_S c len / 8, os_sg c len, os_A c len, oc, ⟨by omega, by omega⟩, fun k hk => ?_, ⟨hAn, hpre.1.1⟩, hoc3, ⟨?_, ?_⟩, ⟨?_, ?_⟩, fun k hk => ?_, ⟨?_, ?_⟩, ⟨?_, ?_⟩, fun o ho => ⟨⟨?_, ?_⟩, ?_⟩, fun o ho => ?_⟩, fun o ho => ?_⟩
        · have := os_al_iff.mp hvd k (by omega)
          simpa using this
        · rw [e5]; exact r1
        · rw [y5 _ _ _ (by omega) (by omega), x3 _ _ _ (by omega), hMy, os_up (by omega), os_up (by omega), os_up1]
        · rw [e5]; exact r2
        · rw [y5 _ _ _ (by omega) (by omega), x3 _ _ _ (by omega), hMy, os_up (by omega), os_up1, h8]
        · rw [y5 _ _ _ (by omega) (by omega)]; exact x2 k (by omega)
        · rw [e5, r3.1, show os_bits (os_pf (os_S c len / 8) (os_sg c len)) 24 = _ from cutb (fun j => decide (os_sg c len j < 2))]
        · rw [e5, r3.2.1, show os_bits (os_p1 (os_S c len / 8) (os_sg c len)) 24 = _ from cutb (fun j => decide (os_sg c len j = 1))]
        · rw [e5]; exact r4
        · rw [y5 _ _ _ (by omega) (by omega), x3 _ _ _ (by omega), hMy, os_up1]
        · rw [e7o o _ ho, (r3.2.2 o ho).1, show os_bits (os_po (os_S c len / 8) (os_sg c len) o) 24 = _ from cutb (fun j => decide (os_sg c len j = 2 + o))]
        · rw [e7o o _ ho, (r3.2.2 o ho).2, cpo]; rfl
        · rw [(y2 o ho).1, cpo]
        · rw [cpo]
          have := howd o ho
          rcases (show o = 0 ∨ o = 1 ∨ o = 2 by omega) with rfl | rfl | rfl <;> simpa using this
        · have hd := hF.2 12 (by omega) (by decide) o ho
          obtain ⟨-, z1, z2, z3⟩ := y2 o ho
          have e7 : ∀ f, 2 ≤ f → M2 7 (3 * i + o) f = M 7 (3 * 12 + o) f := fun f hf => by rw [e7o o f ho, a2 7 _ f (by omega) (by omega) (by omega)]
          refine ⟨0, 1, 0, by decide, by decide, by decide, ⟨?_, ?_⟩, ⟨?_, ?_⟩, ?_, ?_⟩
          · rw [e7 2 (by decide), hd.1]; rfl
          · rw [z1]; rfl
          · rw [e7 3 (by decide), hd.2.1]; rfl
          · rw [z2]; rfl
          · rw [e7 4 (by decide), hd.2.2, z3]
          · rw [z3]; rfl
    · by_cases h12i : i = 12
      · subst h12i
        rw [e7n o 2 ho (by decide), e7n o 3 ho (by decide), e7n o 4 ho (by decide)]
        exact hF.2 nf (Nat.le_refl _) (by omega) o ho
      · rw [eM 7 _ 2 (by omega) (by omega) (by omega) (by omega) (by omega) (by omega) (by omega) (by omega) (by omega) (by omega) (by omega) (by omega), eM 7 _ 3 (by omega) (by omega) (by omega) (by omega) (by omega) (by omega) (by omega) (by omega) (by omega) (by omega) (by omega) (by omega), eM 7 _ 4 (by omega) (by omega) (by omega) (by omega) (by omega) (by omega) (by omega) (by omega) (by omega) (by omega) (by omega) (by omega)]
        exact hF.2 i (by omega) h2 o ho

/-! form -/
theorem os_mreadForm {M : oa_M} {len : Nat} {c : Nat → Nat} (h : os_mx M len c 0) (hb : M 20 0 3 = 0) : ∃ (m : Nat) (M1 M2 M3 : oa_M), FX5_readName 200 M = some (nI (os_mnm (os_ls c len 4 0)), M1) ∧ FX5_must 200 (32 : Int32) M1 = some M2 ∧ FX5_readSigns 200 M2 = some (nI m, M3) ∧ os_k3 M M3 ∧ M3 20 0 3 = os_i (!os_told c len) ∧ (os_told c len = true → m = os_S c len ∧ os_ns M3 (os_sg c len) (os_S c len)) := by
  have hlen := h.1
  have hAl : (os_A c len).length ≤ len := by have := os_ls_end c len 41 0 (Nat.zero_le _); simpa [os_A] using this
  obtain ⟨M1, a1, a2, a3, a4⟩ := os_readName (b := false) h hb (by decide) (n := 200) (by decide)
  rw [Nat.zero_add] at a2
  have a2 : os_mx M1 len c (os_A c len).length := a2
  obtain ⟨M2, b1, b2, b3, b4⟩ := os_must 200 a2 a3 (by omega) (ch := 32) (by decide)
  have eb : (false || (decide ((os_ls c len 41 0).length < 1) || decide (4 < (os_ls c len 41 0).length)) || !os_within c len (os_A c len).length 32 32) = !os_pre c len := by
    show (false || (decide ((os_A c len).length < 1) || decide (4 < (os_A c len).length)) || !os_within c len (os_A c len).length 32 32) = !os_pre c len
    unfold os_pre
    by_cases q1 : 1 ≤ (os_A c len).length <;> by_cases q4 : (os_A c len).length ≤ 4 <;> cases os_within c len (os_A c len).length 32 32 <;> simp [q1, q4, Nat.not_lt.mpr, Nat.lt_of_not_le] <;> omega
  rw [eb] at b3
  obtain ⟨m, M3, c1, c2, c3, c4⟩ := os_mrs (S := os_S c len) (sg := os_sg c len) b2 b3 (fun hp => by
    have hp2 : os_pre c len = true := by simpa using hp
    unfold os_pre at hp2
    simp only [Bool.and_eq_true] at hp2
    have hlt : (os_A c len).length < len := by have := hp2.2; unfold os_within at this; simp at this; exact this.1
    unfold os_S
    omega) (fun j _ => rfl) (n := 200) (by decide)
  refine ⟨m, M1, M2, M3, a1, b1, c1, (a4.k3.tr b4.k3).tr c2, ?_, fun ht => ?_⟩
  · by_cases q : (!os_pre c len) = false ∧ os_S c len ≤ 24 ∧ os_vd (os_sg c len) (os_S c len) = true
    · rw [(c3 q).2.2]
      have hp2 : os_pre c len = true := by simpa using q.1
      unfold os_told
      rw [hp2, q.2.2]
      cases os_sz8 (os_S c len) <;> cases os_okw (os_wd (os_sg c len) 0 (os_S c len)) (os_wd (os_sg c len) 1 (os_S c len)) (os_wd (os_sg c len) 2 (os_S c len)) <;> rfl
    · rw [c4 q]
      have : os_told c len = false := by
        cases g : os_told c len with
        | false => rfl
        | true =>
          unfold os_told at g
          simp only [Bool.and_eq_true] at g
          exact absurd ⟨by rw [g.1]; rfl, by have := g.2.1; unfold os_sz8 at this; simp at this; omega, g.2.2.1⟩ q
      rw [this]
      rfl
  · have g := ht
    unfold os_told at g
    simp only [Bool.and_eq_true] at g
    have := c3 ⟨by rw [g.1]; rfl, by have := g.2.1; unfold os_sz8 at this; simp at this; omega, g.2.2.1⟩
    exact ⟨this.1, this.2.1⟩
/-- the newest row is stored -/
theorem os_mst1 {nf S : Nat} {x1 x3 : Int32} {sg : Nat → Nat} (hnf : nf < 12) (hS : S ≤ 24) : ∀ (r k n : Nat) (M : oa_M), k + r = S → r < n → M 20 0 4 = nI nf → (∀ j, j < S → M 34 0 j = nI (sg j)) → (∀ j, j < k → M 27 0 (24 * nf + j) = nI (sg j)) → ∃ M', BX5_form_152 n x1 (nI S) x3 (nI k) M = BX5_form_189 (n - r - 1) x1 (nI S) x3 0 M' ∧ (∀ j, j < S → M' 27 0 (24 * nf + j) = nI (sg j)) ∧ ∀ k' i f, ¬ (k' = 27 ∧ 24 * nf ≤ f ∧ f < 24 * nf + 24) → M' k' i f = M k' i f := by
  intro r
  induction r with
  | zero =>
    intro k n M hk hn h4 h34 h27
    obtain ⟨n', rfl⟩ : ∃ n', n = n' + 1 := ⟨n - 1, by omega⟩
    refine ⟨M, ?_, fun j hj => h27 j (by omega), fun _ _ _ _ => rfl⟩
    rw [BX5_form_152, if_pos (nI_le (by omega) (by omega))]
    rfl
  | succ r ih =>
    intro k n M hk hn h4 h34 h27
    obtain ⟨n', rfl⟩ : ∃ n', n = n' + 1 := ⟨n - 1, by omega⟩
    have e24 : (24 : Int32) * nI nf + nI k = nI (24 * nf + k) := by rw [show (24 : Int32) = nI 24 from rfl, on_mul, nI_add]
    obtain ⟨M', a1, a2, a3⟩ := ih (k + 1) n' (oa_up M 27 0 (24 * nf + k) (nI (sg k))) (by omega) (by omega) (by rw [os_up (by omega)]; exact h4) (fun j hj => by rw [os_up (by omega)]; exact h34 j hj) (fun j hj => by
      by_cases hjk : j = k
      · rw [hjk, os_up1]
      · rw [os_up (by omega)]; exact h27 j (by omega))
    refine ⟨M', ?_, a2, fun k' i f hne => by rw [a3 k' i f hne, os_up (by omega)]⟩
    rw [BX5_form_152, if_neg (nI_ge (by omega) (by omega)), if_pos (on_in (show k < 24 by omega) (by decide)), h4, e24, if_pos (on_in (show 24 * nf + k < 288 by omega) (by decide)), nI_clamp (by omega), nI_clamp (by omega), h34 k (by omega), nI_1, a1, show n' + 1 - (r + 1) - 1 = n' - r - 1 by omega]
theorem os_mst2 (n : Nat) {nf : Nat} {x1 x2 x3 : Int32} (hnf : nf < 12) {w : Nat → Nat} {M : oa_M} (h4 : M 20 0 4 = nI nf) (h35 : ∀ o, o < 3 → M 35 0 o = nI (w o)) : ∃ M', BX5_form_189 (n + 1 + 1 + 1 + 1) x1 x2 x3 0 M = some (nI nf, M') ∧ (∀ o, o < 3 → M' 29 0 (3 * nf + o) = nI (w o) ∧ M' 30 0 (3 * nf + o) = 0 ∧ M' 31 0 (3 * nf + o) = 1 ∧ M' 32 0 (3 * nf + o) = 0) ∧ M' 20 0 4 = nI (nf + 1) ∧ M' 20 0 13 = 0 ∧ ∀ k' i f, ¬ (29 ≤ k' ∧ k' ≤ 32 ∧ 3 * nf ≤ f ∧ f < 3 * nf + 3) → ¬ (k' = 20 ∧ (f = 4 ∨ f = 13)) → M' k' i f = M k' i f := by
  have st : ∀ (m o : Nat) (M : oa_M), o < 3 → M 20 0 4 = nI nf → M 35 0 o = nI (w o) → BX5_form_189 (m + 1) x1 x2 x3 (nI o) M = BX5_form_189 m x1 x2 x3 (nI (o + 1)) (oa_up (oa_up (oa_up (oa_up M 29 0 (3 * nf + o) (nI (w o))) 30 0 (3 * nf + o) 0) 31 0 (3 * nf + o) 1) 32 0 (3 * nf + o) 0) := fun m o M ho h4 h35 => by
    rw [BX5_form_189, if_neg (show ¬ (3 : Int32) ≤ nI o from nI_ge (b := 3) ho (by decide)), if_pos (on_in ho (by decide)), h4, os_q3, if_pos (on_in (show 3 * nf + o < 36 by omega) (by decide)), if_pos (on_in (show 3 * nf + o < 36 by omega) (by decide)), if_pos (on_in (show 3 * nf + o < 36 by omega) (by decide)), if_pos (on_in (show 3 * nf + o < 36 by omega) (by decide)), nI_clamp (show 3 * nf + o < 2 ^ 31 by omega), nI_clamp (show o < 2 ^ 31 by omega), h35, nI_1]
  rw [show (0 : Int32) = nI 0 from rfl]
  rw [st _ 0 M (by decide) h4 (h35 0 (by decide))]
  obtain ⟨Ma, hMa⟩ : ∃ Ma : oa_M, Ma = oa_up (oa_up (oa_up (oa_up M 29 0 (3 * nf + 0) (nI (w 0))) 30 0 (3 * nf + 0) 0) 31 0 (3 * nf + 0) 1) 32 0 (3 * nf + 0) 0 := ⟨_, rfl⟩
  have fa : ∀ k' i f, ¬ (29 ≤ k' ∧ k' ≤ 32 ∧ f = 3 * nf + 0) → Ma k' i f = M k' i f := fun k' i f h => by rw [hMa, os_up (by omega), os_up (by omega), os_up (by omega), os_up (by omega)]
  rw [← hMa, st _ 1 Ma (by decide) (by rw [fa _ _ _ (by omega)]; exact h4) (by rw [fa _ _ _ (by omega)]; exact h35 1 (by decide))]
  obtain ⟨Mb, hMb⟩ : ∃ Mb : oa_M, Mb = oa_up (oa_up (oa_up (oa_up Ma 29 0 (3 * nf + 1) (nI (w 1))) 30 0 (3 * nf + 1) 0) 31 0 (3 * nf + 1) 1) 32 0 (3 * nf + 1) 0 := ⟨_, rfl⟩
  have fb : ∀ k' i f, ¬ (29 ≤ k' ∧ k' ≤ 32 ∧ f = 3 * nf + 1) → Mb k' i f = Ma k' i f := fun k' i f h => by rw [hMb, os_up (by omega), os_up (by omega), os_up (by omega), os_up (by omega)]
  rw [← hMb, st _ 2 Mb (by decide) (by rw [fb _ _ _ (by omega), fa _ _ _ (by omega)]; exact h4) (by rw [fb _ _ _ (by omega), fa _ _ _ (by omega)]; exact h35 2 (by decide))]
  obtain ⟨Mc, hMc⟩ : ∃ Mc : oa_M, Mc = oa_up (oa_up (oa_up (oa_up Mb 29 0 (3 * nf + 2) (nI (w 2))) 30 0 (3 * nf + 2) 0) 31 0 (3 * nf + 2) 1) 32 0 (3 * nf + 2) 0 := ⟨_, rfl⟩
  have fc : ∀ k' i f, ¬ (29 ≤ k' ∧ k' ≤ 32 ∧ f = 3 * nf + 2) → Mc k' i f = Mb k' i f := fun k' i f h => by rw [hMc, os_up (by omega), os_up (by omega), os_up (by omega), os_up (by omega)]
  rw [← hMc, BX5_form_189, if_pos (show (3 : Int32) ≤ nI (2 + 1) from by decide)]
  have h4c : Mc 20 0 4 = nI nf := by rw [fc _ _ _ (by omega), fb _ _ _ (by omega), fa _ _ _ (by omega)]; exact h4
  rw [h4c, nI_1, show nI (nf + 1) - (1 : Int32) = nI nf from nI_pred nf]
  refine ⟨_, rfl, fun o ho => ?_, by rw [os_up (by decide), os_up1], by rw [os_up1]; rfl, fun k' i f h1 h2 => by rw [os_up (by omega), os_up (by omega), fc _ _ _ (by omega), fb _ _ _ (by omega), fa _ _ _ (by omega)]⟩
  rw [os_up (by omega), os_up (by omega), os_up (by omega), os_up (by omega), os_up (by omega), os_up (by omega), os_up (by omega), os_up (by omega)]
  rcases (show o = 0 ∨ o = 1 ∨ o = 2 by omega) with rfl | rfl | rfl
  · rw [fc _ _ _ (by omega), fb _ _ _ (by omega), fc _ _ _ (by omega), fb _ _ _ (by omega), fc _ _ _ (by omega), fb _ _ _ (by omega), fc _ _ _ (by omega), fb _ _ _ (by omega), hMa]
    refine ⟨?_, ?_, ?_, ?_⟩ <;> simp [oa_up] <;> rfl
  · rw [fc _ _ _ (by omega), fc _ _ _ (by omega), fc _ _ _ (by omega), fc _ _ _ (by omega), hMb]
    refine ⟨?_, ?_, ?_, ?_⟩ <;> simp [oa_up] <;> rfl
  · rw [hMc]
    refine ⟨?_, ?_, ?_, ?_⟩ <;> simp [oa_up] <;> rfl

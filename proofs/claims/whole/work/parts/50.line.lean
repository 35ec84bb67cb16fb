/-! a line -/
def os_body (c : Nat → Nat) (len p0 : Nat) : Option (List Nat × List (Bool × Int32)) :=
  if 1 ≤ (os_ls c len 41 p0).length ∧ (os_ls c len 41 p0).length ≤ 4 then
    (if len ≤ p0 + (os_ls c len 41 p0).length then some (os_ls c len 41 p0, [])
    else if os_within c len (p0 + (os_ls c len 41 p0).length) 32 32 then (os_oprs c len 3 (p0 + (os_ls c len 41 p0).length + 1)).map (fun l => (os_ls c len 41 p0, l)) else none)
  else none
def os_ln (c : Nat → Nat) (len : Nat) : Option (Int32 × List Nat × List (Bool × Int32)) :=
  if os_within c len 0 65 70 then (if os_within c len 1 58 58 then (if len ≤ 2 then some (nI (c 0 - 65), [], []) else (os_body c len 2).map (fun q => (nI (c 0 - 65), q.1, q.2))) else none)
  else (os_body c len 0).map (fun q => (-1, q.1, q.2))
theorem os_nm_nil : os_nm [] := ⟨by simp, fun w hw => by cases hw⟩
theorem os_cbody {M : oa_M} {len nl p0 : Nat} {c : Nat → Nat} (h : os_tx M len c p0) (hp : p0 ≤ len) (h4 : M 9 nl 4 = 0) : ∃ M', BX4_readLine_55 100 nl M = some (os_i (os_body c len p0).isSome, M') ∧ os_k9 nl M M' ∧ M' 9 nl 2 = M 9 nl 2 ∧ ∀ A l, os_body c len p0 = some (A, l) → os_nm A ∧ 1 ≤ A.length ∧ M' 9 nl 3 = nI (os_cnm A) ∧ M' 9 nl 4 = nI l.length ∧ os_st M' nl 0 l := by
  have hl40 := h.1
  have hA4 : os_ls c len 4 p0 = (os_ls c len 41 p0).take 4 := os_ls_take c len 4 41 p0 (by decide)
  have hAl := os_ls_end c len 41 p0 hp
  have hok := os_ls_ok c len 41 p0
  have hmid := os_ls_mid c len 41 p0
  obtain ⟨M1, a1, a2, a3⟩ := os_takeName h (by omega) (n := 100) (by decide)
  have l4 : (os_ls c len 4 p0).length = min 4 (os_ls c len 41 p0).length := by rw [hA4, List.length_take]
  have hnm4 : os_nm (os_ls c len 4 p0) := ⟨by rw [l4]; omega, os_ls_ok c len 4 p0⟩
  obtain ⟨M2, hM2⟩ : ∃ M2 : oa_M, M2 = oa_up M1 9 nl 3 (nI (os_cnm (os_ls c len 4 p0))) := ⟨_, rfl⟩
  have f2 : ∀ k i f, ¬ (k = 9 ∧ i = nl ∧ f = 3) → M2 k i f = M1 k i f := fun k i f a => by rw [hM2, os_up a]
  have t2 : os_tx M2 len c (p0 + (os_ls c len 4 p0).length) := a2.to (fun i f _ => f2 _ _ _ (by omega)) (fun j => f2 _ _ _ (by omega))
  have k2 : os_k9 nl M M2 := a3.k9.tr (fun k i f a b c => f2 k i f (by omega))
  have m2 : M2 9 nl 2 = M 9 nl 2 := by rw [f2 _ _ _ (by omega), a3 _ _ _ (by omega)]
  unfold BX4_readLine_55
  rw [a1, ob_d, os_up1, ← hM2]
  generalize hA : os_ls c len 41 p0 = A at *
  have no : ∀ M' : oa_M, os_k9 nl M M' → M' 9 nl 2 = M 9 nl 2 → os_body c len p0 = none → ∃ M'', some ((0 : Int32), M') = some (os_i (os_body c len p0).isSome, M'') ∧ os_k9 nl M M'' ∧ M'' 9 nl 2 = M 9 nl 2 ∧ ∀ A l, os_body c len p0 = some (A, l) → os_nm A ∧ 1 ≤ A.length ∧ M'' 9 nl 3 = nI (os_cnm A) ∧ M'' 9 nl 4 = nI l.length ∧ os_st M'' nl 0 l := fun M' hk hm hn => ⟨M', by rw [hn]; rfl, hk, hm, fun A l q => by rw [hn] at q; cases q⟩
  by_cases h0 : A.length = 0
  · have : os_ls c len 4 p0 = [] := List.eq_nil_of_length_eq_zero (by omega)
    rw [if_pos ((os_cnm0 hnm4).1.mpr this)]
    exact no M2 k2 m2 (by unfold os_body; rw [hA, if_neg (by omega)])
  have ne : os_ls c len 4 p0 ≠ [] := fun q => by rw [q] at l4; simp at l4; omega
  have hq4 : p0 + (os_ls c len 4 p0).length ≤ len := by omega
  rw [if_neg (fun q => ne ((os_cnm0 hnm4).1.mp q)), os_left 100 t2 hq4, ob_d]
  by_cases h5 : A.length ≤ 4
  · have e4 : os_ls c len 4 p0 = A := by rw [hA4]; exact List.take_of_length_le h5
    rw [e4] at t2 hM2 ⊢
    have hAn : os_nm A := ⟨h5, hok⟩
    have m3 : M2 9 nl 3 = nI (os_cnm A) := by rw [hM2, os_up1]
    have eb : os_body c len p0 = (if len ≤ p0 + A.length then some (A, []) else if os_within c len (p0 + A.length) 32 32 then (os_oprs c len 3 (p0 + A.length + 1)).map (fun l => (A, l)) else none) := by
      unfold os_body
      rw [hA, if_pos ⟨by omega, h5⟩]
    by_cases hend : len ≤ p0 + A.length
    · rw [if_pos (by rw [show len - (p0 + A.length) = 0 by omega]; rfl), eb, if_pos hend]
      unfold BX4_readLine_105 BX4_readLine_110
      refine ⟨M2, rfl, k2, m2, fun A' l' q => ?_⟩
      cases q
      refine ⟨hAn, by omega, m3, ?_, fun j b v hj => by simp at hj⟩
      rw [f2 _ _ _ (by omega), a3 _ _ _ (by omega)]
      exact h4
    · rw [if_neg (nI_ne0 (by omega) (by omega)), show (32 : Int32) = nI 32 from rfl, os_take 100 t2 (by decide), eb, if_neg hend]
      unfold BX4_readLine_105 BX4_readLine_109 BX4_readLine_110
      rcases (Bool.eq_false_or_eq_true (os_within c len (p0 + A.length) 32 32)).symm with hw | hw
      · rw [hw, if_neg (by decide), ob_d, if_pos rfl, if_neg (by decide)]
        exact ⟨M2, rfl, k2, m2, fun A' l' q => by cases q⟩
      · rw [hw, if_pos rfl, ob_d, if_neg (by decide), if_pos rfl]
        obtain ⟨s1, s2⟩ := os_step t2 (by omega)
        obtain ⟨M', b1, b2, b3, b4, b5⟩ := os_cop (nl := nl) 3 0 100 (p0 + A.length + 1) _ (by omega) (by omega) (by omega) s1
        rw [show FX4_readOperands 100 nl (oa_up M2 1 0 2 (nI (p0 + A.length + 1))) = _ from b1, ob_d]
        refine ⟨M', ?_, (k2.tr s2.k9).tr b2, ?_, fun A' l' q => ?_⟩
        · cases os_oprs c len 3 (p0 + A.length + 1) <;> rfl
        · rw [b4.1, os_up (by omega)]; exact m2
        · cases hr : os_oprs c len 3 (p0 + A.length + 1) with
          | none => rw [hr] at q; cases q
          | some l =>
            rw [hr] at q
            cases q
            obtain ⟨g1, g2⟩ := b5 _ hr
            refine ⟨hAn, by omega, ?_, by rw [g1, Nat.zero_add], g2⟩
            rw [b4.2, os_up (by omega)]
            exact m3
  · have l4' : (os_ls c len 4 p0).length = 4 := by omega
    rw [l4'] at t2 ⊢
    have hm4 := hmid 4 (by omega)
    have hw2 := hm4
    unfold os_within at hw2
    simp at hw2
    rw [if_neg (nI_ne0 (by omega) (by omega)), show (32 : Int32) = nI 32 from rfl, os_take 100 t2 (by decide), show os_within c len (p0 + 4) 32 32 = false from by unfold os_within; simp; omega, if_neg (by decide), ob_d, if_pos rfl]
    exact no M2 k2 m2 (by unfold os_body; rw [hA, if_neg (by omega)])
theorem os_creadLine {M : oa_M} {len nl : Nat} {c : Nat → Nat} (h : os_tx M len c 0) : ∃ M', FX4_readLine 100 nl M = some (os_i (os_ln c len).isSome, M') ∧ os_k9 nl M M' ∧ ∀ lab A l, os_ln c len = some (lab, A, l) → (os_nm A ∧ (A = [] → l = [])) ∧ M' 9 nl 2 = lab ∧ M' 9 nl 3 = nI (os_cnm A) ∧ M' 9 nl 4 = nI l.length ∧ os_st M' nl 0 l := by
  have hl40 := h.1
  obtain ⟨Ma, hMa⟩ : ∃ Ma : oa_M, Ma = oa_up (oa_up M 9 nl 3 0) 9 nl 4 0 := ⟨_, rfl⟩
  have ta : os_tx Ma len c 0 := by rw [hMa]; exact h.to (fun i f _ => by rw [os_up (by omega), os_up (by omega)]) (fun j => by rw [os_up (by omega), os_up (by omega)])
  have ka : os_k9 nl M Ma := fun k i f a b c => by rw [hMa, os_up (by omega), os_up (by omega)]
  unfold FX4_readLine
  rw [← hMa, os_takeLabel 100 ta]
  unfold os_ln
  rcases (Bool.eq_false_or_eq_true (os_within c len 0 65 70)).symm with hw | hw
  · rw [hw, if_neg (by decide), ob_d, os_up1, if_pos rfl, if_neg (by decide)]
    obtain ⟨Mb, hMb⟩ : ∃ Mb : oa_M, Mb = oa_up Ma 9 nl 2 (-1) := ⟨_, rfl⟩
    rw [← hMb]
    have tb : os_tx Mb len c 0 := by rw [hMb]; exact ta.to (fun i f _ => os_up (by omega)) (fun j => os_up (by omega))
    obtain ⟨M', a1, a2, a3, a4⟩ := os_cbody (nl := nl) tb (Nat.zero_le _) (by rw [hMb, os_up (by omega), hMa, os_up1])
    refine ⟨M', ?_, (ka.tr (fun k i f a b c => by rw [hMb, os_up (by omega)])).tr a2, fun lab A l q => ?_⟩
    · rw [a1]
      cases os_body c len 0 <;> rfl
    · cases hb : os_body c len 0 with
      | none => rw [hb] at q; cases q
      | some q2 =>
        rw [hb] at q
        cases q
        obtain ⟨g0, g1, g2, g3, g4⟩ := a4 _ _ hb
        exact ⟨⟨g0, fun e => by rw [e] at g1; simp at g1⟩, by rw [a3, hMb, os_up1], g2, g3, g4⟩
  · have hw2 := hw
    unfold os_within at hw2
    simp at hw2
    rw [hw, if_pos rfl, ob_d, os_up1, if_neg (on_ltm1 (by omega)), if_pos rfl]
    obtain ⟨s1, s2⟩ := os_step ta (by omega)
    obtain ⟨Mb, hMb⟩ : ∃ Mb : oa_M, Mb = oa_up (oa_up Ma 1 0 2 (nI (0 + 1))) 9 nl 2 (nI (c 0 - 65)) := ⟨_, rfl⟩
    rw [← hMb]
    have fb : ∀ k i f, ¬ (k = 1 ∧ i = 0 ∧ f = 2) → ¬ (k = 9 ∧ i = nl ∧ f = 2) → Mb k i f = Ma k i f := fun k i f a b => by rw [hMb, os_up b, os_up a]
    have tb : os_tx Mb len c 1 := by rw [hMb]; exact s1.to (fun i f _ => os_up (by omega)) (fun j => os_up (by omega))
    have kb : os_k9 nl M Mb := ka.tr (fun k i f a b c => fb k i f a (by omega))
    rw [show (58 : Int32) = nI 58 from rfl, os_take 100 tb (by decide)]
    rcases (Bool.eq_false_or_eq_true (os_within c len 1 58 58)).symm with h58 | h58
    · rw [h58, if_neg (by decide), ob_d, if_pos rfl, if_neg (by decide)]
      exact ⟨Mb, rfl, kb, fun lab A l q => by cases q⟩
    · have h1l : 1 < len := by unfold os_within at h58; simp at h58; exact h58.1
      rw [h58, if_pos rfl, ob_d, if_neg (by decide), if_pos rfl]
      obtain ⟨u1, u2⟩ := os_step tb (by omega)
      obtain ⟨Mc, hMc⟩ : ∃ Mc : oa_M, Mc = oa_up Mb 1 0 2 (nI (1 + 1)) := ⟨_, rfl⟩
      rw [← hMc] at u1 u2 ⊢
      rw [os_left 100 u1 (by omega), ob_d]
      have kc : os_k9 nl M Mc := kb.tr u2.k9
      have c2 : Mc 9 nl 2 = nI (c 0 - 65) := by rw [u2 _ _ _ (by omega), hMb, os_up1]
      have c4 : Mc 9 nl 4 = 0 := by rw [u2 _ _ _ (by omega), fb _ _ _ (by omega) (by omega), hMa, os_up1]
      have c3 : Mc 9 nl 3 = 0 := by rw [u2 _ _ _ (by omega), fb _ _ _ (by omega) (by omega), hMa, os_up (by omega), os_up1]
      by_cases h2 : len ≤ 2
      · rw [if_pos (by rw [show len - (1 + 1) = 0 by omega]; rfl), if_pos h2]
        refine ⟨Mc, rfl, kc, fun lab A l q => ?_⟩
        cases q
        exact ⟨⟨os_nm_nil, fun _ => rfl⟩, c2, c3, c4, fun j b v hj => by simp at hj⟩
      · rw [if_neg (nI_ne0 (by omega) (by omega)), if_neg h2]
        obtain ⟨M', a1, a2, a3, a4⟩ := os_cbody (nl := nl) u1 (by omega) c4
        refine ⟨M', ?_, kc.tr a2, fun lab A l q => ?_⟩
        · rw [a1]
          show _ = some (os_i (Option.map _ (os_body c len 2)).isSome, M')
          cases hb : os_body c len (1 + 1) with
          | none => rfl
          | some q2 => rfl
        · cases hb : os_body c len 2 with
          | none => rw [hb] at q; cases q
          | some q2 =>
            rw [hb] at q
            cases q
            obtain ⟨g0, g1, g2, g3, g4⟩ := a4 _ _ hb
            exact ⟨⟨g0, fun e => by rw [e] at g1; simp at g1⟩, by rw [a3]; exact c2, g2, g3, g4⟩

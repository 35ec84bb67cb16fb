/-! the clash, and test -/
def os_ap (bt : Nat) (sg : Nat → Nat) (bt' : Nat) (sg' : Nat → Nat) (k : Nat) : Bool := (os_pf bt sg k && os_pf bt' sg' k) && decide (sg k ≠ sg' k)
def os_cl (bt : Nat) (sg : Nat → Nat) (bt' : Nat) (sg' : Nat → Nat) : Bool := os_al (fun k => !os_ap bt sg bt' sg' k) 24 && (!os_nar bt sg bt' sg' && !os_nar bt' sg' bt sg)
theorem os_i0 (b : Bool) : (os_i b = 0) ↔ b = false := by cases b <;> decide
theorem os_cclash (n : Nat) {M : oa_M} {i j bt bt' : Nat} {sg sg' : Nat → Nat} {L L' : List Nat} {oc oc' : Nat} (hF : os_F M i bt sg L oc) (hF' : os_F M j bt' sg' L' oc') : FX0_clashesWith n i j M = some (os_i (os_cl bt sg bt' sg'), M) := by
  have a8 := hF.2.2.2.2.2.2.2.1
  have a8' := hF'.2.2.2.2.2.2.2.1
  have e : os_bits (fun k => (os_pf bt sg k && os_pf bt' sg' k) && (os_p1 bt sg k != os_p1 bt' sg' k)) 24 = os_bits (os_ap bt sg bt' sg') 24 := os_ext (fun k _ => by
    unfold os_ap os_pf os_p1
    by_cases h1 : k < 8 * bt <;> by_cases h2 : k < 8 * bt' <;> by_cases h3 : sg k < 2 <;> by_cases h4 : sg' k < 2 <;> by_cases h5 : sg k = 1 <;> by_cases h6 : sg' k = 1 <;> simp [h1, h2, h3, h4, h5, h6] <;> omega)
  unfold FX0_clashesWith
  rw [a8.1, a8'.1, a8.2, a8'.2, on_and, on_xor, on_and, os_band, os_bxor, os_band, e]
  by_cases h1 : os_bits (os_ap bt sg bt' sg') 24 = 0
  · rw [if_pos (by rw [h1]; rfl)]
    have hal : os_al (fun k => !os_ap bt sg bt' sg' k) 24 = true := os_al_iff.mpr (fun k hk => by rw [os_zero.mp h1 k hk]; rfl)
    unfold BX0_clashesWith_27 BX0_clashesWith_52 BX0_clashesWith_53 os_cl
    rw [if_pos rfl, os_cnarrow n hF hF', ob_d, hal, Bool.true_and]
    cases g : os_nar bt sg bt' sg' with
    | true => rw [if_neg (by decide)]; rfl
    | false =>
      rw [if_pos (by rfl), os_cnarrow n hF' hF, ob_d]
      cases g2 : os_nar bt' sg' bt sg with
      | true => rw [if_neg (by decide)]; rfl
      | false => rw [if_pos (by rfl)]; rfl
  · rw [if_neg (fun q => h1 ((os_nIz (os_b31 _)).mp q))]
    have hal : os_al (fun k => !os_ap bt sg bt' sg' k) 24 = false := by
      cases g : os_al (fun k => !os_ap bt sg bt' sg' k) 24 with
      | false => rfl
      | true => exact absurd (os_zero.mpr (fun k hk => by have := os_al_iff.mp g k hk; simpa using this)) h1
    unfold BX0_clashesWith_27 BX0_clashesWith_52 BX0_clashesWith_53 os_cl
    rw [if_neg (by decide), hal]
    rfl
theorem os_mcl {M : oa_M} {i j bt bt' : Nat} {sg sg' : Nat → Nat} {L L' : List Nat} {oc oc' : Nat} (hF : os_F M i bt sg L oc) (hF' : os_F M j bt' sg' L' oc') (hi : i < 12) (hj : j < 12) :
    ∀ (r k n : Nat), k + r = 24 → r + 26 < n → os_al (fun k => !os_ap bt sg bt' sg' k) k = true → BX5_clash_2 n (nI i) (nI j) (nI k) M = some (os_i (os_cl bt sg bt' sg'), M) := by
  intro r
  induction r with
  | zero =>
    intro k n hk hn hal
    have hk : k = 24 := by omega
    subst hk
    obtain ⟨n', rfl⟩ : ∃ n', n = n' + 1 := ⟨n - 1, by omega⟩
    unfold BX5_clash_2 BX5_clash_71 BX5_clash_72 os_cl
    rw [if_pos (show (24 : Int32) ≤ nI 24 from by decide), os_mnarrow hF hF' hi hj (by omega), ob_d, hal, Bool.true_and]
    cases g : os_nar bt sg bt' sg' with
    | true => rw [if_neg (by decide)]; rfl
    | false =>
      rw [if_pos (by rfl), os_mnarrow hF' hF hj hi (by omega), ob_d]
      cases g2 : os_nar bt' sg' bt sg with
      | true => rw [if_neg (by decide)]; rfl
      | false => rw [if_pos (by rfl)]; rfl
  | succ r ih =>
    intro k n hk hn hal
    obtain ⟨n', rfl⟩ : ∃ n', n = n' + 1 := ⟨n - 1, by omega⟩
    unfold BX5_clash_2
    rw [if_neg (show ¬ (24 : Int32) ≤ nI k from nI_ge (b := 24) (by omega) (by decide)), os_fixed n' hF hi (by omega), ob_d, os_fixed n' hF' hj (by omega), ob_d]
    have go : os_ap bt sg bt' sg' k = false → BX5_clash_43 (BX5_clash_2 n') n' (nI i) (nI j) (nI k) (os_fx bt sg k) (os_fx bt' sg' k) M = some (os_i (os_cl bt sg bt' sg'), M) := fun h => by
      unfold BX5_clash_43
      rw [nI_1]
      exact ih (k + 1) n' (by omega) (by omega) (by simp only [os_al, hal, h]; rfl)
    by_cases p : os_pf bt sg k = true
    · have q1 : sg k < 2 := by unfold os_pf at p; simp at p; exact p.2
      have f1 : os_fx bt sg k = nI (sg k) := by simp only [os_fx, p, if_true]
      rw [if_neg (by rw [f1]; exact nI_pos (by omega))]
      by_cases p' : os_pf bt' sg' k = true
      · have q2 : sg' k < 2 := by unfold os_pf at p'; simp at p'; exact p'.2
        have f2 : os_fx bt' sg' k = nI (sg' k) := by simp only [os_fx, p', if_true]
        rw [if_neg (by rw [f2]; exact nI_pos (by omega))]
        by_cases e : sg k = sg' k
        · rw [if_pos (by rw [f1, f2, e])]
          exact go (by simp [os_ap, e])
        · rw [if_neg (by rw [f1, f2]; exact fun q => e ((nI_eq (by omega) (by omega)).mp q))]
          have : os_cl bt sg bt' sg' = false := by
            unfold os_cl
            rw [os_al_no (k := k) (by omega) (by simp [os_ap, p, p', e])]
            rfl
          rw [this]
          rfl
      · rw [if_pos (by simp only [os_fx, p', Bool.false_eq_true, if_false]; decide)]
        exact go (by simp [os_ap, p'])
    · rw [if_pos (by simp only [os_fx, p, Bool.false_eq_true, if_false]; decide)]
      exact go (by simp [os_ap, p])
theorem os_mclash {M : oa_M} {i j bt bt' : Nat} {sg sg' : Nat → Nat} {L L' : List Nat} {oc oc' : Nat} (hF : os_F M i bt sg L oc) (hF' : os_F M j bt' sg' L' oc') (hi : i < 12) (hj : j < 12) {n : Nat} (hn : 50 < n) : FX5_clash n (nI i) (nI j) M = some (os_i (os_cl bt sg bt' sg'), M) :=
  os_mcl hF hF' hi hj 24 0 n rfl (by omega) rfl
/-- the first pair that clashes -/
def os_t2 (cl : Nat → Nat → Bool) (i : Nat) : Nat → Nat → Option Nat
  | 0, _ => none
  | r + 1, j => if cl i j then some j else os_t2 cl i r (j + 1)
def os_t1 (cl : Nat → Nat → Bool) (nf : Nat) : Nat → Nat → Option (Nat × Nat)
  | 0, _ => none
  | r + 1, i => match os_t2 cl i (nf - (i + 1)) (i + 1) with
    | some j => some (i, j)
    | none => os_t1 cl nf r (i + 1)
theorem os_ct2 {M : oa_M} {nf i : Nat} {cl : Nat → Nat → Bool} (h5 : M 0 0 5 = nI nf) (hnf : nf ≤ 12) (hi : i < nf) (hcl : ∀ n i j, i < nf → j < nf → FX0_clashesWith n i j M = some (os_i (cl i j), M)) (rec7 : Int32 → oa_M → Option (Int32 × oa_M)) :
    ∀ (r j n : Nat), j + r = nf → r < n → BX4_test_19 rec7 n (nI i) (nI j) M = (match os_t2 cl i r j with | some j' => some (nI (1 + 16 * i + j'), M) | none => rec7 (nI (i + 1)) M) := by
  intro r
  induction r with
  | zero =>
    intro j n hj hn
    obtain ⟨n', rfl⟩ : ∃ n', n = n' + 1 := ⟨n - 1, by omega⟩
    unfold BX4_test_19
    rw [h5, if_pos (nI_le (by omega) (by omega)), nI_1]
    rfl
  | succ r ih =>
    intro j n hj hn
    obtain ⟨n', rfl⟩ : ∃ n', n = n' + 1 := ⟨n - 1, by omega⟩
    unfold BX4_test_19
    rw [h5, if_neg (nI_ge (by omega) (by omega)), if_pos (on_in (by omega) (by decide)), if_pos (on_in (by omega) (by decide)), nI_clamp (by omega), nI_clamp (by omega), hcl n' i j hi (by omega), ob_d]
    cases g : cl i j with
    | true =>
      rw [if_neg (by decide)]
      simp only [os_t2, g, if_true]
      rw [show (1 : Int32) + (16 : Int32) * nI i + nI j = nI (1 + 16 * i + j) from by rw [show (1 : Int32) = nI 1 from rfl, show (16 : Int32) = nI 16 from rfl, on_mul, nI_add, nI_add]]
    | false =>
      rw [if_pos (by rfl), nI_1, ih (j + 1) n' (by omega) (by omega)]
      simp only [os_t2, g, Bool.false_eq_true, if_false]
theorem os_ct1 {M : oa_M} {nf : Nat} {cl : Nat → Nat → Bool} (h5 : M 0 0 5 = nI nf) (hnf : nf ≤ 12) (hcl : ∀ n i j, i < nf → j < nf → FX0_clashesWith n i j M = some (os_i (cl i j), M)) :
    ∀ (r i n : Nat), i + r = nf → r + 20 < n → BX4_test_7 n (nI i) M = (match os_t1 cl nf r i with | some q => some (nI (1 + 16 * q.1 + q.2), M) | none => some (0, oa_up M 0 0 8 1)) := by
  intro r
  induction r with
  | zero =>
    intro i n hi hn
    obtain ⟨n', rfl⟩ : ∃ n', n = n' + 1 := ⟨n - 1, by omega⟩
    unfold BX4_test_7
    rw [h5, if_pos (nI_le (by omega) (by omega))]
    rfl
  | succ r ih =>
    intro i n hi hn
    obtain ⟨n', rfl⟩ : ∃ n', n = n' + 1 := ⟨n - 1, by omega⟩
    unfold BX4_test_7
    rw [h5, if_neg (nI_ge (by omega) (by omega)), nI_1, os_ct2 h5 hnf (by omega) hcl _ (nf - (i + 1)) (i + 1) n' (by omega) (by omega), ih (i + 1) n' (by omega) (by omega)]
    simp only [os_t1]
    cases os_t2 cl i (nf - (i + 1)) (i + 1) <;> rfl
theorem os_mt2 {M : oa_M} {nf i : Nat} {cl : Nat → Nat → Bool} (h5 : M 20 0 4 = nI nf) (hnf : nf ≤ 12) (hi : i < nf) (hcl : ∀ n i j, 50 < n → i < nf → j < nf → FX5_clash n (nI i) (nI j) M = some (os_i (cl i j), M)) (rec7 : Int32 → oa_M → Option (Int32 × oa_M)) :
    ∀ (r j n : Nat), j + r = nf → r + 52 < n → BX5_test_24 rec7 n (nI i) (nI j) M = (match os_t2 cl i r j with | some j' => some (nI (1 + 16 * i + j'), M) | none => rec7 (nI (i + 1)) M) := by
  intro r
  induction r with
  | zero =>
    intro j n hj hn
    obtain ⟨n', rfl⟩ : ∃ n', n = n' + 1 := ⟨n - 1, by omega⟩
    unfold BX5_test_24
    rw [h5, if_pos (nI_le (by omega) (by omega)), nI_1]
    rfl
  | succ r ih =>
    intro j n hj hn
    obtain ⟨n', rfl⟩ : ∃ n', n = n' + 1 := ⟨n - 1, by omega⟩
    unfold BX5_test_24
    rw [h5, if_neg (nI_ge (by omega) (by omega)), hcl n' i j (by omega) hi (by omega), ob_d]
    cases g : cl i j with
    | true =>
      rw [if_neg (by decide)]
      simp only [os_t2, g, if_true]
      rw [show (1 : Int32) + (16 : Int32) * nI i + nI j = nI (1 + 16 * i + j) from by rw [show (1 : Int32) = nI 1 from rfl, show (16 : Int32) = nI 16 from rfl, on_mul, nI_add, nI_add]]
    | false =>
      rw [if_pos (by rfl), nI_1, ih (j + 1) n' (by omega) (by omega)]
      simp only [os_t2, g, Bool.false_eq_true, if_false]
theorem os_mt1 {M : oa_M} {nf : Nat} {cl : Nat → Nat → Bool} (h5 : M 20 0 4 = nI nf) (hnf : nf ≤ 12) (hcl : ∀ n i j, 50 < n → i < nf → j < nf → FX5_clash n (nI i) (nI j) M = some (os_i (cl i j), M)) :
    ∀ (r i n : Nat), i + r = nf → r + 70 < n → BX5_test_12 n (nI i) M = (match os_t1 cl nf r i with | some q => some (nI (1 + 16 * q.1 + q.2), M) | none => some (0, oa_up M 20 0 13 1)) := by
  intro r
  induction r with
  | zero =>
    intro i n hi hn
    obtain ⟨n', rfl⟩ : ∃ n', n = n' + 1 := ⟨n - 1, by omega⟩
    unfold BX5_test_12
    rw [h5, if_pos (nI_le (by omega) (by omega))]
    rfl
  | succ r ih =>
    intro i n hi hn
    obtain ⟨n', rfl⟩ : ∃ n', n = n' + 1 := ⟨n - 1, by omega⟩
    unfold BX5_test_12
    rw [h5, if_neg (nI_ge (by omega) (by omega)), nI_1, os_mt2 h5 hnf (by omega) hcl _ (nf - (i + 1)) (i + 1) n' (by omega) (by omega), ih (i + 1) n' (by omega) (by omega)]
    simp only [os_t1]
    cases os_t2 cl i (nf - (i + 1)) (i + 1) <;> rfl
/-- the forms' rows, chosen -/
theorem os_Fs.pick {M : oa_M} {nf : Nat} (h : os_Fs M nf) : ∃ (bt : Nat → Nat) (sg : Nat → Nat → Nat) (L : Nat → List Nat) (oc : Nat → Nat), ∀ i, i < nf → os_F M i (bt i) (sg i) (L i) (oc i) := by
  refine ⟨fun i => if hi : i < nf then (h.1 i hi).1.choose else 0, fun i => if hi : i < nf then (h.1 i hi).1.choose_spec.choose else fun _ => 0, fun i => if hi : i < nf then (h.1 i hi).1.choose_spec.choose_spec.choose else [], fun i => if hi : i < nf then (h.1 i hi).1.choose_spec.choose_spec.choose_spec.choose else 0, fun i hi => ?_⟩
  simp only [hi, dif_pos]
  exact (h.1 i hi).1.choose_spec.choose_spec.choose_spec.choose_spec
theorem os_F.off {M : oa_M} {i bt : Nat} {sg : Nat → Nat} {L : List Nat} {oc : Nat} (h : os_F M i bt sg L oc) {M' : oa_M} (hk : ∀ k i f, k = 5 ∨ k = 7 ∨ (25 ≤ k ∧ k ≤ 32) → M' k i f = M k i f) : os_F M' i bt sg L oc := h.co (fun f => hk _ _ _ (by decide)) (fun o f _ _ => hk _ _ _ (by decide)) (hk _ _ _ (by decide)) (hk _ _ _ (by decide)) (fun k _ => hk _ _ _ (by decide)) (hk _ _ _ (by decide)) (fun o _ => hk _ _ _ (by decide))
theorem os_S3 : oa_S3 os_I := by
  intro M hI
  obtain ⟨len, c, size, mem, nf, nl, hT, hO, hM, hC, hF, hL⟩ := id hI
  obtain ⟨c1, c2, c3, c4, c5, c6⟩ := id hC
  obtain ⟨bt, sg, L, oc, hp⟩ := hF.pick
  generalize hcl : (fun i j => os_cl (bt i) (sg i) (bt j) (sg j)) = cl
  have hcl2 : ∀ i j, cl i j = os_cl (bt i) (sg i) (bt j) (sg j) := fun i j => by rw [← hcl]
  have e1 : FX4_test 100 M = (match os_t1 cl nf nf 0 with | some q => some (nI (1 + 16 * q.1 + q.2), oa_up M 0 0 8 0) | none => some (0, oa_up (oa_up M 0 0 8 0) 0 0 8 1)) := by
    unfold FX4_test
    exact os_ct1 (by rw [os_up (by decide)]; exact c3.1) c1 (fun n i j hi hj => by
      rw [hcl2]
      exact os_cclash n ((hp i hi).off (fun k i f hk => os_up (by omega))) ((hp j hj).off (fun k i f hk => os_up (by omega)))) nf 0 100 (by omega) (by omega)
  have e2 : ∀ M1 : oa_M, (∀ k i f, k = 5 ∨ k = 7 ∨ (25 ≤ k ∧ k ≤ 32) → M1 k i f = M k i f) → M1 20 0 4 = M 20 0 4 → FX5_test 100 M1 = (match os_t1 cl nf nf 0 with | some q => some (nI (1 + 16 * q.1 + q.2), oa_up (oa_up M1 20 0 30 0) 20 0 13 0) | none => some (0, oa_up (oa_up (oa_up M1 20 0 30 0) 20 0 13 0) 20 0 13 1)) := fun M1 hk h4 => by
    unfold FX5_test
    exact os_mt1 (by rw [os_up (by decide), os_up (by decide), h4]; exact c3.2) c1 (fun n i j hn hi hj => by
      rw [hcl2]
      exact os_mclash ((hp i hi).off (fun k i f h => by rw [os_up (by omega), os_up (by omega)]; exact hk k i f h)) ((hp j hj).off (fun k i f h => by rw [os_up (by omega), os_up (by omega)]; exact hk k i f h)) (by omega) (by omega) hn) nf 0 100 (by omega) (by omega)
  have fin : ∀ (b : Int32) (Mx My : oa_M), (b = 0 ∨ b = 1) → Mx = oa_up My 20 0 13 b → My 0 0 8 = b → My 20 0 4 = M 20 0 4 → (∀ k i f, ¬ (k = 0 ∧ f = 8) → ¬ (k = 20 ∧ (f = 30 ∨ f = 13)) → My k i f = M k i f) → os_I Mx := by
    intro b Mx My hb ex h8 h4 hk
    subst ex
    refine ⟨len, c, size, mem, nf, nl, hT.co ?_ ?_ ?_ (fun j => ?_) (fun j => ?_), hO.co ?_ ?_ (fun j => ?_) (fun j => ?_), hM.co (fun j => ?_) (fun j => ?_), ⟨c1, c2, ⟨?_, ?_⟩, ⟨?_, ?_⟩, ?_, ?_, ?_⟩, hF.co (fun k i f h => ?_), hL.co (fun k i f h => ?_) (fun i f h => ?_)⟩
    all_goals try (rw [os_up (by omega), hk _ _ _ (by omega) (by omega)]; done)
    · rw [os_up (by omega), hk _ _ _ (by omega) (by omega)]; exact c3.1
    · rw [os_up (by omega), hk _ _ _ (by omega) (by omega)]; exact c3.2
    · rw [os_up (by omega), hk _ _ _ (by omega) (by omega)]; exact c4.1
    · rw [os_up (by omega), hk _ _ _ (by omega) (by omega)]; exact c4.2
    · rw [os_up (by omega), os_up (by omega), hk _ _ _ (by omega) (by omega), hk _ _ _ (by omega) (by omega)]; exact c5
    · rw [os_up (by omega), os_up1]; exact h8
    · rw [os_up1]; exact hb
  cases g : os_t1 cl nf nf 0 with
  | some q =>
    rw [g] at e1
    have e3 := e2 (oa_up M 0 0 8 0) (fun k i f h => os_up (by omega)) (os_up (by decide))
    rw [g] at e3
    refine ⟨100, 100, _, _, _, e1, e3, fin 0 _ (oa_up (oa_up M 0 0 8 0) 20 0 30 0) (Or.inl rfl) rfl (by simp [oa_up]) (by simp [oa_up]) (fun k i f h1 h2 => by rw [os_up (by omega), os_up (by omega)])⟩
  | none =>
    rw [g] at e1
    have e3 := e2 (oa_up (oa_up M 0 0 8 0) 0 0 8 1) (fun k i f h => by rw [os_up (by omega), os_up (by omega)]) (by rw [os_up (by decide), os_up (by decide)])
    rw [g] at e3
    refine ⟨100, 100, _, _, _, e1, e3, fin 1 _ (oa_up (oa_up (oa_up (oa_up M 0 0 8 0) 0 0 8 1) 20 0 30 0) 20 0 13 0) (Or.inr rfl) rfl (by simp [oa_up]) (by simp [oa_up]) (fun k i f h1 h2 => by rw [os_up (by omega), os_up (by omega), os_up (by omega), os_up (by omega)])⟩

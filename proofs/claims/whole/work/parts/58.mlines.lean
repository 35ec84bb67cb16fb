/-! assemble: the model's lines -/
section
variable {B : oa_M} {nf nl : Nat} {bt oc : Nat → Nat} {sg : Nat → Nat → Nat} {L : Nat → List Nat} {ms : Nat → Nat} {fm : Nat → Option Nat} {nm : Nat → Bool}
theorem os_mops (hA : os_As B nf nl bt oc sg L ms fm nm) {org k f : Nat} (hk : k < nl) (hf : fm k = some f) (ha : org + os_sum bt fm k + bt f ≤ 64) (hl : ∀ o, o < ms k → os_badl B nl k o = false) {M : oa_M} (hM : os_eqS B M) (h45 : ∀ j, j < nl → M 45 0 j = nI (org + os_sum bt fm j)) : ∀ (r o n : Nat) (M' : oa_M), o + r = ms k → r + 60 < n → (∀ k i f, ¬ k = 46 → M' k i f = M k i f) → (∀ i, i < bt f → M' 46 0 (org + os_sum bt fm k + i) = nI (os_byte (os_Wm B nl bt sg fm org k f o) i)) → ∃ M'', BX5_laid_43 n (nI k) (nI f) (nI (org + os_sum bt fm k)) (nI o) M' = some (os_i (os_fnd (fun o => !os_fo B nl bt sg fm org k f o) r o).isNone, M'') ∧ (∀ k' i' f', ¬ (k' = 46 ∧ i' = 0 ∧ org + os_sum bt fm k ≤ f' ∧ f' < org + os_sum bt fm k + bt f) → M'' k' i' f' = M' k' i' f') ∧ ((os_fnd (fun o => !os_fo B nl bt sg fm org k f o) r o).isNone = true → ∀ i, i < bt f → M'' 46 0 (org + os_sum bt fm k + i) = nI (os_byte (os_Wc B nl bt sg fm org k f (ms k)) i)) := by
  obtain ⟨⟨a1, a2⟩, ⟨a3, a4⟩, aF, aO, aL, aN, aY, aM⟩ := id hA
  obtain ⟨b1, b2, b3, b4, b5⟩ := os_btf hA hk hf
  obtain ⟨⟨m1, m2, m3⟩, -⟩ := aL k hk
  obtain ⟨f1, f2, f3, f4, f5, f6, f7, f8, f9, f10, f11⟩ := aF f b1
  have h12 : oa_in (nI f) 12 = true := on_in b2 (by decide)
  have hcl : (nI f).toNatClampNeg = f := nI_clamp (by omega)
  intro r
  induction r with
  | zero =>
    intro o n M' ho hn hM' h46
    obtain ⟨n', rfl⟩ : ∃ n', n = n' + 1 := ⟨n - 1, by omega⟩
    have hS : os_eqS B M' := fun k i f h => by
      rw [hM' k i f (fun q => h (by unfold os_dyn; omega))]
      exact hM k i f h
    have ho : o = ms k := by omega
    subst ho
    obtain ⟨M'', e1, e2, e3⟩ := os_mfix (ad := org + os_sum bt fm k) b2 ((aF f b1).off (fun k i f h => hS k i f (by unfold os_dyn; omega))) ha (os_Wm B nl bt sg fm org k f (ms k)) (nI k) (8 * bt f) 0 n' M' (by omega) (by omega) (fun _ _ _ _ => rfl) (fun i hi => by
      rw [h46 i hi]
      congr 1
      exact os_byte_ext (by omega) (fun j _ _ => by simp))
    refine ⟨M'', ?_, e2, fun _ i hi => ?_⟩
    · rw [BX5_laid_43, if_pos h12, hcl, hS 28 0 f (by unfold os_dyn; omega), f9.2, if_pos (nI_le (by omega) (by omega))]
      exact e1
    · rw [e3 i hi]
      congr 1
      exact os_byte_ext (by omega) (fun j _ _ => os_Wmc B nl bt sg fm org k f (ms k) j)
  | succ r ih =>
    intro o n M' ho hn hM' h46
    obtain ⟨n', rfl⟩ : ∃ n', n = n' + 1 := ⟨n - 1, by omega⟩
    have hS : os_eqS B M' := fun k i f h => by
      rw [hM' k i f (fun q => h (by unfold os_dyn; omega))]
      exact hM k i f h
    have eo : ∀ k i f, ¬ ((k = 9 ∧ (f = 5 ∨ f = 6)) ∨ k = 3 ∨ k = 45 ∨ k = 46 ∨ k = 36 ∨ (k = 20 ∧ f = 30) ∨ k = 50 ∨ (k = 0 ∧ f = 7)) → M' k i f = B k i f := hS
    have ho3 : o < 3 := by omega
    have h60 : oa_in (nI (3 * k + o)) 60 = true := on_in (by omega) (by decide)
    obtain ⟨sc, o1, o2, o3, o4, o5⟩ := os_op hA b1 ho3
    have hcn := f11 o (by omega)
    have st : BX5_laid_43 (n' + 1) (nI k) (nI f) (nI (org + os_sum bt fm k)) (nI o) M' = BX5_laid_102 (BX5_laid_43 n') n' (nI k) (nI f) (nI (org + os_sum bt fm k)) (nI o) (os_want B nl bt fm org k o) M' := by
      rw [BX5_laid_43, if_pos h12, hcl, eo 28 0 f (by omega), f9.2, if_neg (nI_ge (by omega) (by omega)), os_q3, if_pos h60, nI_clamp (by omega), eo 42 0 _ (by omega), eo 41 0 _ (by omega)]
      unfold os_want
      have hbl := hl o (by omega)
      rcases os_lab hA hk (show o < ms k by omega) with ⟨q1, q2, q3, q4⟩ | ⟨q1, q2, q3, q4⟩
      · rw [if_pos q2, if_pos h60, q1]
        rfl
      · rw [if_neg q2, if_pos h60, (os_flab hA hS k o (n := n') (by omega) _ rfl).2, ob_d, q1]
        cases ht : os_tg B nl k o with
        | none =>
          unfold os_badl at hbl
          rw [q1, ht] at hbl
          cases hbl
        | some j =>
          have hj := os_tg_lt ht
          rw [if_pos (show oa_in (os_bi (some j)) 21 = true from on_in (by omega) (by decide)), show (os_bi (some j)).toNatClampNeg = j from nI_clamp (by omega), hM' 45 0 j (by omega), h45 j hj]
          rfl
    have hfl : os_fv B nl bt sg fm org k f o < 2 ^ 16 := Nat.lt_of_lt_of_le (os_fl_lt _ _ _ _ _ _) (Nat.pow_le_pow_right (by decide) hcn.2)
    have hfd := os_field n' (M := M') (f := f) (o := o) (kd := os_kd B (3 * f + o)) (sc := sc) (cn := os_cnt (os_po (bt f) (sg f) o) 24) b2 ho3 (by rw [eo _ _ _ (by omega)]; exact (f10 o ho3).2) (by rw [eo _ _ _ (by omega)]; exact o3.2) o1 (by rw [eo _ _ _ (by omega)]; exact o4.2) o2 hcn.1 hcn.2 (os_want B nl bt fm org k o) (nI (org + os_sum bt fm k + bt f))
    rw [eo 32 0 _ (by omega), ← o4.2] at hfd
    have hfd : FX5_fieldOf n' (nI f) (nI o) (os_want B nl bt fm org k o) (nI (org + os_sum bt fm k + bt f)) M' = some ((if os_fo B nl bt sg fm org k f o then nI (os_fv B nl bt sg fm org k f o) else -1), M') := hfd
    have st2 : BX5_laid_102 (BX5_laid_43 n') n' (nI k) (nI f) (nI (org + os_sum bt fm k)) (nI o) (os_want B nl bt fm org k o) M' = (if 0 ≤ (if os_fo B nl bt sg fm org k f o then nI (os_fv B nl bt sg fm org k f o) else (-1 : Int32)) then BX5_laid_149 (BX5_laid_43 n') n' (nI k) (nI f) (nI (org + os_sum bt fm k)) (nI o) (os_want B nl bt fm org k o) (if os_fo B nl bt sg fm org k f o then nI (os_fv B nl bt sg fm org k f o) else (-1 : Int32)) (nI (os_cnt (os_po (bt f) (sg f) o) 24)) 0 M' else some ((0 : Int32), M')) := by
      unfold BX5_laid_102
      rw [if_pos h12, hcl, eo 26 0 f (by omega), f6.2, show (8 : Int32) = nI 8 from rfl, on_div (by omega) (by decide), show 8 * bt f / 8 = bt f by omega, nI_add, hfd, ob_d, os_q3, if_pos (on_in (by omega) (by decide)), nI_clamp (by omega), eo 29 0 _ (by omega), (f10 o ho3).2]
    rw [st, st2]
    have hfn : os_fnd (fun o => !os_fo B nl bt sg fm org k f o) (r + 1) o = (if !os_fo B nl bt sg fm org k f o then some o else os_fnd (fun o => !os_fo B nl bt sg fm org k f o) r (o + 1)) := rfl
    rw [hfn]
    rcases Bool.eq_false_or_eq_true (os_fo B nl bt sg fm org k f o) with hfo | hfo
    · rw [hfo]
      simp only [if_true, Bool.not_true, Bool.false_eq_true, if_false]
      rw [if_pos (nI_pos' (by omega))]
      obtain ⟨M1, e1, e2, e3⟩ := os_mbits (M := M') (f := f) (bf := bt f) (ad := org + os_sum bt fm k) (o := o) (fl := os_fv B nl bt sg fm org k f o) (sg := sg f) b2 b5 (by rw [eo _ _ _ (by omega)]; exact f6.2) (fun j hj => ⟨by rw [eo _ _ _ (by omega)]; exact f7 j hj, f2 j hj⟩) ha ho3 hfl hcn.2 (os_Wm B nl bt sg fm org k f o) (nI k) (os_want B nl bt fm org k o) (BX5_laid_43 n') (n' - 8 * bt f - 1) (8 * bt f) 0 M' (by omega) (fun _ _ _ _ => rfl) (fun i hi => by
        rw [h46 i hi]
        congr 1
        exact os_byte_ext (by omega) (fun j _ _ => by simp))
      rw [show n' - 8 * bt f - 1 + 8 * bt f + 1 = n' by omega, show os_cnt (os_po (bt f) (sg f) o) 24 - os_cnt (os_po (bt f) (sg f) o) 0 = os_cnt (os_po (bt f) (sg f) o) 24 from Nat.sub_zero _] at e1
      obtain ⟨M2, g1, g2, g3⟩ := ih (o + 1) n' M1 (by omega) (by omega) (fun k i f h => by rw [e2 k i f (by omega)]; exact hM' k i f h) e3
      exact ⟨M2, e1.trans g1, fun k i f h => by rw [g2 k i f h, e2 k i f h], g3⟩
    · rw [hfo]
      simp only [Bool.not_false, Bool.false_eq_true, if_false, if_true]
      rw [if_neg (by decide)]
      exact ⟨M', rfl, fun _ _ _ _ => rfl, fun h => by cases h⟩
theorem os_mlaid (hA : os_As B nf nl bt oc sg L ms fm nm) {org k f : Nat} (hk : k < nl) (hf : fm k = some f) (ha : org + os_sum bt fm k + bt f ≤ 64) (hl : ∀ o, o < ms k → os_badl B nl k o = false) {M : oa_M} (hM : os_eqS B M) (h45 : ∀ j, j < nl → M 45 0 j = nI (org + os_sum bt fm j)) {n : Nat} (hn : 100 < n) : ∃ M'', FX5_laid n (nI k) (nI f) M = some (os_i (!os_uf B nl bt sg fm ms org k), M'') ∧ (∀ k' i' f', ¬ (k' = 46 ∧ i' = 0 ∧ org + os_sum bt fm k ≤ f' ∧ f' < org + os_sum bt fm k + bt f) → M'' k' i' f' = M k' i' f') ∧ (os_uf B nl bt sg fm ms org k = false → ∀ i, i < bt f → M'' 46 0 (org + os_sum bt fm k + i) = nI (os_byte (os_Wc B nl bt sg fm org k f (ms k)) i)) := by
  obtain ⟨⟨a1, a2⟩, ⟨a3, a4⟩, aF, aO, aL, aN, aY, aM⟩ := id hA
  obtain ⟨b1, b2, b3, b4, b5⟩ := os_btf hA hk hf
  obtain ⟨⟨m1, m2, m3⟩, -⟩ := aL k hk
  obtain ⟨f1, f2, f3, f4, f5, f6, f7, f8, f9, f10, f11⟩ := aF f b1
  obtain ⟨M1, e1, e2, e3⟩ := os_mclear (M := M) (f := f) (bf := bt f) (ad := org + os_sum bt fm k) b2 b5 (by rw [hM 26 0 f (by unfold os_dyn; omega)]; exact f6.2) ha (nI k) (n - bt f - 1) (bt f) 0 M (by omega) (fun _ _ _ _ => rfl)
  rw [show n - bt f - 1 + bt f + 1 = n by omega] at e1
  obtain ⟨M2, g1, g2, g3⟩ := os_mops hA hk hf ha hl hM h45 (ms k) 0 (n - bt f - 1) M1 (by omega) (by omega) (fun k i f h => e2 k i f (by omega)) (fun i hi => by
    rw [e3 i (by omega) hi, show os_byte (os_Wm B nl bt sg fm org k f 0) i = 0 from by
      unfold os_byte
      rw [show os_bits (os_Wm B nl bt sg fm org k f 0) 24 = 0 from os_bits0]
      simp]
    rfl)
  have eu : os_uf B nl bt sg fm ms org k = !(os_fnd (fun o => !os_fo B nl bt sg fm org k f o) (ms k) 0).isNone := by
    rw [os_uf_some hf]
    cases os_fnd (fun o => !os_fo B nl bt sg fm org k f o) (ms k) 0 <;> rfl
  refine ⟨M2, ?_, fun k' i' f' h => by rw [g2 k' i' f' h, e2 k' i' f' (by omega)], fun h => g3 (by rw [eu] at h; simpa using h)⟩
  unfold FX5_laid
  rw [if_pos (on_in (by omega) (by decide)), nI_clamp (by omega), h45 k hk, eu, Bool.not_not]
  exact e1.trans g1
theorem os_mcopy {org S : Nat} (hS : org + S ≤ 64) (x2 : Int32) : ∀ (r j n : Nat) (M : oa_M), j + r = org + S → r < n → ∃ M', BX5_assemble_253 n (nI org) x2 (nI S) (nI j) M = some (nI S, M') ∧ (∀ k i f, ¬ (k = 36 ∧ i = 0 ∧ j ≤ f ∧ f < org + S) → M' k i f = M k i f) ∧ ∀ q, j ≤ q → q < org + S → M' 36 0 q = M 46 0 q := by
  intro r
  induction r with
  | zero =>
    intro j n M hj hn
    obtain ⟨n', rfl⟩ : ∃ n', n = n' + 1 := ⟨n - 1, by omega⟩
    refine ⟨M, ?_, fun _ _ _ _ => rfl, fun q h1 h2 => by omega⟩
    rw [BX5_assemble_253, nI_add, if_pos (nI_le (by omega) (by omega))]
  | succ r ih =>
    intro j n M hj hn
    obtain ⟨n', rfl⟩ : ∃ n', n = n' + 1 := ⟨n - 1, by omega⟩
    obtain ⟨M', e1, e2, e3⟩ := ih (j + 1) n' (oa_up M 36 0 j (M 46 0 j)) (by omega) (by omega)
    refine ⟨M', ?_, fun k i f h => by rw [e2 k i f (by omega)]; exact os_up (by omega), fun q h1 h2 => ?_⟩
    · have h64 : oa_in (nI j) 64 = true := on_in (by omega) (by decide)
      rw [← e1, BX5_assemble_253, nI_add, if_neg (nI_ge (by omega) (by omega)), if_pos h64, if_pos h64, nI_clamp (by omega), nI_1]
    · by_cases e : q = j
      · subst e
        rw [e2 _ _ _ (by omega)]
        exact os_up1
      · rw [e3 q (by omega) h2]
        exact os_up (by omega)
theorem os_mlines (hA : os_As B nf nl bt oc sg L ms fm nm) {org : Nat} (mem : Nat → Nat) (hend : org + os_sum bt fm nl ≤ 64) (hnof : ∀ k, k < nl → os_nof nm fm k = false) (hul : ∀ k, k < nl → ∀ o, o < ms k → os_badl B nl k o = false) (x2 x3 : Int32) (m : Nat) (hm : 120 < m) : ∀ (r i : Nat) (M : oa_M), os_eqS B M → i + r = nl → (∀ j, j < nl → M 45 0 j = nI (org + os_sum bt fm j)) → (∀ j, org ≤ j → j < org + os_sum bt fm i → M 46 0 j = nI (os_img mem bt fm org (fun k f => os_Wc B nl bt sg fm org k f (ms k)) i j)) → ∃ M', BX5_assemble_185 (m + r + 1) (nI org) x2 x3 (nI i) M = (match os_fnd (os_uf B nl bt sg fm ms org) r i with | some k => some (0, oa_up (oa_up M' 20 0 27 (nI k)) 20 0 30 4) | none => BX5_assemble_253 m (nI org) x2 x3 (nI org) M') ∧ (∀ k i f, ¬ k = 46 → M' k i f = M k i f) ∧ (os_fnd (os_uf B nl bt sg fm ms org) r i = none → ∀ j, org ≤ j → j < org + os_sum bt fm nl → M' 46 0 j = nI (os_img mem bt fm org (fun k f => os_Wc B nl bt sg fm org k f (ms k)) nl j)) := by
  obtain ⟨⟨a1, a2⟩, ⟨a3, a4⟩, aF, aO, aL, aN, aY, aM⟩ := id hA
  intro r
  induction r with
  | zero =>
    intro i M hM hi h45 h46
    have hi : i = nl := by omega
    subst hi
    refine ⟨M, ?_, fun _ _ _ _ => rfl, fun _ => h46⟩
    rw [BX5_assemble_185, hM 20 0 17 (by unfold os_dyn; omega), a4, if_pos (nI_le (by omega) (by omega))]
    rfl
  | succ r ih =>
    intro i M hM hi h45 h46
    have hil : i < nl := by omega
    have eo : ∀ k i f, ¬ ((k = 9 ∧ (f = 5 ∨ f = 6)) ∨ k = 3 ∨ k = 45 ∨ k = 46 ∨ k = 36 ∨ (k = 20 ∧ f = 30) ∨ k = 50 ∨ (k = 0 ∧ f = 7)) → M k i f = B k i f := hM
    have h20 : oa_in (nI i) 20 = true := on_in (by omega) (by decide)
    have hfn : os_fnd (os_uf B nl bt sg fm ms org) (r + 1) i = (if os_uf B nl bt sg fm ms org i then some i else os_fnd (os_uf B nl bt sg fm ms org) r (i + 1)) := rfl
    rw [hfn, show m + (r + 1) + 1 = (m + r + 1) + 1 by omega, BX5_assemble_185, eo 20 0 17 (by omega), a4, if_neg (nI_ge (by omega) (by omega)), if_pos h20, nI_clamp (by omega), eo 39 0 i (by omega), eo 40 0 i (by omega)]
    unfold BX5_assemble_244
    rw [nI_1]
    rcases Bool.eq_false_or_eq_true (nm i) with hn1 | hn1
    · obtain ⟨b1, b2, b3⟩ := aY i hil hn1
      have hno := hnof i hil
      cases hf : fm i with
      | none =>
        unfold os_nof at hno
        rw [hn1, hf] at hno
        cases hno
      | some f =>
        obtain ⟨c1, c2, c3, c4, c5⟩ := os_btf hA hil hf
        have hs1 := os_sum_some (bt := bt) hf
        have hs2 := os_sum_mono bt fm (show i + 1 ≤ nl by omega)
        obtain ⟨M1, g1, g2, g3⟩ := os_mlaid hA hil hf (by omega) (hul i hil) hM h45 (n := m + r + 1) (by omega)
        rw [if_neg b2, if_pos h20, if_pos h20, (b3 M (m + r + 1) hM (by omega)).2, ob_d, hf, show FX5_laid (m + r + 1) (nI i) (os_bi (some f)) M = _ from g1, ob_d]
        rcases Bool.eq_false_or_eq_true (os_uf B nl bt sg fm ms org i) with hu | hu
        · rw [hu]
          refine ⟨M1, ?_, fun k i f h => g2 k i f (by omega), fun h => ?_⟩
          · rw [if_pos (by rfl), if_pos rfl]
          · rw [if_pos rfl] at h
            cases h
        · rw [hu]
          obtain ⟨M', e1, e2, e3⟩ := ih (i + 1) M1 (fun k i f h => by
            rw [g2 k i f (fun q => h (by unfold os_dyn; omega))]
            exact hM k i f h) (by omega) (fun j hj => by rw [g2 _ _ _ (by omega)]; exact h45 j hj) (fun j h1 h2 => by
              simp only [os_img, hf]
              by_cases hin : org + os_sum bt fm i ≤ j ∧ j < org + os_sum bt fm i + bt f
              · rw [if_pos hin]
                have := g3 hu (j - (org + os_sum bt fm i)) (by omega)
                rw [show org + os_sum bt fm i + (j - (org + os_sum bt fm i)) = j by omega] at this
                exact this
              · rw [if_neg hin, g2 _ _ _ (by omega)]
                exact h46 j h1 (by omega))
          refine ⟨M', ?_, fun k i f h => by rw [e2 k i f h]; exact g2 k i f (by omega), fun h => e3 (by rw [if_neg (by decide)] at h; exact h)⟩
          rw [if_neg (by decide), if_neg (by decide)]
          exact e1
    · obtain ⟨b1, b2, b3, b4⟩ := aN i hil hn1
      obtain ⟨M', e1, e2, e3⟩ := ih (i + 1) M hM (by omega) h45 (fun j h1 h2 => by
        rw [os_sum_none b4] at h2
        rw [h46 j h1 h2]
        simp only [os_img, b4])
      rw [if_pos b2, os_uf_none b4]
      refine ⟨M', ?_, e2, fun h => e3 (by rw [if_neg (by decide)] at h; exact h)⟩
      rw [if_neg (by decide)]
      exact e1
theorem os_mplace (hA : os_As B nf nl bt oc sg L ms fm nm) {org : Nat} (x2 x3 : Int32) (m : Nat) : ∀ (r i : Nat) (M : oa_M), os_eqS B M → i + r = nl → (∀ j, j < nl → M 45 0 j = nI (if j < i then org + os_sum bt fm j else os_sum bt fm j)) → ∃ M', BX5_assemble_156 (m + r + 1) (nI org) x2 x3 (nI i) M = BX5_assemble_185 m (nI org) x2 x3 0 M' ∧ (∀ k i f, ¬ k = 45 → M' k i f = M k i f) ∧ ∀ j, j < nl → M' 45 0 j = nI (org + os_sum bt fm j) := by
  obtain ⟨⟨a1, a2⟩, ⟨a3, a4⟩, aF, aO, aL, aN, aY, aM⟩ := id hA
  intro r
  induction r with
  | zero =>
    intro i M hM hi h45
    refine ⟨M, ?_, fun _ _ _ _ => rfl, fun j hj => by rw [h45 j hj, if_pos (by omega)]⟩
    rw [BX5_assemble_156, hM 20 0 17 (by unfold os_dyn; omega), a4, if_pos (nI_le (by omega) (by omega))]
  | succ r ih =>
    intro i M hM hi h45
    have h21 : oa_in (nI i) 21 = true := on_in (by omega) (by decide)
    obtain ⟨M', e1, e2, e3⟩ := ih (i + 1) (oa_up M 45 0 i (nI (org + os_sum bt fm i))) (hM.up (by unfold os_dyn; omega) _) (by omega) (fun j hj => by
      by_cases e : j = i
      · subst e
        rw [os_up1, if_pos (by omega)]
      · rw [os_up (by omega), h45 j hj]
        congr 1
        by_cases h : j < i
        · rw [if_pos h, if_pos (by omega)]
        · rw [if_neg h, if_neg (by omega)])
    refine ⟨M', ?_, fun k i f h => by rw [e2 k i f h]; exact os_up (by omega), e3⟩
    rw [← e1, show m + (r + 1) + 1 = (m + r + 1) + 1 by omega, BX5_assemble_156, hM 20 0 17 (by unfold os_dyn; omega), a4, if_neg (nI_ge (by omega) (by omega)), if_pos h21, if_pos h21, nI_clamp (by omega), h45 i (by omega), if_neg (Nat.lt_irrefl i), nI_add, nI_1, Nat.add_comm (os_sum bt fm i) org]
theorem os_mlens (hA : os_As B nf nl bt oc sg L ms fm nm) (hnof : ∀ k, k < nl → os_nof nm fm k = false) (x1 x2 : Int32) (m : Nat) (hm : 20 < m) : ∀ (r i : Nat) (M : oa_M), os_eqS B M → i + r = nl → (∀ j, j < i → M 45 0 j = nI (os_sum bt fm j)) → ∃ M', BX5_assemble_51 (m + r) x1 x2 (nI (os_sum bt fm i)) (nI i) M = BX5_assemble_51 m x1 x2 (nI (os_sum bt fm nl)) (nI nl) M' ∧ (∀ k i f, ¬ k = 45 → M' k i f = M k i f) ∧ ∀ j, j < nl → M' 45 0 j = nI (os_sum bt fm j) := by
  obtain ⟨⟨a1, a2⟩, ⟨a3, a4⟩, aF, aO, aL, aN, aY, aM⟩ := id hA
  intro r
  induction r with
  | zero =>
    intro i M hM hi h45
    have hi : i = nl := by omega
    subst hi
    exact ⟨M, rfl, fun _ _ _ _ => rfl, h45⟩
  | succ r ih =>
    intro i M hM hi h45
    have hil : i < nl := by omega
    have hM1 : os_eqS B (oa_up M 45 0 i (nI (os_sum bt fm i))) := hM.up (by unfold os_dyn; omega) _
    have h21 : oa_in (nI i) 21 = true := on_in (by omega) (by decide)
    have h20 : oa_in (nI i) 20 = true := on_in (by omega) (by decide)
    obtain ⟨M', e1, e2, e3⟩ := ih (i + 1) (oa_up M 45 0 i (nI (os_sum bt fm i))) hM1 (by omega) (fun j hj => by
      by_cases e : j = i
      · subst e
        exact os_up1
      · rw [os_up (by omega)]
        exact h45 j (by omega))
    refine ⟨M', ?_, fun k i f h => by rw [e2 k i f h]; exact os_up (by omega), e3⟩
    rw [← e1, show m + (r + 1) = (m + r) + 1 by omega, BX5_assemble_51, hM 20 0 17 (by unfold os_dyn; omega), a4, if_neg (nI_ge (by omega) (by omega)), if_pos h21, if_pos h20, nI_clamp (by omega), hM 39 0 i (by unfold os_dyn; omega), hM 40 0 i (by unfold os_dyn; omega)]
    unfold BX5_assemble_109
    rw [nI_1]
    rcases Bool.eq_false_or_eq_true (nm i) with hn1 | hn1
    · obtain ⟨b1, b2, b3⟩ := aY i hil hn1
      have hno := hnof i hil
      cases hf : fm i with
      | none =>
        unfold os_nof at hno
        rw [hn1, hf] at hno
        cases hno
      | some f =>
        obtain ⟨c1, c2, c3, c4, c5⟩ := os_btf hA hil hf
        rw [if_neg b2, if_pos h20, if_pos h20, (b3 _ (m + r) hM1 (by omega)).2, ob_d, hf, if_pos (show oa_in (os_bi (some f)) 12 = true from on_in c2 (by decide)), show (os_bi (some f)).toNatClampNeg = f from nI_clamp (by omega), os_up (by omega), hM 26 0 f (by unfold os_dyn; omega), (aF f c1).2.2.2.2.2.1.2, show (8 : Int32) = nI 8 from rfl, on_div (by omega) (by decide), show 8 * bt f / 8 = bt f by omega, nI_add, os_sum_some hf]
    · obtain ⟨b1, b2, b3, b4⟩ := aN i hil hn1
      rw [if_pos b2, os_sum_none b4, Int32.add_zero]
end

/-! a form is read: both sides agree on whether the text tells one -/
theorem os_nm_inj {L L' : List Nat} (h : os_nm L) (h' : os_nm L') : (os_cnm L = os_cnm L' ↔ L = L') ∧ (os_mnm L = os_mnm L' ↔ L = L') := by
  obtain ⟨-, a1, a2, -⟩ := os_nmd h
  obtain ⟨-, b1, b2, -⟩ := os_nmd h'
  have inj : L.map (fun w => 96 + w) = L'.map (fun w => 96 + w) → L = L' := fun q => by
    have := List.map_inj_right (f := fun w : Nat => 96 + w) (fun x y h => by simpa using h) |>.mp q
    exact this
  refine ⟨⟨fun q => inj (by rw [← a1, ← b1, q]), fun q => by rw [q]⟩, ⟨fun q => inj (by rw [← a2, ← b2, q]), fun q => by rw [q]⟩⟩
theorem os_cnm0 {L : List Nat} (h : os_nm L) : (nI (os_cnm L) = 0 ↔ L = []) ∧ (nI (os_mnm L) = 0 ↔ L = []) := by
  have h0 : os_nm [] := ⟨by simp, fun w hw => by cases hw⟩
  obtain ⟨⟨l1, l2⟩, -⟩ := os_nmd h
  rw [os_nIz (by omega), os_nIz (by omega)]
  obtain ⟨i1, i2⟩ := os_nm_inj h h0
  exact ⟨i1, i2⟩
def os_fnd (eq : Nat → Bool) : Nat → Nat → Option Nat
  | 0, _ => none
  | r + 1, i => if eq i then some i else os_fnd eq r (i + 1)
theorem os_fnd_lt (eq : Nat → Bool) : ∀ r i b, os_fnd eq r i = some b → i ≤ b ∧ b < i + r ∧ eq b = true
  | 0, i, b, h => by cases h
  | r + 1, i, b, h => by
    simp only [os_fnd] at h
    by_cases he : eq i = true
    · rw [if_pos he] at h
      cases h
      exact ⟨by omega, by omega, he⟩
    · rw [if_neg he] at h
      obtain ⟨a1, a2, a3⟩ := os_fnd_lt eq r (i + 1) b h
      exact ⟨by omega, by omega, a3⟩
theorem os_cfl {M : oa_M} {nf : Nat} (h5 : M 0 0 5 = nI nf) (hnf : nf ≤ 12) {L : Nat → List Nat} {oc : Nat → Nat} (hL : ∀ i, i < nf → os_nm (L i) ∧ oc i ≤ 3 ∧ M 5 i 1 = nI (os_cnm (L i)) ∧ M 5 i 5 = nI (oc i)) {Lx : List Nat} (hx : os_nm Lx) {q : Nat} (hq : q ≤ 3) :
    ∀ (r i n : Nat), i + r = nf → r < n → BX4_findForm_2 n (nI (os_cnm Lx)) (nI q) (nI i) M = some (os_bi (os_fnd (fun i => decide (L i = Lx) && decide (oc i = q)) r i), M) := by
  intro r
  induction r with
  | zero =>
    intro i n hi hn
    obtain ⟨n', rfl⟩ : ∃ n', n = n' + 1 := ⟨n - 1, by omega⟩
    rw [BX4_findForm_2, h5, if_pos (nI_le (by omega) (by omega))]
    rfl
  | succ r ih =>
    intro i n hi hn
    obtain ⟨n', rfl⟩ : ∃ n', n = n' + 1 := ⟨n - 1, by omega⟩
    obtain ⟨l1, l2, l3, l4⟩ := hL i (by omega)
    have b1 := (os_nmd l1).1.1
    have b2 := (os_nmd hx).1.1
    have rec' : BX4_findForm_38 (BX4_findForm_2 n') n' (nI (os_cnm Lx)) (nI q) (nI i) M = some (os_bi (os_fnd (fun i => decide (L i = Lx) && decide (oc i = q)) r (i + 1)), M) := by
      unfold BX4_findForm_38
      rw [nI_1]
      exact ih (i + 1) n' (by omega) (by omega)
    rw [BX4_findForm_2, h5, if_neg (nI_ge (by omega) (by omega)), if_pos (on_in (by omega) (by decide)), nI_clamp (by omega), l3, l4, if_pos (on_in (by omega) (by decide)), rec']
    simp only [os_fnd]
    by_cases e1 : L i = Lx
    · rw [if_pos (by rw [e1])]
      by_cases e2 : oc i = q
      · rw [if_pos (by rw [e2])]
        simp [e1, e2, os_bi]
      · rw [if_neg (fun z => e2 ((nI_eq (by omega) (by omega)).mp z))]
        simp [e2]
    · rw [if_neg (fun z => e1 ((os_nm_inj l1 hx).1.mp ((nI_eq (by omega) (by omega)).mp z)))]
      simp [e1]
theorem os_mfl {M : oa_M} {nf : Nat} (h5 : M 20 0 4 = nI nf) (hnf : nf ≤ 12) {L : Nat → List Nat} {oc : Nat → Nat} (hL : ∀ i, i < nf → os_nm (L i) ∧ oc i ≤ 3 ∧ M 25 0 i = nI (os_mnm (L i)) ∧ M 28 0 i = nI (oc i)) {Lx : List Nat} (hx : os_nm Lx) {q : Nat} (hq : q ≤ 3) :
    ∀ (r i n : Nat), i + r = nf → r < n → BX5_formOf_2 n (nI (os_mnm Lx)) (nI q) (nI i) M = some (os_bi (os_fnd (fun i => decide (L i = Lx) && decide (oc i = q)) r i), M) := by
  intro r
  induction r with
  | zero =>
    intro i n hi hn
    obtain ⟨n', rfl⟩ : ∃ n', n = n' + 1 := ⟨n - 1, by omega⟩
    rw [BX5_formOf_2, h5, if_pos (nI_le (by omega) (by omega))]
    rfl
  | succ r ih =>
    intro i n hi hn
    obtain ⟨n', rfl⟩ : ∃ n', n = n' + 1 := ⟨n - 1, by omega⟩
    obtain ⟨l1, l2, l3, l4⟩ := hL i (by omega)
    have b1 := (os_nmd l1).1.2
    have b2 := (os_nmd hx).1.2
    have rec' : BX5_formOf_32 (BX5_formOf_2 n') n' (nI (os_mnm Lx)) (nI q) (nI i) M = some (os_bi (os_fnd (fun i => decide (L i = Lx) && decide (oc i = q)) r (i + 1)), M) := by
      unfold BX5_formOf_32
      rw [nI_1]
      exact ih (i + 1) n' (by omega) (by omega)
    rw [BX5_formOf_2, h5, if_neg (nI_ge (by omega) (by omega)), if_pos (on_in (by omega) (by decide)), nI_clamp (by omega), l3, l4, if_pos (on_in (by omega) (by decide)), rec']
    simp only [os_fnd]
    by_cases e1 : L i = Lx
    · rw [if_pos (by rw [e1])]
      by_cases e2 : oc i = q
      · rw [if_pos (by rw [e2])]
        simp [e1, e2, os_bi]
      · rw [if_neg (fun z => e2 ((nI_eq (by omega) (by omega)).mp z))]
        simp [e2]
    · rw [if_neg (fun z => e1 ((os_nm_inj l1 hx).2.mp ((nI_eq (by omega) (by omega)).mp z)))]
      simp [e1]
theorem os_ls_mid (c : Nat → Nat) (len : Nat) : ∀ r p j, j < (os_ls c len r p).length → os_within c len (p + j) 97 122 = true
  | 0, p, j, h => by simp [os_ls] at h
  | r + 1, p, j, h => by
    simp only [os_ls] at h
    by_cases hw : os_within c len p 97 122 = true
    · rw [if_pos hw] at h
      cases j with
      | zero => simpa using hw
      | succ j =>
        have := os_ls_mid c len r (p + 1) j (by simpa using h)
        rw [show p + (j + 1) = p + 1 + j by omega]
        exact this
    · rw [if_neg hw] at h
      simp at h
/-- the text, taken apart -/
def os_A (c : Nat → Nat) (len : Nat) : List Nat := os_ls c len 41 0
def os_pre (c : Nat → Nat) (len : Nat) : Bool := (decide (1 ≤ (os_A c len).length) && decide ((os_A c len).length ≤ 4)) && os_within c len (os_A c len).length 32 32
def os_S (c : Nat → Nat) (len : Nat) : Nat := len - ((os_A c len).length + 1)
def os_sg (c : Nat → Nat) (len : Nat) (j : Nat) : Nat := os_sc (c ((os_A c len).length + 1 + j))
def os_told (c : Nat → Nat) (len : Nat) : Bool := os_pre c len && (os_sz8 (os_S c len) && (os_vd (os_sg c len) (os_S c len) && os_okw (os_wd (os_sg c len) 0 (os_S c len)) (os_wd (os_sg c len) 1 (os_S c len)) (os_wd (os_sg c len) 2 (os_S c len))))
theorem os_A_nm {c : Nat → Nat} {len : Nat} (h : (os_A c len).length ≤ 4) : os_nm (os_A c len) := ⟨h, os_ls_ok c len 41 0⟩
theorem os_begin (n : Nat) {M : oa_M} {i : Nat} (x1 x2 : Int32) (sg : Nat → Nat) : ∃ M', FX0_begin (n + 1 + 1 + 1 + 1) i x1 x2 M = some M' ∧ M' 5 i 1 = x1 ∧ M' 5 i 2 = x2 ∧ M' 5 i 5 = 0 ∧ os_rw M' i sg 0 ∧ ∀ k i' f, ¬ (k = 5 ∧ i' = i) → ¬ (k = 7 ∧ f < 2 ∧ 3 * i ≤ i' ∧ i' < 3 * i + 3) → M' k i' f = M k i' f := by
  unfold FX0_begin
  rw [show (0 : Int32) = nI 0 from rfl]
  rw [BX0_begin_27, if_neg (show ¬ (3 : Int32) ≤ nI 0 from by decide), if_pos (by decide), if_pos (by decide), nI_clamp (by decide), nI_1]
  rw [BX0_begin_27, if_neg (show ¬ (3 : Int32) ≤ nI (0 + 1) from by decide), if_pos (by decide), if_pos (by decide), nI_clamp (by decide), nI_1]
  rw [BX0_begin_27, if_neg (show ¬ (3 : Int32) ≤ nI (0 + 1 + 1) from by decide), if_pos (by decide), if_pos (by decide), nI_clamp (by decide), nI_1]
  rw [BX0_begin_27, if_pos (show (3 : Int32) ≤ nI (0 + 1 + 1 + 1) from by decide)]
  refine ⟨_, rfl, ?_, ?_, ?_, ⟨?_, ?_, fun o ho => ?_⟩, fun k i' f a b => ?_⟩
  · simp [oa_up]
  · simp [oa_up]
  · simp [oa_up]
  · simp [oa_up, os_bits]
  · simp [oa_up, os_bits]
  · rcases (show o = 0 ∨ o = 1 ∨ o = 2 by omega) with rfl | rfl | rfl <;> refine ⟨?_, ?_⟩ <;> simp [oa_up, os_bits, os_cnt] <;> rfl
  · rw [os_up (by omega), os_up (by omega), os_up (by omega), os_up (by omega), os_up (by omega), os_up (by omega), os_up (by omega), os_up (by omega), os_up (by omega), os_up (by omega), os_up (by omega)]
set_option maxHeartbeats 2000000 in
theorem os_creadForm {M : oa_M} {len i : Nat} {c : Nat → Nat} (h : os_tx M len c 0) : ∃ M', FX4_readForm 100 i M = some (os_i (os_told c len), M') ∧ os_k5 i M M' ∧ (os_told c len = true → M' 5 i 1 = nI (os_cnm (os_A c len)) ∧ M' 5 i 2 = nI (os_S c len / 8) ∧ os_rw M' i (os_sg c len) (os_S c len) ∧ M' 5 i 5 = nI (os_ocn (os_wd (os_sg c len) 0 (os_S c len)) (os_wd (os_sg c len) 1 (os_S c len)) (os_wd (os_sg c len) 2 (os_S c len)))) := by
  have hlen := h.1
  have hA4 : os_ls c len 4 0 = (os_A c len).take 4 := os_ls_take c len 4 41 0 (by decide)
  have hAl : (os_A c len).length ≤ len := by have := os_ls_end c len 41 0 (Nat.zero_le _); simpa [os_A] using this
  obtain ⟨M1, a1, a2, a3⟩ := os_takeName h (by decide) (n := 100) (by decide)
  have l4 : (os_ls c len 4 0).length = min 4 (os_A c len).length := by rw [hA4, List.length_take]
  have hnm4 : os_nm (os_ls c len 4 0) := ⟨by rw [l4]; omega, os_ls_ok c len 4 0⟩
  rw [Nat.zero_add] at a2
  unfold FX4_readForm
  rw [a1, ob_d]
  have no : ∀ M', os_k5 i M M' → os_told c len = false → ∃ M'', some ((0 : Int32), M') = some (os_i (os_told c len), M'') ∧ os_k5 i M M'' ∧ (os_told c len = true → M'' 5 i 1 = nI (os_cnm (os_A c len)) ∧ M'' 5 i 2 = nI (os_S c len / 8) ∧ os_rw M'' i (os_sg c len) (os_S c len) ∧ M'' 5 i 5 = nI (os_ocn (os_wd (os_sg c len) 0 (os_S c len)) (os_wd (os_sg c len) 1 (os_S c len)) (os_wd (os_sg c len) 2 (os_S c len)))) := fun M' hf ht => ⟨M', by rw [ht]; rfl, hf, fun q => by rw [ht] at q; cases q⟩
  by_cases h0 : (os_A c len).length = 0
  · have : os_ls c len 4 0 = [] := List.eq_nil_of_length_eq_zero (by omega)
    rw [if_pos ((os_cnm0 hnm4).1.mpr this)]
    exact no M1 a3.k5 (by simp [os_told, os_pre, h0])
  have ne : os_ls c len 4 0 ≠ [] := fun q => by rw [q] at l4; simp at l4; omega
  rw [if_neg (fun q => ne ((os_cnm0 hnm4).1.mp q)), show (32 : Int32) = nI 32 from rfl, os_take 100 a2 (by decide)]
  rcases (Bool.eq_false_or_eq_true (os_pre c len)).symm with hpre | hpre
  · have hw : os_within c len (os_ls c len 4 0).length 32 32 = false := by
      rw [l4]
      by_cases h5 : (os_A c len).length ≤ 4
      · rw [Nat.min_eq_right h5]
        cases g : os_within c len (os_A c len).length 32 32 with
        | false => rfl
        | true => exact absurd hpre (by unfold os_pre; rw [g, decide_eq_true (show 1 ≤ (os_A c len).length by omega), decide_eq_true h5]; decide)
      · rw [Nat.min_eq_left (by omega)]
        have := os_ls_mid c len 41 0 4 (by show 4 < (os_A c len).length; omega)
        rw [Nat.zero_add] at this
        unfold os_within at this ⊢
        simp at this ⊢
        omega
    rw [hw, if_neg (by decide), ob_d, if_pos rfl]
    exact no M1 a3.k5 (by simp [os_told, hpre])
  have hp := hpre
  unfold os_pre at hp
  simp only [Bool.and_eq_true, decide_eq_true_eq] at hp
  obtain ⟨⟨p1, p4⟩, pw⟩ := hp
  have hls : os_ls c len 4 0 = os_A c len := by rw [hA4]; exact List.take_of_length_le p4
  have hlt : (os_A c len).length < len := by unfold os_within at pw; simp at pw; exact pw.1
  rw [hls] at a2 ⊢
  rw [pw, if_pos rfl, ob_d, if_neg (by decide)]
  obtain ⟨s1, s2⟩ := os_step a2 (by omega)
  rw [os_left 100 s1 (by omega), ob_d]
  have hSd : len - ((os_A c len).length + 1) = os_S c len := rfl
  rw [hSd]
  have hSl : (os_A c len).length + 1 + os_S c len = len := by unfold os_S; omega
  obtain ⟨M2, hM2⟩ : ∃ M2 : oa_M, M2 = oa_up M1 1 0 2 (nI ((os_A c len).length + 1)) := ⟨_, rfl⟩
  rw [← hM2] at s1 s2 ⊢
  have f2 : os_k5 i M M2 := a3.k5.tr s2.k5
  have chain : ∀ X : Option (Int32 × oa_M), (if nI (os_S c len) = (8 : Int32) then X else (if nI (os_S c len) = (16 : Int32) then X else (if nI (os_S c len) = (24 : Int32) then X else (some ((0 : Int32), M2))))) = (if os_sz8 (os_S c len) then X else some (0, M2)) := fun X => by
    have hSb : os_S c len ≤ 40 := by omega
    unfold os_sz8
    by_cases q8 : os_S c len = 8
    · rw [if_pos (by rw [q8]; rfl)]; simp [q8]
    · rw [if_neg (show ¬ nI (os_S c len) = (8 : Int32) from fun q => q8 ((nI_eq (b := 8) (by omega) (by decide)).mp q))]
      by_cases q16 : os_S c len = 16
      · rw [if_pos (by rw [q16]; rfl)]; simp [q16]
      · rw [if_neg (show ¬ nI (os_S c len) = (16 : Int32) from fun q => q16 ((nI_eq (b := 16) (by omega) (by decide)).mp q))]
        by_cases q24 : os_S c len = 24
        · rw [if_pos (by rw [q24]; rfl)]; simp [q24]
        · rw [if_neg (show ¬ nI (os_S c len) = (24 : Int32) from fun q => q24 ((nI_eq (b := 24) (by omega) (by decide)).mp q))]; simp [q8, q16, q24]
  rw [chain]
  rcases (Bool.eq_false_or_eq_true (os_sz8 (os_S c len))).symm with hsz | hsz
  · rw [hsz, if_neg (by decide)]
    exact no M2 f2 (by simp [os_told, hsz])
  rw [hsz, if_pos rfl]
  have hS24 : os_S c len ≤ 24 := by unfold os_sz8 at hsz; simp at hsz; omega
  unfold BX4_readForm_54
  rw [show (8 : Int32) = nI 8 from rfl, on_div (by omega) (by decide)]
  obtain ⟨M3, b1, b2, b3, b4, b5, b6⟩ := os_begin 96 (M := M2) (i := i) (nI (os_cnm (os_A c len))) (nI (os_S c len / 8)) (os_sg c len)
  rw [show FX0_begin 100 i (nI (os_cnm (os_A c len))) (nI (os_S c len / 8)) M2 = some M3 from b1, ob_v]
  have f3 : os_k5 i M M3 := f2.tr (fun k i' f _ b c => b6 k i' f b c)
  have t3 : os_tx M3 len c ((os_A c len).length + 1 + 0) := os_k5.tx b6 s1
  obtain ⟨M4, c1, c2, c3, c4⟩ := os_csl (i := i) hS24 hSl (sg := os_sg c len) (fun j _ => rfl) (nI (os_cnm (os_A c len))) (os_S c len) 0 100 M3 (by omega) (by omega) t3 b5 rfl
  rcases (Bool.eq_false_or_eq_true (os_vd (os_sg c len) (os_S c len))).symm with hvd | hvd
  · rw [show BX4_readForm_66 100 i (nI (os_cnm (os_A c len))) (nI (os_S c len)) 0 M3 = _ from c4 hvd]
    exact no M4 (f3.tr c1) (by simp [os_told, hvd])
  obtain ⟨d1, d2⟩ := c3 hvd
  rw [show BX4_readForm_66 100 i (nI (os_cnm (os_A c len))) (nI (os_S c len)) 0 M3 = _ from d2]
  have wdt : ∀ o, o < 3 → M4 7 (3 * i + o) 1 = nI (os_wd (os_sg c len) o (os_S c len)) := fun o ho => (d1.2.2 o ho).2
  have wl : ∀ o, os_wd (os_sg c len) o (os_S c len) ≤ 24 := fun o => Nat.le_trans (os_cnt_le _ _) hS24
  obtain ⟨M5, g1, g2, g3⟩ := os_cco (i := i) (M := M4) (wl 0) (wl 1) (wl 2) (by rw [c2.2.2]; exact b4) (wdt 0 (by decide)) (wdt 1 (by decide)) (wdt 2 (by decide)) (n := 100 - os_S c len - 1) (by omega)
  rw [g1, ob_d, os_nz]
  have et : os_told c len = os_okw (os_wd (os_sg c len) 0 (os_S c len)) (os_wd (os_sg c len) 1 (os_S c len)) (os_wd (os_sg c len) 2 (os_S c len)) := by unfold os_told; rw [hpre, hsz, hvd]; rfl
  refine ⟨M5, by rw [et], (f3.tr c1).tr (fun k i' f a b c => g3 k i' f (by omega)), fun ht => ⟨?_, ?_, ⟨?_, ?_, fun o ho => ?_⟩, ?_⟩⟩
  · rw [g3 5 i 1 (by omega), c2.1, b2]
  · rw [g3 5 i 2 (by omega), c2.2.1, b3]
  · rw [g3 5 i 3 (by omega)]; exact d1.1
  · rw [g3 5 i 4 (by omega)]; exact d1.2.1
  · rw [g3 7 _ 0 (by omega), g3 7 _ 1 (by omega)]; exact d1.2.2 o ho
  · rw [et] at ht; exact g2 ht

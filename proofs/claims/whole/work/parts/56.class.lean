/-! assemble: places, and the class's bytes -/
def os_len (bt : Nat → Nat) (fm : Nat → Option Nat) (k : Nat) : Nat := match fm k with
  | none => 0
  | some f => bt f
def os_sum (bt : Nat → Nat) (fm : Nat → Option Nat) : Nat → Nat
  | 0 => 0
  | k + 1 => os_sum bt fm k + os_len bt fm k
def os_want (B : oa_M) (nl : Nat) (bt : Nat → Nat) (fm : Nat → Option Nat) (org k o : Nat) : Int32 := if os_lb B k o then (match os_tg B nl k o with | none => 0 | some j => nI (org + os_sum bt fm j)) else B 41 0 (3 * k + o)
def os_kd (B : oa_M) (q : Nat) : Nat := (B 30 0 q).toNatClampNeg
def os_fo (B : oa_M) (nl : Nat) (bt : Nat → Nat) (sg : Nat → Nat → Nat) (fm : Nat → Option Nat) (org k f o : Nat) : Bool := os_fit (os_kd B (3 * f + o)) (os_cnt (os_po (bt f) (sg f) o) 24) (B 31 0 (3 * f + o)) (B 32 0 (3 * f + o)) (os_want B nl bt fm org k o) (nI (org + os_sum bt fm k + bt f))
def os_fv (B : oa_M) (nl : Nat) (bt : Nat → Nat) (sg : Nat → Nat → Nat) (fm : Nat → Option Nat) (org k f o : Nat) : Nat := os_fl (os_kd B (3 * f + o)) (os_cnt (os_po (bt f) (sg f) o) 24) (B 31 0 (3 * f + o)) (B 32 0 (3 * f + o)) (os_want B nl bt fm org k o) (nI (org + os_sum bt fm k + bt f))
def os_Qo (B : oa_M) (nl : Nat) (bt : Nat → Nat) (sg : Nat → Nat → Nat) (fm : Nat → Option Nat) (org k f o : Nat) : Nat → Bool := os_Q (os_po (bt f) (sg f) o) (os_fv B nl bt sg fm org k f o)
def os_Wc (B : oa_M) (nl : Nat) (bt : Nat → Nat) (sg : Nat → Nat → Nat) (fm : Nat → Option Nat) (org k f : Nat) : Nat → Nat → Bool
  | 0, j => os_p1 (bt f) (sg f) j
  | o + 1, j => os_Wc B nl bt sg fm org k f o j || os_Qo B nl bt sg fm org k f o j
def os_img (mem : Nat → Nat) (bt : Nat → Nat) (fm : Nat → Option Nat) (org : Nat) (W : Nat → Nat → Nat → Bool) : Nat → Nat → Nat
  | 0, j => mem j
  | k + 1, j => match fm k with
    | none => os_img mem bt fm org W k j
    | some f => if org + os_sum bt fm k ≤ j ∧ j < org + os_sum bt fm k + bt f then os_byte (W k f) (j - (org + os_sum bt fm k)) else os_img mem bt fm org W k j
section
variable {B : oa_M} {nf nl : Nat} {bt oc : Nat → Nat} {sg : Nat → Nat → Nat} {L : Nat → List Nat} {ms : Nat → Nat} {fm : Nat → Option Nat} {nm : Nat → Bool}
theorem os_btf (hA : os_As B nf nl bt oc sg L ms fm nm) {k f : Nat} (hk : k < nl) (h : fm k = some f) : f < nf ∧ f < 12 ∧ oc f = ms k ∧ 1 ≤ bt f ∧ bt f ≤ 3 := by
  obtain ⟨⟨a1, a2⟩, ⟨a3, a4⟩, aF, aO, aL, aN, aY, aM⟩ := hA
  obtain ⟨h1, h2⟩ := aM k f hk h
  have := (aF f h1).1
  exact ⟨h1, by omega, h2, this.1, this.2⟩
theorem os_len3 (hA : os_As B nf nl bt oc sg L ms fm nm) {k : Nat} (hk : k < nl) : os_len bt fm k ≤ 3 := by
  unfold os_len
  cases h : fm k with
  | none => exact Nat.zero_le _
  | some f => exact (os_btf hA hk h).2.2.2.2
theorem os_sum60 (hA : os_As B nf nl bt oc sg L ms fm nm) : ∀ k, k ≤ nl → os_sum bt fm k ≤ 3 * k
  | 0, _ => Nat.zero_le _
  | k + 1, h => by
    have := os_sum60 hA k (by omega)
    have := os_len3 hA (k := k) (by omega)
    simp only [os_sum]
    omega
theorem os_sum_le (bt : Nat → Nat) (fm : Nat → Option Nat) (a : Nat) : ∀ d, os_sum bt fm a ≤ os_sum bt fm (a + d)
  | 0 => Nat.le_refl _
  | d + 1 => by
    have := os_sum_le bt fm a d
    rw [← Nat.add_assoc]
    simp only [os_sum]
    omega
theorem os_sum_mono (bt : Nat → Nat) (fm : Nat → Option Nat) {a b : Nat} (h : a ≤ b) : os_sum bt fm a ≤ os_sum bt fm b := by
  have := os_sum_le bt fm a (b - a)
  rwa [show a + (b - a) = b by omega] at this
theorem os_sum_some {k f : Nat} (h : fm k = some f) : os_sum bt fm (k + 1) = os_sum bt fm k + bt f := by
  simp only [os_sum, os_len, h]
theorem os_sum_none {k : Nat} (h : fm k = none) : os_sum bt fm (k + 1) = os_sum bt fm k := by
  simp only [os_sum, os_len, h, Nat.add_zero]
theorem os_cplace (hA : os_As B nf nl bt oc sg L ms fm nm) {org : Nat} (x1 : Int32) : ∀ (r i n : Nat) (M : oa_M), os_eqS B M → i + r = nl → r < n → (∀ k, k < nl → M 9 k 6 = os_bi (fm k)) → (∀ k, k < i → M 9 k 5 = nI (org + os_sum bt fm k)) → ∃ M', BX4_placeLines_4 n x1 (nI (org + os_sum bt fm i)) (nI i) M = some (nI (org + os_sum bt fm nl), M') ∧ os_eqS B M' ∧ (∀ k i f, ¬ (k = 9 ∧ f = 5) → M' k i f = M k i f) ∧ ∀ k, k < nl → M' 9 k 5 = nI (org + os_sum bt fm k) := by
  obtain ⟨⟨a1, a2⟩, ⟨a3, a4⟩, aF, aO, aL, aN, aY, aM⟩ := id hA
  intro r
  induction r with
  | zero =>
    intro i n M hM hi hn h6 h5
    obtain ⟨n', rfl⟩ : ∃ n', n = n' + 1 := ⟨n - 1, by omega⟩
    have hi : i = nl := by omega
    subst hi
    refine ⟨M, ?_, hM, fun _ _ _ _ => rfl, h5⟩
    rw [BX4_placeLines_4, hM 0 0 6 (by unfold os_dyn; omega), a3, if_pos (nI_le (by omega) (by omega))]
  | succ r ih =>
    intro i n M hM hi hn h6 h5
    obtain ⟨n', rfl⟩ : ∃ n', n = n' + 1 := ⟨n - 1, by omega⟩
    have h21 : oa_in (nI i) 21 = true := on_in (by omega) (by decide)
    have h51 : ∀ k, k < i + 1 → oa_up M 9 i 5 (nI (org + os_sum bt fm i)) 9 k 5 = nI (org + os_sum bt fm k) := fun k hk => by
      by_cases e : k = i
      · subst e
        exact os_up1
      · rw [os_up (by omega)]
        exact h5 k (by omega)
    obtain ⟨M', e1, e2, e3, e4⟩ := ih (i + 1) n' (oa_up M 9 i 5 (nI (org + os_sum bt fm i))) (hM.up (by unfold os_dyn; omega) _) (by omega) (by omega) (fun k hk => by rw [os_up (by omega)]; exact h6 k hk) h51
    refine ⟨M', ?_, e2, fun k i f h => by rw [e3 k i f h]; exact os_up (by omega), e4⟩
    rw [← e1, BX4_placeLines_4, hM 0 0 6 (by unfold os_dyn; omega), a3, if_neg (nI_ge (by omega) (by omega)), if_pos h21, if_pos h21, nI_clamp (by omega), os_up (by omega), h6 i (by omega)]
    unfold BX4_placeLines_49
    rw [nI_1]
    cases hf : fm i with
    | none => rw [if_pos (show os_bi none < 0 from by decide), os_sum_none hf]
    | some f =>
      obtain ⟨b1, b2, b3, b4, b5⟩ := os_btf hA (show i < nl by omega) hf
      rw [if_neg (show ¬ os_bi (some f) < 0 from nI_pos (by omega)), if_pos h21, if_pos (show oa_in (os_bi (some f)) 13 = true from on_in (by omega) (by decide)), show (os_bi (some f)).toNatClampNeg = f from nI_clamp (by omega), hM 5 f 2 (by unfold os_dyn; omega), (aF f b1).2.2.2.2.2.1.1, nI_add, os_sum_some hf, Nat.add_assoc]
theorem os_cwant (hA : os_As B nf nl bt oc sg L ms fm nm) {M : oa_M} (hM : os_eqS B M) {org : Nat} (h5 : ∀ k, k < nl → M 9 k 5 = nI (org + os_sum bt fm k)) {k o : Nat} (hk : k < nl) (ho : o < ms k) {n : Nat} (hn : 20 < n) : FX4_wanted n k (nI o) M = some (os_want B nl bt fm org k o, M) := by
  obtain ⟨⟨a1, a2⟩, ⟨a3, a4⟩, aF, aO, aL, aN, aY, aM⟩ := id hA
  have hm := (aL k hk).1.1
  have h3 : oa_in (nI o) 3 = true := on_in (by omega) (by decide)
  unfold FX4_wanted BX4_wanted_46 os_want
  rw [if_pos h3, nI_clamp (by omega), hM 10 k o (by unfold os_dyn; omega), hM 11 k o (by unfold os_dyn; omega)]
  rcases os_lab hA hk ho with ⟨q1, q2, q3, q4⟩ | ⟨q1, q2, q3, q4⟩
  · rw [if_pos q3, if_pos h3, q4, q1]
    rfl
  · rw [if_neg q3, if_pos h3, (os_flab hA hM k o hn _ q4).1, ob_d, q1]
    cases ht : os_tg B nl k o with
    | none => rfl
    | some j =>
      have hj := os_tg_lt ht
      rw [if_neg (show ¬ os_bi (some j) = (-1 : Int32) from on_ltm1 (by omega)), if_pos (show oa_in (os_bi (some j)) 21 = true from on_in (by omega) (by decide)), show (os_bi (some j)).toNatClampNeg = j from nI_clamp (by omega), h5 j hj]
      rfl
theorem os_op (hA : os_As B nf nl bt oc sg L ms fm nm) {f o : Nat} (hf : f < nf) (ho : o < 3) : ∃ sc, os_kd B (3 * f + o) ≤ 2 ∧ (1 ≤ sc ∧ sc ≤ 8) ∧ (B 7 (3 * f + o) 2 = nI (os_kd B (3 * f + o)) ∧ B 30 0 (3 * f + o) = nI (os_kd B (3 * f + o))) ∧ (B 7 (3 * f + o) 3 = nI sc ∧ B 31 0 (3 * f + o) = nI sc) ∧ B 7 (3 * f + o) 4 = B 32 0 (3 * f + o) := by
  obtain ⟨⟨a1, a2⟩, ⟨a3, a4⟩, aF, aO, aL, aN, aY, aM⟩ := id hA
  obtain ⟨kd, sc, fo, p1, p2, p3, p4, p5, p6⟩ := aO f o hf ho
  have e : os_kd B (3 * f + o) = kd := by unfold os_kd; rw [p4.2, nI_clamp (by omega)]
  exact ⟨sc, by omega, p2, by rw [e]; exact p4, p5, p6.1⟩
theorem os_cfits (hA : os_As B nf nl bt oc sg L ms fm nm) {M : oa_M} (hM : os_eqS B M) {org : Nat} (h5 : ∀ k, k < nl → M 9 k 5 = nI (org + os_sum bt fm k)) {k f : Nat} (hk : k < nl) (hf : fm k = some f) : ∀ (r o n : Nat), o + r = ms k → r + 21 < n → BX4_fits_2 n k f (nI o) M = some (os_i (os_fnd (fun o => !os_fo B nl bt sg fm org k f o) r o).isNone, M) := by
  obtain ⟨⟨a1, a2⟩, ⟨a3, a4⟩, aF, aO, aL, aN, aY, aM⟩ := id hA
  have eo : ∀ k i f, ¬ ((k = 9 ∧ (f = 5 ∨ f = 6)) ∨ k = 3 ∨ k = 45 ∨ k = 46 ∨ k = 36 ∨ (k = 20 ∧ f = 30) ∨ k = 50 ∨ (k = 0 ∧ f = 7)) → M k i f = B k i f := hM
  obtain ⟨b1, b2, b3, b4, b5⟩ := os_btf hA hk hf
  obtain ⟨⟨m1, m2, m3⟩, -⟩ := aL k hk
  obtain ⟨f1, f2, f3, f4, f5, f6, f7, f8, f9, f10, f11⟩ := aF f b1
  intro r
  induction r with
  | zero =>
    intro o n ho hn
    obtain ⟨n', rfl⟩ : ∃ n', n = n' + 1 := ⟨n - 1, by omega⟩
    rw [BX4_fits_2, eo 9 k 4 (by omega), m2, if_pos (nI_le (by omega) (by omega))]
    rfl
  | succ r ih =>
    intro o n ho hn
    obtain ⟨n', rfl⟩ : ∃ n', n = n' + 1 := ⟨n - 1, by omega⟩
    have ih2 := ih (o + 1) n' (by omega) (by omega)
    have ho3 : o < 3 := by omega
    obtain ⟨sc, o1, o2, o3, o4, o5⟩ := os_op hA b1 ho3
    rw [BX4_fits_2, eo 9 k 4 (by omega), m2, if_neg (nI_ge (by omega) (by omega)), if_pos (on_in ho3 (by decide)), os_cwant hA hM h5 hk (show o < ms k by omega) (by omega), ob_d, nI_clamp (by omega), h5 k hk, eo 5 f 2 (by omega), f6.1, nI_add, os_reach n' (P := os_po (bt f) (sg f) o) (kd := os_kd B (3 * f + o)) (sc := sc) ⟨by rw [eo _ _ _ (by omega)]; exact (f10 o ho3).1.1, by rw [eo _ _ _ (by omega)]; exact (f10 o ho3).1.2⟩ (by rw [eo _ _ _ (by omega)]; exact o3.1) o1 (by rw [eo _ _ _ (by omega)]; exact o4.1) o2 (f11 o (by omega)).1 (f11 o (by omega)).2, ob_d, eo 7 _ 4 (by omega), o5, ← o4.2, nI_1, ih2]
    show (if os_i (os_fo B nl bt sg fm org k f o) = 0 then some ((0 : Int32), M) else some (os_i (os_fnd (fun o => !os_fo B nl bt sg fm org k f o) r (o + 1)).isNone, M)) = some (os_i (if !os_fo B nl bt sg fm org k f o then some o else os_fnd (fun o => !os_fo B nl bt sg fm org k f o) r (o + 1)).isNone, M)
    cases os_fo B nl bt sg fm org k f o with
    | true => rw [if_neg (by decide)]; rfl
    | false => rw [if_pos (by rfl)]; rfl
def os_uf (B : oa_M) (nl : Nat) (bt : Nat → Nat) (sg : Nat → Nat → Nat) (fm : Nat → Option Nat) (ms : Nat → Nat) (org k : Nat) : Bool := match fm k with
  | none => false
  | some f => (os_fnd (fun o => !os_fo B nl bt sg fm org k f o) (ms k) 0).isSome
theorem os_uf_none {org k : Nat} (h : fm k = none) : os_uf B nl bt sg fm ms org k = false := by unfold os_uf; rw [h]
theorem os_uf_some {org k f : Nat} (h : fm k = some f) : os_uf B nl bt sg fm ms org k = (os_fnd (fun o => !os_fo B nl bt sg fm org k f o) (ms k) 0).isSome := by unfold os_uf; rw [h]
theorem os_cunfit (hA : os_As B nf nl bt oc sg L ms fm nm) {M : oa_M} (hM : os_eqS B M) {org : Nat} (h5 : ∀ k, k < nl → M 9 k 5 = nI (org + os_sum bt fm k)) (h6 : ∀ k, k < nl → M 9 k 6 = os_bi (fm k)) : ∀ (r i n : Nat), i + r = nl → r + 30 < n → BX4_firstUnfit_2 n (nI i) M = some (os_bi (os_fnd (os_uf B nl bt sg fm ms org) r i), M) := by
  obtain ⟨⟨a1, a2⟩, ⟨a3, a4⟩, aF, aO, aL, aN, aY, aM⟩ := id hA
  have e6 : M 0 0 6 = nI nl := by rw [hM _ _ _ (by unfold os_dyn; omega)]; exact a3
  intro r
  induction r with
  | zero =>
    intro i n hi hn
    obtain ⟨n', rfl⟩ : ∃ n', n = n' + 1 := ⟨n - 1, by omega⟩
    rw [BX4_firstUnfit_2, e6, if_pos (nI_le (by omega) (by omega))]
    rfl
  | succ r ih =>
    intro i n hi hn
    obtain ⟨n', rfl⟩ : ∃ n', n = n' + 1 := ⟨n - 1, by omega⟩
    have ih2 := ih (i + 1) n' (by omega) (by omega)
    have hm := (aL i (by omega)).1.1
    have h21 : oa_in (nI i) 21 = true := on_in (by omega) (by decide)
    rw [BX4_firstUnfit_2, e6, if_neg (nI_ge (by omega) (by omega)), if_pos h21, nI_clamp (by omega), h6 i (by omega)]
    unfold BX4_firstUnfit_46
    rw [nI_1]
    simp only [os_fnd]
    cases hf : fm i with
    | none =>
      rw [if_pos (show os_bi none < 0 from by decide), ih2, os_uf_none hf]
      rfl
    | some f =>
      obtain ⟨b1, b2, b3, b4, b5⟩ := os_btf hA (show i < nl by omega) hf
      rw [if_neg (show ¬ os_bi (some f) < 0 from nI_pos (by omega)), if_pos h21, if_pos h21, if_pos (show oa_in (os_bi (some f)) 13 = true from on_in (by omega) (by decide)), show (os_bi (some f)).toNatClampNeg = f from nI_clamp (by omega), show FX4_fits n' i f M = BX4_fits_2 n' i f (nI 0) M from rfl, os_cfits hA hM h5 (by omega) hf (ms i) 0 n' (by omega) (by omega), ob_d, os_uf_some hf, ih2]
      cases os_fnd (fun o => !os_fo B nl bt sg fm org i f o) (ms i) 0 with
      | none => rw [if_neg (by decide)]; rfl
      | some b => rw [if_pos (by rfl)]; rfl
theorem os_cword (hA : os_As B nf nl bt oc sg L ms fm nm) {M : oa_M} (hM : os_eqS B M) {org : Nat} (h5 : ∀ k, k < nl → M 9 k 5 = nI (org + os_sum bt fm k)) {k f : Nat} (hk : k < nl) (hf : fm k = some f) (m : Nat) (hm : 25 < m) : ∀ (r o : Nat), o + r = ms k → BX4_putInstruction_8 (m + r + 1) k f (nI (os_bits (os_Wc B nl bt sg fm org k f o) 24)) (nI o) M = BX4_putInstruction_55 m k f (nI (os_bits (os_Wc B nl bt sg fm org k f (ms k)) 24)) 0 M := by
  obtain ⟨⟨a1, a2⟩, ⟨a3, a4⟩, aF, aO, aL, aN, aY, aM⟩ := id hA
  have eo : ∀ k i f, ¬ ((k = 9 ∧ (f = 5 ∨ f = 6)) ∨ k = 3 ∨ k = 45 ∨ k = 46 ∨ k = 36 ∨ (k = 20 ∧ f = 30) ∨ k = 50 ∨ (k = 0 ∧ f = 7)) → M k i f = B k i f := hM
  obtain ⟨b1, b2, b3, b4, b5⟩ := os_btf hA hk hf
  obtain ⟨⟨m1, m2, m3⟩, -⟩ := aL k hk
  obtain ⟨f1, f2, f3, f4, f5, f6, f7, f8, f9, f10, f11⟩ := aF f b1
  intro r
  induction r with
  | zero =>
    intro o ho
    have ho : o = ms k := by omega
    subst ho
    rw [BX4_putInstruction_8, eo 9 k 4 (by omega), m2, if_pos (nI_le (by omega) (by omega))]
  | succ r ih =>
    intro o ho
    have ih2 := ih (o + 1) (by omega)
    have ho3 : o < 3 := by omega
    obtain ⟨sc, o1, o2, o3, o4, o5⟩ := os_op hA b1 ho3
    rw [show m + (r + 1) + 1 = (m + r + 1) + 1 by omega, BX4_putInstruction_8, eo 9 k 4 (by omega), m2, if_neg (nI_ge (by omega) (by omega)), if_pos (on_in ho3 (by decide)), os_cwant hA hM h5 hk (show o < ms k by omega) (by omega), ob_d, nI_clamp (by omega), h5 k hk, eo 5 f 2 (by omega), f6.1, nI_add, os_bitsF (P := os_po (bt f) (sg f) o) (kd := os_kd B (3 * f + o)) (sc := sc) (by rw [eo _ _ _ (by omega)]; exact (f10 o ho3).1.1) (by rw [eo _ _ _ (by omega)]; exact o3.1) o1 (by rw [eo _ _ _ (by omega)]; exact o4.1) o2 (f11 o (by omega)).2 _ _ (by omega), ob_d, eo 7 _ 4 (by omega), o5, ← o4.2, nI_1, on_or, os_bor, ← ih2]
    rfl
theorem os_cbytes {M : oa_M} {k f ad bf : Nat} (W : Nat → Bool) (h2 : M 5 f 2 = nI bf) (hb : bf ≤ 3) (h5 : M 9 k 5 = nI ad) (ha : ad + bf ≤ 64) : ∀ (r i n : Nat) (M' : oa_M), i + r = bf → r < n → (∀ k i f, ¬ k = 3 → M' k i f = M k i f) → ∃ M'', BX4_putInstruction_55 n k f (nI (os_bits W 24)) (nI i) M' = some M'' ∧ (∀ k i' f, ¬ (k = 3 ∧ i' = 0 ∧ ad + i ≤ f ∧ f < ad + bf) → M'' k i' f = M' k i' f) ∧ ∀ j, i ≤ j → j < bf → M'' 3 0 (ad + j) = nI (os_byte W j) := by
  intro r
  induction r with
  | zero =>
    intro i n M' hi hn hM
    obtain ⟨n', rfl⟩ : ∃ n', n = n' + 1 := ⟨n - 1, by omega⟩
    refine ⟨M', ?_, fun _ _ _ _ => rfl, fun j h1 h2 => by omega⟩
    rw [BX4_putInstruction_55, hM 5 f 2 (by omega), h2, if_pos (nI_le (by omega) (by omega))]
  | succ r ih =>
    intro i n M' hi hn hM
    obtain ⟨n', rfl⟩ : ∃ n', n = n' + 1 := ⟨n - 1, by omega⟩
    obtain ⟨M'', e1, e2, e3⟩ := ih (i + 1) n' (oa_up M' 3 0 (ad + i) (nI (os_byte W i))) (by omega) (by omega) (fun k i f h => by rw [os_up (by omega)]; exact hM k i f h)
    refine ⟨M'', ?_, fun k i' f h => by rw [e2 k i' f (by omega)]; exact os_up (by omega), fun j h1 h2 => ?_⟩
    · rw [← e1, BX4_putInstruction_55, hM 5 f 2 (by omega), h2, if_neg (nI_ge (by omega) (by omega)), hM 9 k 5 (by omega), h5, nI_add, if_neg (nI_pos (by omega)), if_neg (show ¬ (64 : Int32) ≤ nI (ad + i) from nI_ge (b := 64) (by omega) (by decide)), if_pos (on_in (by omega) (by decide)), nI_clamp (by omega)]
      unfold BX4_putInstruction_106
      rw [nI_1, show (16 : Int32) - (8 : Int32) * nI i = nI (16 - 8 * i) from by rw [show (16 : Int32) = nI 16 from rfl, show (8 : Int32) = nI 8 from rfl, on_mul, on_sub (by omega)], on_shr (os_b31 W) (by omega), show (255 : Int32) = nI 255 from rfl, on_and, show os_bits W 24 / 2 ^ (16 - 8 * i) &&& 255 = os_byte W i from Nat.and_two_pow_sub_one_eq_mod _ 8]
    · by_cases e : j = i
      · subst e
        rw [e2 _ _ _ (by omega)]
        exact os_up1
      · exact e3 j (by omega) h2
theorem os_cput (hA : os_As B nf nl bt oc sg L ms fm nm) {org : Nat} (mem : Nat → Nat) (hend : org + os_sum bt fm nl ≤ 64) : ∀ (r i n : Nat) (M : oa_M), os_eqS B M → i + r = nl → r + 40 < n → (∀ k, k < nl → M 9 k 5 = nI (org + os_sum bt fm k)) → (∀ k, k < nl → M 9 k 6 = os_bi (fm k)) → (∀ j, j < 64 → M 3 0 j = nI (os_img mem bt fm org (fun k f => os_Wc B nl bt sg fm org k f (ms k)) i j)) → ∃ M', BX4_putLines_2 n (nI i) M = some M' ∧ (∀ k i f, ¬ k = 3 → M' k i f = M k i f) ∧ ∀ j, j < 64 → M' 3 0 j = nI (os_img mem bt fm org (fun k f => os_Wc B nl bt sg fm org k f (ms k)) nl j) := by
  obtain ⟨⟨a1, a2⟩, ⟨a3, a4⟩, aF, aO, aL, aN, aY, aM⟩ := id hA
  intro r
  induction r with
  | zero =>
    intro i n M hM hi hn h5 h6 h3
    obtain ⟨n', rfl⟩ : ∃ n', n = n' + 1 := ⟨n - 1, by omega⟩
    have hi : i = nl := by omega
    subst hi
    refine ⟨M, ?_, fun _ _ _ _ => rfl, h3⟩
    rw [BX4_putLines_2, hM 0 0 6 (by unfold os_dyn; omega), a3, if_pos (nI_le (by omega) (by omega))]
  | succ r ih =>
    intro i n M hM hi hn h5 h6 h3
    obtain ⟨n', rfl⟩ : ∃ n', n = n' + 1 := ⟨n - 1, by omega⟩
    have h21 : oa_in (nI i) 21 = true := on_in (by omega) (by decide)
    have hil : i < nl := by omega
    cases hf : fm i with
    | none =>
      obtain ⟨M', e1, e2, e3⟩ := ih (i + 1) n' M hM (by omega) (by omega) h5 h6 (fun j hj => by
        rw [h3 j hj]
        simp only [os_img, hf])
      refine ⟨M', ?_, e2, e3⟩
      rw [BX4_putLines_2, hM 0 0 6 (by unfold os_dyn; omega), a3, if_neg (nI_ge (by omega) (by omega)), if_pos h21, nI_clamp (by omega), h6 i hil, hf, if_pos (show os_bi none < 0 from by decide)]
      unfold BX4_putLines_41
      rw [nI_1, e1]
    | some f =>
      obtain ⟨b1, b2, b3, b4, b5⟩ := os_btf hA hil hf
      obtain ⟨f1, f2, f3, f4, f5, f6, f7, f8, f9, f10, f11⟩ := aF f b1
      have hs1 := os_sum_some (bt := bt) hf
      have hs2 := os_sum_mono bt fm (show i + 1 ≤ nl by omega)
      have hm := (aL i hil).1.1
      obtain ⟨M1, p1, p2, p3⟩ := os_cbytes (M := M) (k := i) (f := f) (ad := org + os_sum bt fm i) (bf := bt f) (os_Wc B nl bt sg fm org i f (ms i)) (by rw [hM 5 f 2 (by unfold os_dyn; omega)]; exact f6.1) b5 (h5 i hil) (by omega) (bt f) 0 (n' - ms i - 1) M (by omega) (by omega) (fun _ _ _ _ => rfl)
      have hw := os_cword hA hM h5 hil hf (n' - ms i - 1) (by omega) (ms i) 0 (by omega)
      rw [show n' - ms i - 1 + ms i + 1 = n' by omega] at hw
      have hput : FX4_putInstruction n' i f M = some M1 := by
        unfold FX4_putInstruction
        rw [hM 5 f 4 (by unfold os_dyn; omega), f8.2]
        exact hw.trans p1
      obtain ⟨M', e1, e2, e3⟩ := ih (i + 1) n' M1 (fun k i f h => by
        rw [p2 k i f (fun q => h (by unfold os_dyn; omega))]
        exact hM k i f h) (by omega) (by omega) (fun k hk => by rw [p2 _ _ _ (by omega)]; exact h5 k hk) (fun k hk => by rw [p2 _ _ _ (by omega)]; exact h6 k hk) (fun j hj => by
          simp only [os_img, hf]
          by_cases hin : org + os_sum bt fm i ≤ j ∧ j < org + os_sum bt fm i + bt f
          · rw [if_pos hin]
            have := p3 (j - (org + os_sum bt fm i)) (by omega) (by omega)
            rw [show org + os_sum bt fm i + (j - (org + os_sum bt fm i)) = j by omega] at this
            exact this
          · rw [if_neg hin, p2 _ _ _ (by omega)]
            exact h3 j hj)
      refine ⟨M', ?_, fun k i f h => by rw [e2 k i f h]; exact p2 k i f (by omega), e3⟩
      rw [BX4_putLines_2, hM 0 0 6 (by unfold os_dyn; omega), a3, if_neg (nI_ge (by omega) (by omega)), if_pos h21, nI_clamp (by omega), h6 i hil, hf, if_neg (show ¬ os_bi (some f) < 0 from nI_pos (by omega)), if_pos h21, if_pos h21, if_pos (show oa_in (os_bi (some f)) 13 = true from on_in (by omega) (by decide)), show (os_bi (some f)).toNatClampNeg = f from nI_clamp (by omega), hput, ob_v]
      unfold BX4_putLines_41
      rw [nI_1, e1]
end

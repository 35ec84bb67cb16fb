/-! assemble: what the lines stand for -/
def os_dyn (k f : Nat) : Prop := (k = 9 ∧ (f = 5 ∨ f = 6)) ∨ k = 3 ∨ k = 45 ∨ k = 46 ∨ k = 36 ∨ (k = 20 ∧ f = 30) ∨ k = 50 ∨ (k = 0 ∧ f = 7)
/-- alike but for what assembling writes -/
def os_eqS (B M : oa_M) : Prop := ∀ k i f, ¬ os_dyn k f → M k i f = B k i f
theorem os_eqS.rfl' (B : oa_M) : os_eqS B B := fun _ _ _ _ => rfl
theorem os_eqS.up {B M : oa_M} (h : os_eqS B M) {k i f : Nat} (hf : os_dyn k f) (x : Int32) : os_eqS B (oa_up M k i f x) := fun k' i' f' hn => by
  rw [os_up (fun q => hn (by rw [q.1, q.2.2]; exact hf))]
  exact h k' i' f' hn
theorem os_eqS.tr {B M M' : oa_M} (h : os_eqS B M) (h' : os_eqS M M') : os_eqS B M' := fun k i f hn => by rw [h' k i f hn, h k i f hn]
def os_As (B : oa_M) (nf nl : Nat) (bt oc : Nat → Nat) (sg : Nat → Nat → Nat) (L : Nat → List Nat) (ms : Nat → Nat) (fm : Nat → Option Nat) (nm : Nat → Bool) : Prop :=
  (nf ≤ 12 ∧ nl ≤ 20) ∧ (B 0 0 6 = nI nl ∧ B 20 0 17 = nI nl) ∧
  (∀ i, i < nf → os_F B i (bt i) (sg i) (L i) (oc i)) ∧ (∀ i o, i < nf → o < 3 → os_Op B (3 * i + o)) ∧
  (∀ k, k < nl → (ms k ≤ 3 ∧ B 9 k 4 = nI (ms k) ∧ B 40 0 k = nI (ms k)) ∧ B 9 k 2 = B 38 0 k ∧ (∀ o, o < ms k → os_La B k o)) ∧
  (∀ k, k < nl → nm k = false → B 9 k 3 = 0 ∧ B 39 0 k ≤ 0 ∧ ms k = 0 ∧ fm k = none) ∧
  (∀ k, k < nl → nm k = true → ¬ B 9 k 3 = 0 ∧ ¬ B 39 0 k ≤ 0 ∧ ∀ M n, os_eqS B M → 20 < n → FX4_findForm n (B 9 k 3) (B 9 k 4) M = some (os_bi (fm k), M) ∧ FX5_formOf n (B 39 0 k) (B 40 0 k) M = some (os_bi (fm k), M)) ∧
  (∀ k f, k < nl → fm k = some f → f < nf ∧ oc f = ms k)
theorem os_Apick {M : oa_M} {nf nl : Nat} (hC : os_Cn M nf nl) (hF : os_Fs M nf) (hL : os_Ls M nl) : ∃ (bt oc : Nat → Nat) (sg : Nat → Nat → Nat) (L : Nat → List Nat) (ms : Nat → Nat) (fm : Nat → Option Nat) (nm : Nat → Bool), os_As M nf nl bt oc sg L ms fm nm := by
  obtain ⟨c1, c2, c3, c4, c5, c6⟩ := hC
  obtain ⟨bt, sg, L, oc, hp⟩ := hF.pick
  have h2 : ∀ k, ∃ p : List Nat × Nat, k < nl → (os_nm p.1 ∧ p.2 ≤ 3 ∧ (p.1 = [] → p.2 = 0) ∧ (M 9 k 2 = M 38 0 k ∧ (M 38 0 k = -1 ∨ ∃ a, a < 6 ∧ M 38 0 k = nI a)) ∧ (M 9 k 3 = nI (os_cnm p.1) ∧ M 39 0 k = nI (os_mnm p.1)) ∧ (M 9 k 4 = nI p.2 ∧ M 40 0 k = nI p.2) ∧ ∀ o, o < p.2 → os_La M k o) := fun k => by
    by_cases hk : k < nl
    · obtain ⟨A, m, h⟩ := hL k hk
      exact ⟨(A, m), fun _ => h⟩
    · exact ⟨([], 0), fun h => absurd h hk⟩
  obtain ⟨p, hpp⟩ := Classical.axiomOfChoice h2
  refine ⟨bt, oc, sg, L, fun k => (p k).2, fun k => if (p k).1 = [] then none else os_fnd (fun i => decide (L i = (p k).1) && decide (oc i = (p k).2)) nf 0, fun k => !decide ((p k).1 = []), ⟨c1, c2⟩, ⟨c4.1, c4.2⟩, hp, fun i o hi ho => (hF.1 i hi).2 o ho, fun k hk => ?_, fun k hk h => ?_, fun k hk h => ?_, fun k f hk h => ?_⟩
  · obtain ⟨a1, a2, a3, a4, a5, a6, a7⟩ := hpp k hk
    exact ⟨⟨a2, a6.1, a6.2⟩, a4.1, a7⟩
  · obtain ⟨a1, a2, a3, a4, a5, a6, a7⟩ := hpp k hk
    have e : (p k).1 = [] := by simpa using h
    refine ⟨?_, ?_, a3 e, if_pos e⟩
    · rw [a5.1, e]; rfl
    · rw [a5.2, e]; decide
  · obtain ⟨a1, a2, a3, a4, a5, a6, a7⟩ := hpp k hk
    have e : ¬ (p k).1 = [] := by simpa using h
    obtain ⟨z1, z2⟩ := os_cnm0 a1
    have b1 := (os_nmd a1).1
    refine ⟨fun q => e (z1.mp (by rw [← a5.1]; exact q)), ?_, fun M' n hM hn => ?_⟩
    · rw [a5.2]
      refine nI_nle ?_ (by omega)
      rcases Nat.eq_zero_or_pos (os_mnm (p k).1) with q | q
      · exact absurd (z2.mp (by rw [q]; rfl)) e
      · exact q
    · have eo : ∀ k i f, ¬ ((k = 9 ∧ (f = 5 ∨ f = 6)) ∨ k = 3 ∨ k = 45 ∨ k = 46 ∨ k = 36 ∨ (k = 20 ∧ f = 30) ∨ k = 50 ∨ (k = 0 ∧ f = 7)) → M' k i f = M k i f := hM
      simp only [if_neg e]
      rw [a5.1, a5.2, a6.1, a6.2]
      refine ⟨os_cfl (by rw [eo _ _ _ (by omega)]; exact c3.1) c1 (fun i hi => ?_) a1 a2 nf 0 n (by omega) (by omega), os_mfl (by rw [eo _ _ _ (by omega)]; exact c3.2) c1 (fun i hi => ?_) a1 a2 nf 0 n (by omega) (by omega)⟩
      · obtain ⟨f1, f2, f3, f4, f5, f6, f7, f8, f9, f10, f11⟩ := hp i hi
        rw [eo _ _ _ (by omega), eo _ _ _ (by omega)]
        exact ⟨f3.1, f4, f5.1, f9.1⟩
      · obtain ⟨f1, f2, f3, f4, f5, f6, f7, f8, f9, f10, f11⟩ := hp i hi
        rw [eo _ _ _ (by omega), eo _ _ _ (by omega)]
        exact ⟨f3.1, f4, f5.2, f9.2⟩
  · by_cases e : (p k).1 = []
    · simp only [if_pos e] at h
      cases h
    · simp only [if_neg e] at h
      obtain ⟨b1, b2, b3⟩ := os_fnd_lt _ _ _ _ h
      simp at b3
      exact ⟨by omega, b3.2⟩
/-! labels -/
def os_lb (B : oa_M) (k o : Nat) : Bool := !decide (B 42 0 (3 * k + o) = 0)
def os_tg (B : oa_M) (nl k o : Nat) : Option Nat := os_fnd (fun j => decide (B 38 0 j = B 41 0 (3 * k + o))) nl 0
def os_badl (B : oa_M) (nl k o : Nat) : Bool := os_lb B k o && (os_tg B nl k o).isNone
theorem os_bim (x : Option Nat) (h : ∀ b, x = some b → b < 2 ^ 31) : (os_bi x = (-1 : Int32) ↔ x = none) ∧ (os_bi x < 0 ↔ x = none) := by
  cases x with
  | none => exact ⟨⟨fun _ => rfl, fun _ => rfl⟩, ⟨fun _ => rfl, fun _ => by decide⟩⟩
  | some b =>
    have := h b rfl
    exact ⟨⟨fun q => absurd q (on_ltm1 this), fun q => by cases q⟩, ⟨fun q => absurd q (nI_pos this), fun q => by cases q⟩⟩
theorem os_bim2 (x : Option Nat) (h : ∀ b, x = some b → b < 2 ^ 31) : 0 ≤ os_bi x ↔ ¬ x = none := by
  cases x with
  | none => exact ⟨fun q => absurd q (by decide), fun q => absurd rfl q⟩
  | some b => exact ⟨fun _ q => (by cases q), fun _ => nI_pos' (h b rfl)⟩
theorem os_mlo {M : oa_M} {nl : Nat} (h6 : M 20 0 17 = nI nl) (hnl : nl ≤ 20) {g : Nat → Int32} (hg : ∀ k, k < nl → M 38 0 k = g k) (lab : Int32) : ∀ (r i n : Nat), i + r = nl → r < n → BX5_lineOf_2 n lab (nI i) M = some (os_bi (os_fnd (fun k => decide (g k = lab)) r i), M) := by
  intro r
  induction r with
  | zero =>
    intro i n hi hn
    obtain ⟨n', rfl⟩ : ∃ n', n = n' + 1 := ⟨n - 1, by omega⟩
    rw [BX5_lineOf_2, h6, if_pos (nI_le (by omega) (by omega))]
    rfl
  | succ r ih =>
    intro i n hi hn
    obtain ⟨n', rfl⟩ : ∃ n', n = n' + 1 := ⟨n - 1, by omega⟩
    rw [BX5_lineOf_2, h6, if_neg (nI_ge (by omega) (by omega)), if_pos (on_in (by omega) (by decide)), nI_clamp (by omega), hg i (by omega), nI_1, ih (i + 1) n' (by omega) (by omega)]
    simp only [os_fnd]
    by_cases e : g i = lab
    · rw [if_pos e]
      simp [e, os_bi]
    · rw [if_neg e]
      simp [e]
section
variable {B : oa_M} {nf nl : Nat} {bt oc : Nat → Nat} {sg : Nat → Nat → Nat} {L : Nat → List Nat} {ms : Nat → Nat} {fm : Nat → Option Nat} {nm : Nat → Bool}
theorem os_flab (hA : os_As B nf nl bt oc sg L ms fm nm) {M : oa_M} (hM : os_eqS B M) (k o : Nat) {n : Nat} (hn : 20 < n) (x : Int32) (hx : x = B 41 0 (3 * k + o)) : FX4_findLabel n x M = some (os_bi (os_tg B nl k o), M) ∧ FX5_lineOf n x M = some (os_bi (os_tg B nl k o), M) := by
  obtain ⟨⟨a1, a2⟩, ⟨a3, a4⟩, aF, aO, aL, -⟩ := hA
  have eo : ∀ k i f, ¬ ((k = 9 ∧ (f = 5 ∨ f = 6)) ∨ k = 3 ∨ k = 45 ∨ k = 46 ∨ k = 36 ∨ (k = 20 ∧ f = 30) ∨ k = 50 ∨ (k = 0 ∧ f = 7)) → M k i f = B k i f := hM
  subst hx
  exact ⟨os_cfb (by rw [eo _ _ _ (by omega)]; exact a3) a2 (g := fun j => B 38 0 j) (fun j hj => by rw [eo _ _ _ (by omega)]; exact (aL j hj).2.1) _ nl 0 n (by omega) (by omega), os_mlo (by rw [eo _ _ _ (by omega)]; exact a4) a2 (g := fun j => B 38 0 j) (fun j hj => by rw [eo _ _ _ (by omega)]) _ nl 0 n (by omega) (by omega)⟩
theorem os_tg_lt {k o b : Nat} (h : os_tg B nl k o = some b) : b < nl := by
  have := os_fnd_lt _ _ _ _ h
  omega
theorem os_lab (hA : os_As B nf nl bt oc sg L ms fm nm) {k o : Nat} (hk : k < nl) (ho : o < ms k) : (os_lb B k o = false ∧ B 42 0 (3 * k + o) = 0 ∧ B 10 k o = -1 ∧ B 11 k o = B 41 0 (3 * k + o)) ∨ (os_lb B k o = true ∧ ¬ B 42 0 (3 * k + o) = 0 ∧ ¬ B 10 k o = -1 ∧ B 10 k o = B 41 0 (3 * k + o)) := by
  obtain ⟨⟨a1, a2⟩, ⟨a3, a4⟩, aF, aO, aL, -⟩ := hA
  rcases (aL k hk).2.2 o ho with ⟨q1, q2, q3, -, -⟩ | ⟨q1, a, q2, q3, q4⟩
  · exact Or.inl ⟨by unfold os_lb; rw [q1]; rfl, q1, q2, q3⟩
  · exact Or.inr ⟨by unfold os_lb; rw [q1]; rfl, by rw [q1]; decide, by rw [q3]; exact on_ltm1 (by omega), by rw [q3, q4]⟩
theorem os_cul1 (hA : os_As B nf nl bt oc sg L ms fm nm) {M : oa_M} (hM : os_eqS B M) {k : Nat} (hk : k < nl) (rec2 : Int32 → oa_M → Option (Int32 × oa_M)) : ∀ (r o n : Nat), o + r = ms k → r + 21 < n → BX4_firstWithUnknownLabel_12 rec2 n (nI k) (nI o) M = (if (os_fnd (os_badl B nl k) r o).isSome then some (nI k, M) else rec2 (nI (k + 1)) M) := by
  obtain ⟨⟨a1, a2⟩, ⟨a3, a4⟩, aF, aO, aL, -⟩ := id hA
  have eo : ∀ k i f, ¬ ((k = 9 ∧ (f = 5 ∨ f = 6)) ∨ k = 3 ∨ k = 45 ∨ k = 46 ∨ k = 36 ∨ (k = 20 ∧ f = 30) ∨ k = 50 ∨ (k = 0 ∧ f = 7)) → M k i f = B k i f := hM
  have hk21 : oa_in (nI k) 21 = true := on_in (by omega) (by decide)
  have hkc : (nI k).toNatClampNeg = k := nI_clamp (by omega)
  obtain ⟨⟨m1, m2, m3⟩, -⟩ := aL k hk
  intro r
  induction r with
  | zero =>
    intro o n ho hn
    obtain ⟨n', rfl⟩ : ∃ n', n = n' + 1 := ⟨n - 1, by omega⟩
    rw [BX4_firstWithUnknownLabel_12, if_pos hk21, hkc, eo 9 k 4 (by omega), m2, if_pos (nI_le (by omega) (by omega)), nI_1]
    rfl
  | succ r ih =>
    intro o n ho hn
    obtain ⟨n', rfl⟩ : ∃ n', n = n' + 1 := ⟨n - 1, by omega⟩
    have ih2 := ih (o + 1) n' (by omega) (by omega)
    rw [BX4_firstWithUnknownLabel_12, if_pos hk21, hkc, eo 9 k 4 (by omega), m2, if_neg (nI_ge (by omega) (by omega)), if_pos hk21, if_pos (on_in (by omega) (by decide)), nI_clamp (by omega), eo 10 k o (by omega)]
    unfold BX4_firstWithUnknownLabel_53
    rw [nI_1]
    simp only [os_fnd]
    rcases os_lab hA hk (show o < ms k by omega) with ⟨q1, q2, q3, q4⟩ | ⟨q1, q2, q3, q4⟩
    · rw [if_pos q3, ih2]
      simp [os_badl, q1]
    · rw [if_neg q3, (os_flab hA hM k o (n := n') (by omega) _ q4).1, ob_d]
      by_cases ht : os_tg B nl k o = none
      · rw [if_pos ((os_bim _ (fun b h => by have := os_tg_lt h; omega)).1.mpr ht)]
        simp [os_badl, q1, ht]
      · rw [if_neg (fun q => ht ((os_bim _ (fun b h => by have := os_tg_lt h; omega)).1.mp q)), ih2]
        simp [os_badl, q1, ht]
theorem os_mul1 (hA : os_As B nf nl bt oc sg L ms fm nm) {M : oa_M} (hM : os_eqS B M) {k : Nat} (hk : k < nl) (rec2 : Int32 → oa_M → Option (Int32 × oa_M)) : ∀ (r o n : Nat), o + r = ms k → r + 21 < n → BX5_missing_58 rec2 n (nI k) (nI o) M = (if (os_fnd (os_badl B nl k) r o).isSome then some (nI k, M) else rec2 (nI (k + 1)) M) := by
  obtain ⟨⟨a1, a2⟩, ⟨a3, a4⟩, aF, aO, aL, -⟩ := id hA
  have eo : ∀ k i f, ¬ ((k = 9 ∧ (f = 5 ∨ f = 6)) ∨ k = 3 ∨ k = 45 ∨ k = 46 ∨ k = 36 ∨ (k = 20 ∧ f = 30) ∨ k = 50 ∨ (k = 0 ∧ f = 7)) → M k i f = B k i f := hM
  have hk21 : oa_in (nI k) 20 = true := on_in (by omega) (by decide)
  have hkc : (nI k).toNatClampNeg = k := nI_clamp (by omega)
  obtain ⟨⟨m1, m2, m3⟩, -⟩ := aL k hk
  intro r
  induction r with
  | zero =>
    intro o n ho hn
    obtain ⟨n', rfl⟩ : ∃ n', n = n' + 1 := ⟨n - 1, by omega⟩
    rw [BX5_missing_58, if_pos hk21, hkc, eo 40 0 k (by omega), m3, if_pos (nI_le (by omega) (by omega)), nI_1]
    rfl
  | succ r ih =>
    intro o n ho hn
    obtain ⟨n', rfl⟩ : ∃ n', n = n' + 1 := ⟨n - 1, by omega⟩
    have ih2 := ih (o + 1) n' (by omega) (by omega)
    have h60 : oa_in (nI (3 * k + o)) 60 = true := on_in (by omega) (by decide)
    rw [BX5_missing_58, if_pos hk21, hkc, eo 40 0 k (by omega), m3, if_neg (nI_ge (by omega) (by omega)), os_q3, if_pos h60, nI_clamp (by omega), eo 42 0 _ (by omega), eo 41 0 _ (by omega)]
    unfold BX5_missing_100
    rw [nI_1]
    simp only [os_fnd]
    rcases os_lab hA hk (show o < ms k by omega) with ⟨q1, q2, q3, q4⟩ | ⟨q1, q2, q3, q4⟩
    · rw [if_pos q2, ih2]
      simp [os_badl, q1]
    · rw [if_neg q2, if_pos h60, (os_flab hA hM k o (n := n') (by omega) _ rfl).2, ob_d]
      by_cases ht : os_tg B nl k o = none
      · rw [if_neg (fun q => (os_bim2 _ (fun b h => by have := os_tg_lt h; omega)).mp q ht)]
        simp [os_badl, q1, ht]
      · rw [if_pos ((os_bim2 _ (fun b h => by have := os_tg_lt h; omega)).mpr ht), ih2]
        simp [os_badl, q1, ht]
def os_ul (B : oa_M) (nl : Nat) (ms : Nat → Nat) (k : Nat) : Bool := (os_fnd (os_badl B nl k) (ms k) 0).isSome
theorem os_cul (hA : os_As B nf nl bt oc sg L ms fm nm) {M : oa_M} (hM : os_eqS B M) : ∀ (r i n : Nat), i + r = nl → r + 30 < n → BX4_firstWithUnknownLabel_2 n (nI i) M = some (os_bi (os_fnd (os_ul B nl ms) r i), M) := by
  obtain ⟨⟨a1, a2⟩, ⟨a3, a4⟩, aF, aO, aL, -⟩ := id hA
  have e6 : M 0 0 6 = nI nl := by rw [hM _ _ _ (by unfold os_dyn; omega)]; exact a3
  intro r
  induction r with
  | zero =>
    intro i n hi hn
    obtain ⟨n', rfl⟩ : ∃ n', n = n' + 1 := ⟨n - 1, by omega⟩
    rw [BX4_firstWithUnknownLabel_2, e6, if_pos (nI_le (by omega) (by omega))]
    rfl
  | succ r ih =>
    intro i n hi hn
    obtain ⟨n', rfl⟩ : ∃ n', n = n' + 1 := ⟨n - 1, by omega⟩
    have hm := (aL i (by omega)).1.1
    rw [BX4_firstWithUnknownLabel_2, e6, if_neg (nI_ge (by omega) (by omega)), show (0 : Int32) = nI 0 from rfl, os_cul1 hA hM (by omega) _ (ms i) 0 n' (by omega) (by omega), ih (i + 1) n' (by omega) (by omega)]
    show _ = some (os_bi (if (os_fnd (os_badl B nl i) (ms i) 0).isSome = true then some i else os_fnd (os_ul B nl ms) r (i + 1)), M)
    cases (os_fnd (os_badl B nl i) (ms i) 0).isSome <;> rfl
theorem os_mul (hA : os_As B nf nl bt oc sg L ms fm nm) {M : oa_M} (hM : os_eqS B M) : ∀ (r i n : Nat), i + r = nl → r + 30 < n → BX5_missing_48 n (nI i) M = some (os_bi (os_fnd (os_ul B nl ms) r i), M) := by
  obtain ⟨⟨a1, a2⟩, ⟨a3, a4⟩, aF, aO, aL, -⟩ := id hA
  have e6 : M 20 0 17 = nI nl := by rw [hM _ _ _ (by unfold os_dyn; omega)]; exact a4
  intro r
  induction r with
  | zero =>
    intro i n hi hn
    obtain ⟨n', rfl⟩ : ∃ n', n = n' + 1 := ⟨n - 1, by omega⟩
    rw [BX5_missing_48, e6, if_pos (nI_le (by omega) (by omega))]
    rfl
  | succ r ih =>
    intro i n hi hn
    obtain ⟨n', rfl⟩ : ∃ n', n = n' + 1 := ⟨n - 1, by omega⟩
    have hm := (aL i (by omega)).1.1
    rw [BX5_missing_48, e6, if_neg (nI_ge (by omega) (by omega)), show (0 : Int32) = nI 0 from rfl, os_mul1 hA hM (by omega) _ (ms i) 0 n' (by omega) (by omega), ih (i + 1) n' (by omega) (by omega)]
    show _ = some (os_bi (if (os_fnd (os_badl B nl i) (ms i) 0).isSome = true then some i else os_fnd (os_ul B nl ms) r (i + 1)), M)
    cases (os_fnd (os_badl B nl i) (ms i) 0).isSome <;> rfl
/-- a line that names an instruction of no form -/
def os_nof (nm : Nat → Bool) (fm : Nat → Option Nat) (k : Nat) : Bool := nm k && (fm k).isNone
def os_mss (B : oa_M) (nl : Nat) (ms : Nat → Nat) (nm : Nat → Bool) (fm : Nat → Option Nat) (r i : Nat) : Option Nat := match os_fnd (os_nof nm fm) r i with
  | some k => some k
  | none => os_fnd (os_ul B nl ms) nl 0
theorem os_fm31 (hA : os_As B nf nl bt oc sg L ms fm nm) {k : Nat} (hk : k < nl) : ∀ b, fm k = some b → b < 2 ^ 31 := fun b h => by
  obtain ⟨⟨a1, a2⟩, ⟨a3, a4⟩, aF, aO, aL, aN, aY, aM⟩ := hA
  have := (aM k b hk h).1
  omega
theorem os_mmiss (hA : os_As B nf nl bt oc sg L ms fm nm) {M : oa_M} (hM : os_eqS B M) : ∀ (r i n : Nat), i + r = nl → r + 60 < n → BX5_missing_2 n (nI i) M = some (os_bi (os_mss B nl ms nm fm r i), M) := by
  obtain ⟨⟨a1, a2⟩, ⟨a3, a4⟩, aF, aO, aL, aN, aY, aM⟩ := id hA
  have eo : ∀ k i f, ¬ ((k = 9 ∧ (f = 5 ∨ f = 6)) ∨ k = 3 ∨ k = 45 ∨ k = 46 ∨ k = 36 ∨ (k = 20 ∧ f = 30) ∨ k = 50 ∨ (k = 0 ∧ f = 7)) → M k i f = B k i f := hM
  have e6 : M 20 0 17 = nI nl := by rw [eo _ _ _ (by omega)]; exact a4
  intro r
  induction r with
  | zero =>
    intro i n hi hn
    obtain ⟨n', rfl⟩ : ∃ n', n = n' + 1 := ⟨n - 1, by omega⟩
    rw [BX5_missing_2, e6, if_pos (nI_le (by omega) (by omega))]
    exact os_mul hA hM nl 0 n' (by omega) (by omega)
  | succ r ih =>
    intro i n hi hn
    obtain ⟨n', rfl⟩ : ∃ n', n = n' + 1 := ⟨n - 1, by omega⟩
    have ih2 := ih (i + 1) n' (by omega) (by omega)
    have h20 : oa_in (nI i) 20 = true := on_in (by omega) (by decide)
    rw [BX5_missing_2, e6, if_neg (nI_ge (by omega) (by omega)), if_pos h20, nI_clamp (by omega), eo 39 0 i (by omega), eo 40 0 i (by omega)]
    unfold BX5_missing_40
    rw [nI_1]
    simp only [os_mss, os_fnd] at ih2 ⊢
    rcases Bool.eq_false_or_eq_true (nm i) with hn1 | hn1
    · obtain ⟨b1, b2, b3⟩ := aY i (by omega) hn1
      rw [if_neg b2, if_pos h20, if_pos h20, (b3 M n' hM (by omega)).2, ob_d]
      by_cases hf : fm i = none
      · rw [if_neg (fun q => (os_bim2 _ (os_fm31 hA (by omega))).mp q hf)]
        simp [os_nof, hn1, hf, os_bi]
      · rw [if_pos ((os_bim2 _ (os_fm31 hA (by omega))).mpr hf), ih2]
        simp [os_nof, hf]
    · obtain ⟨b1, b2, b3⟩ := aN i (by omega) hn1
      rw [if_pos b2, ih2]
      simp [os_nof, hn1]
/-- the class: each line's form -/
theorem os_cchoose (hA : os_As B nf nl bt oc sg L ms fm nm) : ∀ (r i n : Nat) (M : oa_M) (x : Option Nat), os_eqS B M → i + r = nl → r + 30 < n → (∀ b, x = some b → b < 2 ^ 31) → (∀ k, k < i → M 9 k 6 = os_bi (fm k)) → ∃ M', BX4_chooseForms_4 n (os_bi x) (nI i) M = some (os_bi (match x with | some k => some k | none => os_fnd (os_nof nm fm) r i), M') ∧ os_eqS B M' ∧ (∀ k i f, ¬ (k = 9 ∧ f = 6) → M' k i f = M k i f) ∧ ∀ k, k < nl → M' 9 k 6 = os_bi (fm k) := by
  obtain ⟨⟨a1, a2⟩, ⟨a3, a4⟩, aF, aO, aL, aN, aY, aM⟩ := id hA
  intro r
  induction r with
  | zero =>
    intro i n M x hM hi hn hx h6
    obtain ⟨n', rfl⟩ : ∃ n', n = n' + 1 := ⟨n - 1, by omega⟩
    refine ⟨M, ?_, hM, fun _ _ _ _ => rfl, fun k hk => h6 k (by omega)⟩
    rw [BX4_chooseForms_4, hM 0 0 6 (by unfold os_dyn; omega), a3, if_pos (nI_le (by omega) (by omega))]
    cases x <;> rfl
  | succ r ih =>
    intro i n M x hM hi hn hx h6
    obtain ⟨n', rfl⟩ : ∃ n', n = n' + 1 := ⟨n - 1, by omega⟩
    have eo : ∀ k i f, ¬ ((k = 9 ∧ (f = 5 ∨ f = 6)) ∨ k = 3 ∨ k = 45 ∨ k = 46 ∨ k = 36 ∨ (k = 20 ∧ f = 30) ∨ k = 50 ∨ (k = 0 ∧ f = 7)) → M k i f = B k i f := hM
    have hM1 : os_eqS B (oa_up M 9 i 6 (os_bi (fm i))) := hM.up (by unfold os_dyn; omega) _
    have h61 : ∀ k, k < i + 1 → oa_up M 9 i 6 (os_bi (fm i)) 9 k 6 = os_bi (fm k) := fun k hk => by
      by_cases e : k = i
      · subst e
        exact os_up1
      · rw [os_up (by omega)]
        exact h6 k (by omega)
    have go : ∀ y : Option Nat, (∀ b, y = some b → b < 2 ^ 31) → ∃ M', BX4_chooseForms_4 n' (os_bi y) (nI (i + 1)) (oa_up M 9 i 6 (os_bi (fm i))) = some (os_bi (match y with | some k => some k | none => os_fnd (os_nof nm fm) r (i + 1)), M') ∧ os_eqS B M' ∧ (∀ k i f, ¬ (k = 9 ∧ f = 6) → M' k i f = M k i f) ∧ ∀ k, k < nl → M' 9 k 6 = os_bi (fm k) := fun y hy => by
      obtain ⟨M', e1, e2, e3, e4⟩ := ih (i + 1) n' _ y hM1 (by omega) (by omega) hy h61
      exact ⟨M', e1, e2, fun k i f h => by rw [e3 k i f h]; exact os_up (by omega), e4⟩
    have e9 : oa_up M 9 i 6 (os_bi (fm i)) 9 i 3 = B 9 i 3 := by rw [os_up (by omega), eo _ _ _ (by omega)]
    have e62 : ∀ z, BX4_chooseForms_62 (BX4_chooseForms_4 n') n' (os_bi x) (nI i) i z i (os_bi (fm i)) M = (if B 9 i 3 = 0 then BX4_chooseForms_4 n' (os_bi x) (nI (i + 1)) (oa_up M 9 i 6 (os_bi (fm i))) else if z = (-1 : Int32) then (if os_bi x = (-1 : Int32) then BX4_chooseForms_4 n' (nI i) (nI (i + 1)) (oa_up M 9 i 6 (os_bi (fm i))) else BX4_chooseForms_4 n' (os_bi x) (nI (i + 1)) (oa_up M 9 i 6 (os_bi (fm i)))) else BX4_chooseForms_4 n' (os_bi x) (nI (i + 1)) (oa_up M 9 i 6 (os_bi (fm i)))) := fun z => by
      unfold BX4_chooseForms_62 BX4_chooseForms_85
      rw [e9, nI_1]
    have e42 : BX4_chooseForms_42 (BX4_chooseForms_4 n') n' (os_bi x) (nI i) i (os_bi (fm i)) M = BX4_chooseForms_62 (BX4_chooseForms_4 n') n' (os_bi x) (nI i) i (os_bi (fm i)) i (os_bi (fm i)) M := by
      unfold BX4_chooseForms_42
      cases hf : fm i with
      | none => rw [if_pos (show os_bi none = (-1 : Int32) from rfl)]; rfl
      | some b =>
        have := (aM i b (by omega) hf).1
        rw [if_neg (show ¬ os_bi (some b) = (-1 : Int32) from on_ltm1 (by omega)), if_pos (show oa_in (os_bi (some b)) 13 = true from on_in (by omega) (by decide))]
    have hx0 : (match x with | some k => some k | none => os_fnd (os_nof nm fm) (r + 1) i) = (match (match x with | some k => some k | none => if os_nof nm fm i then some i else none) with | some k => some k | none => os_fnd (os_nof nm fm) r (i + 1)) := by
      cases x with
      | some k => rfl
      | none =>
        simp only [os_fnd]
        cases os_nof nm fm i <;> rfl
    rw [hx0]
    have st : BX4_chooseForms_4 (n' + 1) (os_bi x) (nI i) M = BX4_chooseForms_62 (BX4_chooseForms_4 n') n' (os_bi x) (nI i) i (os_bi (fm i)) i (os_bi (fm i)) M := by
      rw [BX4_chooseForms_4, eo 0 0 6 (by omega), a3, if_neg (nI_ge (by omega) (by omega)), if_pos (on_in (by omega) (by decide)), nI_clamp (by omega), eo 9 i 3 (by omega), eo 9 i 4 (by omega), ← e42]
      rcases Bool.eq_false_or_eq_true (nm i) with hn1 | hn1
      · obtain ⟨b1, b2, b3⟩ := aY i (by omega) hn1
        rw [if_neg b1, (b3 M n' hM (by omega)).1, ob_d]
      · obtain ⟨b1, b2, b3, b4⟩ := aN i (by omega) hn1
        rw [if_pos b1, b4]
        rfl
    rw [st, e62]
    rcases Bool.eq_false_or_eq_true (nm i) with hn1 | hn1
    · obtain ⟨b1, b2, b3⟩ := aY i (by omega) hn1
      rw [if_neg b1]
      by_cases hf : fm i = none
      · rw [if_pos ((os_bim _ (os_fm31 hA (by omega))).1.mpr hf), show os_nof nm fm i = true from by simp [os_nof, hn1, hf]]
        cases x with
        | none =>
          rw [if_pos (show os_bi none = (-1 : Int32) from rfl)]
          exact go (some i) (fun b h => by cases h; omega)
        | some c =>
          rw [if_neg (show ¬ os_bi (some c) = (-1 : Int32) from on_ltm1 (hx c rfl))]
          exact go (some c) hx
      · rw [if_neg (fun q => hf ((os_bim _ (os_fm31 hA (by omega))).1.mp q)), show os_nof nm fm i = false from by
          unfold os_nof
          cases hg : fm i with
          | none => exact absurd hg hf
          | some b => simp]
        have := go x hx
        cases x <;> exact this
    · obtain ⟨b1, b2, b3, b4⟩ := aN i (by omega) hn1
      rw [if_pos b1, show os_nof nm fm i = false from by simp [os_nof, hn1]]
      have := go x hx
      cases x <;> exact this
end

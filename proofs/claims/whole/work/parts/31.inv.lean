/-! the two sides' pictures, and what ties them -/
def os_nm (L : List Nat) : Prop := L.length ≤ 4 ∧ ∀ w ∈ L, 1 ≤ w ∧ w ≤ 26
def os_cnm (L : List Nat) : Nat := L.foldl (fun x w => 256 * x + (96 + w)) 0
def os_mnm (L : List Nat) : Nat := L.foldl (fun x w => 27 * x + w) 0
/-- the signs that P takes, sign k at bit 23 - k -/
def os_bits (P : Nat → Bool) : Nat → Nat
  | 0 => 0
  | n + 1 => os_bits P n + (if P n then 2 ^ (23 - n) else 0)
def os_cnt (P : Nat → Bool) : Nat → Nat
  | 0 => 0
  | n + 1 => os_cnt P n + (if P n then 1 else 0)
def os_pf (bt : Nat) (sg : Nat → Nat) (k : Nat) : Bool := decide (k < 8 * bt) && decide (sg k < 2)
def os_p1 (bt : Nat) (sg : Nat → Nat) (k : Nat) : Bool := decide (k < 8 * bt) && decide (sg k = 1)
def os_po (bt : Nat) (sg : Nat → Nat) (o k : Nat) : Bool := decide (k < 8 * bt) && decide (sg k = 2 + o)
/-- an operand's field and its width -/
abbrev os_wm (M : oa_M) (q : Nat) (P : Nat → Bool) : Prop := M 7 q 0 = nI (os_bits P 24) ∧ M 7 q 1 = nI (os_cnt P 24)
def os_F (M : oa_M) (i bt : Nat) (sg : Nat → Nat) (L : List Nat) (oc : Nat) : Prop :=
  (1 ≤ bt ∧ bt ≤ 3) ∧ (∀ k, k < 8 * bt → sg k < 5) ∧ (os_nm L ∧ 1 ≤ L.length) ∧ oc ≤ 3 ∧
  (M 5 i 1 = nI (os_cnm L) ∧ M 25 0 i = nI (os_mnm L)) ∧ (M 5 i 2 = nI bt ∧ M 26 0 i = nI (8 * bt)) ∧
  (∀ k, k < 8 * bt → M 27 0 (24 * i + k) = nI (sg k)) ∧
  (M 5 i 3 = nI (os_bits (os_pf bt sg) 24) ∧ M 5 i 4 = nI (os_bits (os_p1 bt sg) 24)) ∧ (M 5 i 5 = nI oc ∧ M 28 0 i = nI oc) ∧
  (∀ o, o < 3 → os_wm M (3 * i + o) (os_po bt sg o) ∧ M 29 0 (3 * i + o) = nI (os_cnt (os_po bt sg o) 24)) ∧
  ∀ o, o < oc → 1 ≤ os_cnt (os_po bt sg o) 24 ∧ os_cnt (os_po bt sg o) 24 ≤ 16
def os_Op (M : oa_M) (q : Nat) : Prop := ∃ (kd sc : Nat) (fo : Int), kd ≤ 2 ∧ (1 ≤ sc ∧ sc ≤ 8) ∧ (-100 ≤ fo ∧ fo ≤ 100) ∧ (M 7 q 2 = nI kd ∧ M 30 0 q = nI kd) ∧ (M 7 q 3 = nI sc ∧ M 31 0 q = nI sc) ∧ (M 7 q 4 = M 32 0 q ∧ (M 32 0 q).toInt = fo)
def os_Df (M : oa_M) (i : Nat) : Prop := ∀ o, o < 3 → M 7 (3 * i + o) 2 = 0 ∧ M 7 (3 * i + o) 3 = 1 ∧ M 7 (3 * i + o) 4 = 0
def os_La (M : oa_M) (k o : Nat) : Prop := (M 42 0 (3 * k + o) = 0 ∧ M 10 k o = -1 ∧ M 11 k o = M 41 0 (3 * k + o) ∧ -99999 ≤ (M 41 0 (3 * k + o)).toInt ∧ (M 41 0 (3 * k + o)).toInt ≤ 99999) ∨ (M 42 0 (3 * k + o) = 1 ∧ ∃ a, a < 6 ∧ M 10 k o = nI a ∧ M 41 0 (3 * k + o) = nI a)
def os_L (M : oa_M) (k : Nat) : Prop := ∃ (L : List Nat) (m : Nat), os_nm L ∧ m ≤ 3 ∧ (L = [] → m = 0) ∧ (M 9 k 2 = M 38 0 k ∧ (M 38 0 k = -1 ∨ ∃ a, a < 6 ∧ M 38 0 k = nI a)) ∧ (M 9 k 3 = nI (os_cnm L) ∧ M 39 0 k = nI (os_mnm L)) ∧ (M 9 k 4 = nI m ∧ M 40 0 k = nI m) ∧ ∀ o, o < m → os_La M k o
def os_Txt (M : oa_M) (len : Nat) (c : Nat → Nat) : Prop := len ≤ 40 ∧ M 1 0 1 = nI len ∧ M 1 0 2 = 0 ∧ M 20 0 0 = nI len ∧ ∀ j, j < len → M 2 0 j = nI (c j) ∧ M 21 0 j = nI (c j) ∧ c j < 65536
def os_Out (M : oa_M) (size : Nat) : Prop := size ≤ 40 ∧ M 1 1 1 = nI size ∧ M 20 0 28 = nI size ∧ ∀ j, j < size → ∃ a, a < 65536 ∧ M 2 1 j = nI a ∧ M 49 0 j = nI a
def os_Mem (M : oa_M) (mem : Nat → Nat) : Prop := ∀ j, j < 64 → M 3 0 j = nI (mem j) ∧ M 36 0 j = nI (mem j) ∧ mem j < 256
def os_Cn (M : oa_M) (nf nl : Nat) : Prop := nf ≤ 12 ∧ nl ≤ 20 ∧ (M 0 0 5 = nI nf ∧ M 20 0 4 = nI nf) ∧ (M 0 0 6 = nI nl ∧ M 20 0 17 = nI nl) ∧ M 0 0 7 = M 20 0 27 ∧ (M 0 0 8 = M 20 0 13 ∧ (M 20 0 13 = 0 ∨ M 20 0 13 = 1))
def os_Fs (M : oa_M) (nf : Nat) : Prop := (∀ i, i < nf → (∃ bt sg L oc, os_F M i bt sg L oc) ∧ ∀ o, o < 3 → os_Op M (3 * i + o)) ∧ ∀ i, nf ≤ i → i < 13 → os_Df M i
def os_Ls (M : oa_M) (nl : Nat) : Prop := ∀ k, k < nl → os_L M k
def os_I (M : oa_M) : Prop := ∃ (len : Nat) (c : Nat → Nat) (size : Nat) (mem : Nat → Nat) (nf nl : Nat), os_Txt M len c ∧ os_Out M size ∧ os_Mem M mem ∧ os_Cn M nf nl ∧ os_Fs M nf ∧ os_Ls M nl
theorem os_F.co {M M' : oa_M} {i bt : Nat} {sg : Nat → Nat} {L : List Nat} {oc : Nat} (h : os_F M i bt sg L oc) (h5 : ∀ f, M' 5 i f = M 5 i f) (h7 : ∀ o f, o < 3 → f < 2 → M' 7 (3 * i + o) f = M 7 (3 * i + o) f) (h25 : M' 25 0 i = M 25 0 i) (h26 : M' 26 0 i = M 26 0 i) (h27 : ∀ k, k < 24 → M' 27 0 (24 * i + k) = M 27 0 (24 * i + k)) (h28 : M' 28 0 i = M 28 0 i) (h29 : ∀ o, o < 3 → M' 29 0 (3 * i + o) = M 29 0 (3 * i + o)) : os_F M' i bt sg L oc := by
  obtain ⟨a1, a2, a3, a4, a5, a6, a7, a8, a9, a10, a11⟩ := h
  refine ⟨a1, a2, a3, a4, ?_, ?_, fun k hk => ?_, ?_, ?_, fun o ho => ?_, a11⟩
  · rw [h5, h25]; exact a5
  · rw [h5, h26]; exact a6
  · rw [h27 k (by omega)]; exact a7 k hk
  · rw [h5, h5]; exact a8
  · rw [h5, h28]; exact a9
  · unfold os_wm; rw [h7 o 0 ho (by decide), h7 o 1 ho (by decide), h29 o ho]; exact a10 o ho
theorem os_Op.co {M M' : oa_M} {q : Nat} (h : os_Op M q) (h7 : ∀ f, M' 7 q f = M 7 q f) (h30 : M' 30 0 q = M 30 0 q) (h31 : M' 31 0 q = M 31 0 q) (h32 : M' 32 0 q = M 32 0 q) : os_Op M' q := by
  unfold os_Op at h ⊢
  rw [h7, h7, h7, h30, h31, h32]
  exact h
theorem os_Fs.co {M M' : oa_M} {nf : Nat} (h : os_Fs M nf) (hk : ∀ k i f, k = 5 ∨ k = 7 ∨ (25 ≤ k ∧ k ≤ 32) → M' k i f = M k i f) : os_Fs M' nf := by
  refine ⟨fun i hi => ?_, fun i h1 h2 o ho => ?_⟩
  · obtain ⟨⟨bt, sg, L, oc, hF⟩, hO⟩ := h.1 i hi
    exact ⟨⟨bt, sg, L, oc, hF.co (fun f => hk _ _ _ (by decide)) (fun o f _ _ => hk _ _ _ (by decide)) (hk _ _ _ (by decide)) (hk _ _ _ (by decide)) (fun k _ => hk _ _ _ (by decide)) (hk _ _ _ (by decide)) (fun o _ => hk _ _ _ (by decide))⟩, fun o ho => (hO o ho).co (fun f => hk _ _ _ (by decide)) (hk _ _ _ (by decide)) (hk _ _ _ (by decide)) (hk _ _ _ (by decide))⟩
  · rw [hk 7 _ _ (by decide), hk 7 _ _ (by decide), hk 7 _ _ (by decide)]
    exact h.2 i h1 h2 o ho
theorem os_La.co {M M' : oa_M} {k o : Nat} (h : os_La M k o) (h10 : M' 10 k o = M 10 k o) (h11 : M' 11 k o = M 11 k o) (h41 : M' 41 0 (3 * k + o) = M 41 0 (3 * k + o)) (h42 : M' 42 0 (3 * k + o) = M 42 0 (3 * k + o)) : os_La M' k o := by
  unfold os_La at h ⊢
  rw [h10, h11, h41, h42]
  exact h
theorem os_L.co {M M' : oa_M} {k : Nat} (h : os_L M k) (h9 : ∀ f, f < 5 → M' 9 k f = M 9 k f) (h10 : ∀ o, o < 3 → M' 10 k o = M 10 k o) (h11 : ∀ o, o < 3 → M' 11 k o = M 11 k o) (h38 : M' 38 0 k = M 38 0 k) (h39 : M' 39 0 k = M 39 0 k) (h40 : M' 40 0 k = M 40 0 k) (h41 : ∀ o, o < 3 → M' 41 0 (3 * k + o) = M 41 0 (3 * k + o)) (h42 : ∀ o, o < 3 → M' 42 0 (3 * k + o) = M 42 0 (3 * k + o)) : os_L M' k := by
  obtain ⟨L, m, a1, a2, a3, a4, a5, a6, a7⟩ := h
  refine ⟨L, m, a1, a2, a3, ?_, ?_, ?_, fun o ho => (a7 o ho).co (h10 o (by omega)) (h11 o (by omega)) (h41 o (by omega)) (h42 o (by omega))⟩
  · rw [h9 2 (by decide), h38]; exact a4
  · rw [h9 3 (by decide), h39]; exact a5
  · rw [h9 4 (by decide), h40]; exact a6
theorem os_Ls.co {M M' : oa_M} {nl : Nat} (h : os_Ls M nl) (hk : ∀ k i f, k = 10 ∨ k = 11 ∨ (38 ≤ k ∧ k ≤ 42) → M' k i f = M k i f) (h9 : ∀ i f, f < 5 → M' 9 i f = M 9 i f) : os_Ls M' nl := fun k hk2 =>
  (h k hk2).co (fun f hf => h9 k f hf) (fun o _ => hk _ _ _ (by decide)) (fun o _ => hk _ _ _ (by decide)) (hk _ _ _ (by decide)) (hk _ _ _ (by decide)) (hk _ _ _ (by decide)) (fun o _ => hk _ _ _ (by decide)) (fun o _ => hk _ _ _ (by decide))
theorem os_Txt.co {M M' : oa_M} {len : Nat} {c : Nat → Nat} (h : os_Txt M len c) (h1 : M' 1 0 1 = M 1 0 1) (h2 : M' 1 0 2 = M 1 0 2) (h3 : M' 20 0 0 = M 20 0 0) (h4 : ∀ j, M' 2 0 j = M 2 0 j) (h5 : ∀ j, M' 21 0 j = M 21 0 j) : os_Txt M' len c := by
  unfold os_Txt
  rw [h1, h2, h3]
  refine ⟨h.1, h.2.1, h.2.2.1, h.2.2.2.1, fun j hj => ?_⟩
  rw [h4, h5]
  exact h.2.2.2.2 j hj
theorem os_Out.co {M M' : oa_M} {size : Nat} (h : os_Out M size) (h1 : M' 1 1 1 = M 1 1 1) (h3 : M' 20 0 28 = M 20 0 28) (h4 : ∀ j, M' 2 1 j = M 2 1 j) (h5 : ∀ j, M' 49 0 j = M 49 0 j) : os_Out M' size := by
  unfold os_Out
  rw [h1, h3]
  refine ⟨h.1, h.2.1, h.2.2.1, fun j hj => ?_⟩
  rw [h4, h5]
  exact h.2.2.2 j hj
theorem os_Mem.co {M M' : oa_M} {mem : Nat → Nat} (h : os_Mem M mem) (h4 : ∀ j, M' 3 0 j = M 3 0 j) (h5 : ∀ j, M' 36 0 j = M 36 0 j) : os_Mem M' mem := fun j hj => by
  rw [h4, h5]
  exact h j hj
theorem os_Cn.co {M M' : oa_M} {nf nl : Nat} (h : os_Cn M nf nl) (h5 : ∀ f, M' 0 0 f = M 0 0 f) (h20 : ∀ f, f = 4 ∨ f = 17 ∨ f = 27 ∨ f = 13 → M' 20 0 f = M 20 0 f) : os_Cn M' nf nl := by
  unfold os_Cn
  rw [h5, h5, h5, h5, h20 4 (by decide), h20 17 (by decide), h20 27 (by decide), h20 13 (by decide)]
  exact h
/-- what no picture speaks of -/
def os_free (k f : Nat) : Prop := (k = 20 ∧ (f = 2 ∨ f = 3 ∨ f = 30)) ∨ k = 34 ∨ k = 35 ∨ k = 43 ∨ k = 44 ∨ k = 45 ∨ k = 46 ∨ k = 50 ∨ (k = 9 ∧ (f = 5 ∨ f = 6))
theorem os_I.co {M M' : oa_M} (h : os_I M) (hk : ∀ k i f, ¬ os_free k f → M' k i f = M k i f) : os_I M' := by
  obtain ⟨len, c, size, mem, nf, nl, h1, h2, h3, h4, h5, h6⟩ := h
  have e : ∀ k i f, ¬ ((k = 20 ∧ (f = 2 ∨ f = 3 ∨ f = 30)) ∨ k = 34 ∨ k = 35 ∨ k = 43 ∨ k = 44 ∨ k = 45 ∨ k = 46 ∨ k = 50 ∨ (k = 9 ∧ (f = 5 ∨ f = 6))) → M' k i f = M k i f := hk
  exact ⟨len, c, size, mem, nf, nl, h1.co (e _ _ _ (by omega)) (e _ _ _ (by omega)) (e _ _ _ (by omega)) (fun j => e _ _ _ (by omega)) (fun j => e _ _ _ (by omega)), h2.co (e _ _ _ (by omega)) (e _ _ _ (by omega)) (fun j => e _ _ _ (by omega)) (fun j => e _ _ _ (by omega)), h3.co (fun j => e _ _ _ (by omega)) (fun j => e _ _ _ (by omega)), h4.co (fun f => e _ _ _ (by omega)) (fun f hf => e _ _ _ (by omega)), h5.co (fun k i f hf => e _ _ _ (by omega)), h6.co (fun k i f hf => e _ _ _ (by omega)) (fun i f hf => e _ _ _ (by omega))⟩
theorem os_up {M : oa_M} {k i f : Nat} {x : Int32} {k' i' f' : Nat} (h : ¬ (k' = k ∧ i' = i ∧ f' = f)) : oa_up M k i f x k' i' f' = M k' i' f' := if_neg h
theorem os_up1 {M : oa_M} {k i f : Nat} {x : Int32} : oa_up M k i f x k i f = x := if_pos ⟨rfl, rfl, rfl⟩
theorem os_I.up {M : oa_M} (h : os_I M) {k i f : Nat} (hf : os_free k f) (x : Int32) : os_I (oa_up M k i f x) := h.co (fun k' i' f' hn => os_up (fun q => hn (by rw [q.1, q.2.2]; exact hf)))
/-- the start -/
theorem os_I0 : os_I oc_M0 := by
  refine ⟨0, fun _ => 0, 0, fun _ => 0, 0, 0, ⟨by decide, rfl, rfl, rfl, fun j hj => absurd hj (Nat.not_lt_zero _)⟩, ⟨by decide, rfl, rfl, fun j hj => absurd hj (Nat.not_lt_zero _)⟩, fun j _ => ⟨rfl, rfl, by show 0 < 256; decide⟩, ⟨by decide, by decide, ⟨rfl, rfl⟩, ⟨rfl, rfl⟩, rfl, rfl, Or.inl rfl⟩, ⟨fun i hi => absurd hi (Nat.not_lt_zero _), fun i _ _ o _ => ⟨rfl, rfl, rfl⟩⟩, fun k hk => absurd hk (Nat.not_lt_zero _)⟩

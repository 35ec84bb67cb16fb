/-! the signs of a form: the model's side -/
def os_k3 (M M' : oa_M) : Prop := ∀ k i f, ¬ (k = 20 ∧ (f = 2 ∨ f = 3)) → ¬ k = 34 → ¬ k = 35 → M' k i f = M k i f
theorem os_k3.rf (M : oa_M) : os_k3 M M := fun _ _ _ _ _ _ => rfl
theorem os_k3.tr {M M1 M2 : oa_M} (h : os_k3 M M1) (h2 : os_k3 M1 M2) : os_k3 M M2 := fun k i f a b c => (h2 k i f a b c).trans (h k i f a b c)
theorem os_k2.k3 {M M' : oa_M} (h : os_k2 M M') : os_k3 M M' := fun k i f a _ _ => h k i f a
def os_sz8 (m : Nat) : Bool := decide (m = 8) || (decide (m = 16) || decide (m = 24))
theorem os_mse (n : Nat) {M : oa_M} {len p m w0 w1 w2 : Nat} {b : Bool} (x2 : Int32) (h0 : M 20 0 0 = nI len) (h2 : M 20 0 2 = nI p) (hl : len ≤ p) (hp : p ≤ 60) (hb : M 20 0 3 = os_i b) (hm : m ≤ 24) (e0 : M 35 0 0 = nI w0) (e1 : M 35 0 1 = nI w1) (e2 : M 35 0 2 = nI w2) (l0 : w0 ≤ 24) (l1 : w1 ≤ 24) (l2 : w2 ≤ 24) : BX5_readSigns_22 (n + 1) (nI m) x2 M = some (nI m, oa_up M 20 0 3 (os_i (b || (!os_sz8 m || !os_okw w0 w1 w2)))) := by
  have fin : ∀ (z : Bool) (x x3 : Int32), BX5_readSigns_235 n (nI m) x x3 (os_i z) M = some (nI m, oa_up M 20 0 3 (os_i z)) := fun z x x3 => by
    unfold BX5_readSigns_235
    rw [if_pos (os_isb z)]
  have f230 : ∀ (x x3 : Int32), BX5_readSigns_230 n (nI m) x x3 M = some (nI m, oa_up M 20 0 3 (os_i true)) := fun x x3 => fin true x x3
  have i0 : oa_in (0 : Int32) 3 = true := by decide
  have i1 : oa_in (1 : Int32) 3 = true := by decide
  have i2 : oa_in (2 : Int32) 3 = true := by decide
  have c0 : (0 : Int32).toNatClampNeg = 0 := rfl
  have c1 : (1 : Int32).toNatClampNeg = 1 := rfl
  have c2 : (2 : Int32).toNatClampNeg = 2 := rfl
  have e180 : ∀ (sz od : Bool), BX5_readSigns_180 n (nI m) (os_i sz) (os_i od) M = some (nI m, oa_up M 20 0 3 (os_i (b || (!sz || (!od || (decide (16 < w0) || (decide (16 < w1) || decide (16 < w2)))))))) := fun sz od => by
    unfold BX5_readSigns_180
    rw [hb]
    cases b with
    | true => rw [if_neg (by decide), f230]; simp
    | false =>
      rw [if_pos (by rfl)]
      cases sz with
      | false => rw [if_pos (by rfl), f230]; simp
      | true =>
        rw [if_neg (by decide)]
        cases od with
        | false => rw [if_pos (by rfl), f230]; simp
        | true =>
          rw [if_neg (by decide), if_pos i0, c0, e0, if_pos i1, c1, e1, if_pos i2, c2, e2]
          by_cases q0 : 16 < w0
          · rw [if_pos (show (16 : Int32) < nI w0 from nI_lt (a := 16) q0 (by omega)), f230]; simp [q0]
          · rw [if_neg (show ¬ (16 : Int32) < nI w0 from nI_nlt (a := 16) (by omega) (by decide))]
            by_cases q1 : 16 < w1
            · rw [if_pos (show (16 : Int32) < nI w1 from nI_lt (a := 16) q1 (by omega)), f230]; simp [q1]
            · rw [if_neg (show ¬ (16 : Int32) < nI w1 from nI_nlt (a := 16) (by omega) (by decide))]
              by_cases q2 : 16 < w2
              · rw [if_neg (show ¬ nI w2 ≤ (16 : Int32) from nI_ge (a := 16) q2 (by omega)), f230]; simp [q2]
              · rw [if_pos (show nI w2 ≤ (16 : Int32) from nI_le (b := 16) (by omega) (by decide)), show (0 : Int32) = os_i false from rfl, fin]; simp [q0, q1, q2]
  have e157 : ∀ (sz : Bool), BX5_readSigns_157 n (nI m) (os_i sz) M = BX5_readSigns_180 n (nI m) (os_i sz) (os_i (decide (w2 = 0) || decide (0 < w1))) M := fun sz => by
    unfold BX5_readSigns_157 BX5_readSigns_175 BX5_readSigns_179
    rw [if_pos i2, c2, e2, if_pos i1, c1, e1]
    by_cases q2 : w2 = 0
    · rw [if_pos (by rw [q2]; rfl)]; simp [q2]; rfl
    · rw [if_neg (nI_ne0 (by omega) (by omega))]
      by_cases q1 : w1 = 0
      · rw [if_pos (by rw [q1]; decide)]; simp [q1, q2]; rfl
      · rw [if_neg (nI_nle (by omega) (by omega))]; simp [q2, show 0 < w1 by omega]; rfl
  have e138 : ∀ (sz : Bool) (x : Int32), BX5_readSigns_138 n (nI m) x (os_i sz) M = BX5_readSigns_180 n (nI m) (os_i sz) (os_i ((decide (w1 = 0) || decide (0 < w0)) && (decide (w2 = 0) || decide (0 < w1)))) M := fun sz x => by
    unfold BX5_readSigns_138 BX5_readSigns_179
    rw [if_pos i1, c1, e1, if_pos i0, c0, e0, e157]
    by_cases q1 : w1 = 0
    · rw [if_pos (by rw [q1]; rfl)]; simp [q1]
    · rw [if_neg (nI_ne0 (by omega) (by omega))]
      by_cases q0 : w0 = 0
      · rw [if_pos (by rw [q0]; decide)]; simp [q0, q1]; rfl
      · rw [if_neg (nI_nle (by omega) (by omega))]; simp [q1, show 0 < w0 by omega]
  have e22 : BX5_readSigns_22 (n + 1) (nI m) x2 M = BX5_readSigns_138 n (nI m) x2 (os_i (os_sz8 m)) M := by
    rw [BX5_readSigns_22, h0, h2, if_pos (nI_le hl (by omega))]
    unfold BX5_readSigns_133 os_sz8
    by_cases q8 : m = 8
    · rw [if_pos (by rw [q8]; rfl)]; simp [q8]; rfl
    · rw [if_neg (show ¬ nI m = (8 : Int32) from fun q => q8 ((nI_eq (b := 8) (by omega) (by decide)).mp q))]
      by_cases q16 : m = 16
      · rw [if_pos (by rw [q16]; rfl)]; simp [q16]; rfl
      · rw [if_neg (show ¬ nI m = (16 : Int32) from fun q => q16 ((nI_eq (b := 16) (by omega) (by decide)).mp q))]
        by_cases q24 : m = 24
        · rw [if_pos (by rw [q24]; rfl)]; simp [q24]; rfl
        · rw [if_neg (show ¬ nI m = (24 : Int32) from fun q => q24 ((nI_eq (b := 24) (by omega) (by decide)).mp q))]; simp [q8, q16, q24]; rfl
  rw [e22, e138, e180]
  have ek : (!((decide (w1 = 0) || decide (0 < w0)) && (decide (w2 = 0) || decide (0 < w1))) || (decide (16 < w0) || (decide (16 < w1) || decide (16 < w2)))) = !os_okw w0 w1 w2 := by
    unfold os_okw
    by_cases q0 : w0 ≤ 16 <;> by_cases q1 : w1 ≤ 16 <;> by_cases q2 : w2 ≤ 16 <;> simp [q0, q1, q2, Nat.not_lt.mpr, Nat.not_le.mp, Nat.lt_of_not_le] <;> omega
  rw [ek]
theorem os_signOf (n : Nat) (x : Int32) (M : oa_M) : ∃ z, FX5_signOf n x M = some (z, M) := by
  unfold FX5_signOf BX5_signOf_12 BX5_signOf_40 BX5_signOf_41
  split
  · exact ⟨_, rfl⟩
  split
  · exact ⟨_, rfl⟩
  split
  · exact ⟨_, rfl⟩
  split
  · exact ⟨_, rfl⟩
  · exact ⟨_, rfl⟩
theorem os_signOf' (n : Nat) {x : Nat} (hx : x < 65536) (M : oa_M) : FX5_signOf n (nI x) M = some ((if os_sc x < 5 then nI (os_sc x) else -1), M) := by
  have ne : ∀ (u v : Nat), u < 65536 → v < 65536 → ¬ u = v → ¬ nI u = nI v := fun u v hu hv h q => h ((nI_eq (by omega) (by omega)).mp q)
  unfold FX5_signOf BX5_signOf_12 BX5_signOf_40 BX5_signOf_41 os_sc
  rw [show (48 : Int32) = nI 48 from rfl, show (49 : Int32) = nI 49 from rfl, show (120 : Int32) = nI 120 from rfl, show (122 : Int32) = nI 122 from rfl]
  by_cases h0 : x = 48
  · rw [if_pos (by rw [h0]), on_sub (by omega)]; simp [h0]
  rw [if_neg (ne x 48 hx (by decide) h0)]
  by_cases h1 : x = 49
  · rw [if_pos (by rw [h1]), on_sub (by omega)]; simp [h1]
  rw [if_neg (ne x 49 hx (by decide) h1)]
  by_cases h2 : x < 120
  · rw [if_pos (nI_lt h2 (by decide)), if_neg h0, if_neg h1, if_neg (show ¬ (120 ≤ x ∧ x ≤ 122) by omega)]; rfl
  rw [if_neg (nI_nlt (by omega) (by omega))]
  by_cases h3 : 122 < x
  · rw [if_pos (nI_lt h3 (by omega)), if_neg h0, if_neg h1, if_neg (show ¬ (120 ≤ x ∧ x ≤ 122) by omega)]; rfl
  rw [if_neg (nI_nlt (by omega) (by omega)), if_neg h0, if_neg h1, if_pos (show 120 ≤ x ∧ x ≤ 122 by omega), if_pos (by omega), show (2 : Int32) = nI 2 from rfl, nI_add, on_sub (by omega)]
  congr 3
  omega
theorem os_msb {len : Nat} {c : Nat → Nat} {m w0 w1 w2 : Nat} (hm : m ≤ 24) (l0 : w0 ≤ 24) (l1 : w1 ≤ 24) (l2 : w2 ≤ 24) :
    ∀ (r p n : Nat) (x2 : Int32) (M : oa_M), len ≤ p + r → r < n → p + r ≤ 60 → os_mx M len c p → M 20 0 3 = 1 → M 35 0 0 = nI w0 → M 35 0 1 = nI w1 → M 35 0 2 = nI w2 → ∃ M', BX5_readSigns_22 n (nI m) x2 M = some (nI m, M') ∧ M' 20 0 3 = 1 ∧ os_k3 M M' := by
  intro r
  induction r with
  | zero =>
    intro p n x2 M hl hn hp h hb e0 e1 e2
    obtain ⟨n', rfl⟩ : ∃ n', n = n' + 1 := ⟨n - 1, by omega⟩
    exact ⟨_, os_mse n' (b := true) x2 h.2.2.1 h.2.2.2.1 (by omega) h.2.1 hb hm e0 e1 e2 l0 l1 l2, by rw [os_up1]; rfl, fun k i f a b c => os_up (by omega)⟩
  | succ r ih =>
    intro p n x2 M hl hn hp h hb e0 e1 e2
    obtain ⟨n', rfl⟩ : ∃ n', n = n' + 1 := ⟨n - 1, by omega⟩
    rcases Nat.lt_or_ge p len with hpl | hpl
    · obtain ⟨z, hz⟩ := os_signOf n' (os_hr c len p) M
      have hlen := h.1
      rw [BX5_readSigns_22, h.2.2.1, h.2.2.2.1, if_neg (nI_ge hpl (by omega)), os_here n' h, ob_d, hz, ob_d, hb, if_neg (by decide)]
      unfold BX5_readSigns_60 BX5_readSigns_65 BX5_readSigns_102
      rw [if_pos (by decide), if_neg (by decide)]
      have hat : (oa_up M 20 0 3 1) 20 0 2 = nI p := by rw [os_up (by decide)]; exact h.2.2.2.1
      rw [hat, nI_1]
      have hx : os_mx (oa_up (oa_up M 20 0 3 1) 20 0 2 (nI (p + 1))) len c (p + 1) := ⟨h.1, by omega, by rw [os_up (by decide), os_up (by decide)]; exact h.2.2.1, os_up1, fun j hj => by rw [os_up (by omega), os_up (by omega)]; exact h.2.2.2.2 j hj⟩
      obtain ⟨M', a1, a2, a3⟩ := ih (p + 1) n' z _ (by omega) (by omega) (by omega) hx (by rw [os_up (by decide), os_up1]) (by rw [os_up (by omega), os_up (by omega)]; exact e0) (by rw [os_up (by omega), os_up (by omega)]; exact e1) (by rw [os_up (by omega), os_up (by omega)]; exact e2)
      exact ⟨M', a1, a2, os_k3.tr (fun k i f a b c => by rw [os_up (by omega), os_up (by omega)]) a3⟩
    · exact ⟨_, os_mse n' (b := true) x2 h.2.2.1 h.2.2.2.1 hpl h.2.1 hb hm e0 e1 e2 l0 l1 l2, by rw [os_up1]; rfl, fun k i f a b c => os_up (by omega)⟩
def os_wd (sg : Nat → Nat) (o S : Nat) : Nat := os_cnt (fun j => decide (sg j = 2 + o)) S
def os_ns (M : oa_M) (sg : Nat → Nat) (k : Nat) : Prop := (∀ j, j < k → M 34 0 j = nI (sg j)) ∧ ∀ o, o < 3 → M 35 0 o = nI (os_wd sg o k)
theorem os_msl {len p2 S : Nat} {c sg : Nat → Nat} (hlen : p2 + S = len) (hsg : ∀ j, j < S → sg j = os_sc (c (p2 + j))) :
    ∀ (r k n : Nat) (x2 : Int32) (M : oa_M), k + r = S → r < n → k ≤ 24 → os_mx M len c (p2 + k) → M 20 0 3 = 0 → os_ns M sg k → os_vd sg k = true → ∃ (m : Nat) (M' : oa_M), BX5_readSigns_22 n (nI k) x2 M = some (nI m, M') ∧ os_k3 M M' ∧ (S ≤ 24 ∧ os_vd sg S = true → m = S ∧ os_ns M' sg S ∧ M' 20 0 3 = os_i (!os_sz8 S || !os_okw (os_wd sg 0 S) (os_wd sg 1 S) (os_wd sg 2 S))) ∧ (¬ (S ≤ 24 ∧ os_vd sg S = true) → M' 20 0 3 = 1) := by
  intro r
  induction r with
  | zero =>
    intro k n x2 M hk hn hk24 h hb hs hv
    obtain ⟨n', rfl⟩ : ∃ n', n = n' + 1 := ⟨n - 1, by omega⟩
    have hk : k = S := by omega
    subst hk
    have wl : ∀ o, os_wd sg o k ≤ 24 := fun o => Nat.le_trans (os_cnt_le _ _) hk24
    refine ⟨k, _, os_mse n' (b := false) x2 h.2.2.1 h.2.2.2.1 (by omega) h.2.1 hb hk24 (hs.2 0 (by decide)) (hs.2 1 (by decide)) (hs.2 2 (by decide)) (wl 0) (wl 1) (wl 2), fun k' i f a b c => os_up (by omega), fun _ => ⟨rfl, ⟨fun j hj => ?_, fun o ho => ?_⟩, ?_⟩, fun q => absurd ⟨hk24, hv⟩ q⟩
    · rw [os_up (by omega)]; exact hs.1 j hj
    · rw [os_up (by omega)]; exact hs.2 o ho
    · rw [os_up1]; rfl
  | succ r ih =>
    intro k n x2 M hk hn hk24 h hb hs hv
    obtain ⟨n', rfl⟩ : ∃ n', n = n' + 1 := ⟨n - 1, by omega⟩
    have hlen40 := h.1
    have hkS : k < S := by omega
    have hc := (h.2.2.2.2 (p2 + k) (by omega)).2
    have wl : ∀ o, os_wd sg o k ≤ 24 := fun o => Nat.le_trans (os_cnt_le _ _) hk24
    have start : BX5_readSigns_22 (n' + 1) (nI k) x2 M = (if (if sg k < 5 then nI (sg k) else (-1 : Int32)) < 0 then (BX5_readSigns_60 (BX5_readSigns_22 n') n' (nI k) (if sg k < 5 then nI (sg k) else -1) M) else (if nI k = (24 : Int32) then (BX5_readSigns_60 (BX5_readSigns_22 n') n' (nI k) (if sg k < 5 then nI (sg k) else -1) M) else (BX5_readSigns_65 (BX5_readSigns_22 n') n' (nI k) (if sg k < 5 then nI (sg k) else -1) (0 : Int32) M))) := by
      rw [BX5_readSigns_22, h.2.2.1, h.2.2.2.1, if_neg (nI_ge (by omega) (by omega)), os_here n' h, ob_d, show os_hr c len (p2 + k) = nI (c (p2 + k)) from if_pos (by omega), os_signOf' n' hc, ob_d, hb, if_pos rfl, ← hsg k hkS]
    have bad : (∀ z, BX5_readSigns_60 (BX5_readSigns_22 n') n' (nI k) z M = BX5_readSigns_22 n' (nI k) z (oa_up (oa_up M 20 0 3 1) 20 0 2 (nI (p2 + k + 1)))) := fun z => by
      unfold BX5_readSigns_60 BX5_readSigns_65 BX5_readSigns_102
      rw [if_pos (by decide), if_neg (by decide), os_up (by decide), h.2.2.2.1, nI_1]
    have badgo : ¬ (S ≤ 24 ∧ os_vd sg S = true) → ∀ z, ∃ (m : Nat) (M' : oa_M), BX5_readSigns_60 (BX5_readSigns_22 n') n' (nI k) z M = some (nI m, M') ∧ os_k3 M M' ∧ (S ≤ 24 ∧ os_vd sg S = true → m = S ∧ os_ns M' sg S ∧ M' 20 0 3 = os_i (!os_sz8 S || !os_okw (os_wd sg 0 S) (os_wd sg 1 S) (os_wd sg 2 S))) ∧ (¬ (S ≤ 24 ∧ os_vd sg S = true) → M' 20 0 3 = 1) := fun hno z => by
      have hx : os_mx (oa_up (oa_up M 20 0 3 1) 20 0 2 (nI (p2 + k + 1))) len c (p2 + k + 1) := ⟨h.1, by omega, by rw [os_up (by decide), os_up (by decide)]; exact h.2.2.1, os_up1, fun j hj => by rw [os_up (by omega), os_up (by omega)]; exact h.2.2.2.2 j hj⟩
      obtain ⟨M', a1, a2, a3⟩ := os_msb hk24 (wl 0) (wl 1) (wl 2) r (p2 + k + 1) n' z _ (by omega) (by omega) (by omega) hx (by rw [os_up (by decide), os_up1]) (by rw [os_up (by omega), os_up (by omega)]; exact hs.2 0 (by decide)) (by rw [os_up (by omega), os_up (by omega)]; exact hs.2 1 (by decide)) (by rw [os_up (by omega), os_up (by omega)]; exact hs.2 2 (by decide))
      exact ⟨k, M', by rw [bad]; exact a1, os_k3.tr (fun k i f a b c => by rw [os_up (by omega), os_up (by omega)]) a3, fun q => absurd q hno, fun _ => a2⟩
    rw [start]
    by_cases h5 : sg k < 5
    · rw [if_pos h5, if_neg (nI_pos (by omega))]
      by_cases h24 : k = 24
      · rw [if_pos (by rw [h24]; rfl)]
        exact badgo (fun q => by omega) _
      · rw [if_neg (show ¬ nI k = (24 : Int32) from fun q => h24 ((nI_eq (b := 24) (by omega) (by decide)).mp q))]
        have hv1 : os_vd sg (k + 1) = true := by unfold os_vd at hv ⊢; simp only [os_al, hv, h5]; rfl
        have cont : ∀ M1 : oa_M, (∀ k' i f, ¬ (k' = 20 ∧ (f = 2 ∨ f = 3)) → ¬ k' = 34 → ¬ k' = 35 → M1 k' i f = M k' i f) → M1 20 0 2 = nI (p2 + k + 1) → M1 20 0 3 = 0 → os_ns M1 sg (k + 1) → ∃ (m : Nat) (M' : oa_M), BX5_readSigns_22 n' (nI (k + 1)) (nI (sg k)) M1 = some (nI m, M') ∧ os_k3 M M' ∧ (S ≤ 24 ∧ os_vd sg S = true → m = S ∧ os_ns M' sg S ∧ M' 20 0 3 = os_i (!os_sz8 S || !os_okw (os_wd sg 0 S) (os_wd sg 1 S) (os_wd sg 2 S))) ∧ (¬ (S ≤ 24 ∧ os_vd sg S = true) → M' 20 0 3 = 1) := fun M1 fr q2 q3 qs => by
          have hx : os_mx M1 len c (p2 + (k + 1)) := ⟨h.1, by omega, by rw [fr 20 0 0 (by omega) (by omega) (by omega)]; exact h.2.2.1, by rw [q2]; rfl, fun j hj => by rw [fr 21 0 j (by omega) (by omega) (by omega)]; exact h.2.2.2.2 j hj⟩
          obtain ⟨m, M', a1, a2, a3⟩ := ih (k + 1) n' (nI (sg k)) M1 (by omega) (by omega) (by omega) hx q3 qs hv1
          exact ⟨m, M', a1, os_k3.tr fr a2, a3⟩
        unfold BX5_readSigns_65 BX5_readSigns_102
        rw [if_pos (by decide), if_pos rfl, if_pos (on_in (show k < 24 by omega) (by decide)), nI_clamp (by omega), nI_1]
        have w_no : ∀ o, sg k ≠ 2 + o → os_wd sg o (k + 1) = os_wd sg o k := fun o hne => by unfold os_wd; simp [os_cnt, hne]
        by_cases h1 : sg k ≤ 1
        · rw [if_pos (show nI (sg k) ≤ (1 : Int32) from nI_le (b := 1) h1 (by decide)), os_up (by omega), os_up (by omega), h.2.2.2.1, nI_1]
          refine cont _ (fun k' i f a b c => by rw [os_up (by omega), os_up (by omega), os_up (by omega)]) os_up1 (by rw [os_up (by omega), os_up (by omega), os_up1]) ⟨fun j hj => ?_, fun o ho => ?_⟩
          · rw [os_up (by omega)]
            by_cases hjk : j = k
            · rw [hjk, os_up1]
            · rw [os_up (by omega), os_up (by omega)]; exact hs.1 j (by omega)
          · rw [os_up (by omega), os_up (by omega), os_up (by omega), w_no o (by omega)]; exact hs.2 o ho
        · rw [if_neg (show ¬ nI (sg k) ≤ (1 : Int32) from nI_ge (a := 1) (by omega) (by omega)), show (2 : Int32) = nI 2 from rfl, on_sub (by omega), if_pos (on_in (show sg k - 2 < 3 by omega) (by decide)), if_pos (on_in (show sg k - 2 < 3 by omega) (by decide)), nI_clamp (by omega), hs.2 (sg k - 2) (by omega), nI_1, os_up (by omega), os_up (by omega), os_up (by omega), h.2.2.2.1, nI_1]
          refine cont _ (fun k' i f a b c => by rw [os_up (by omega), os_up (by omega), os_up (by omega), os_up (by omega)]) os_up1 (by rw [os_up (by omega), os_up (by omega), os_up (by omega), os_up1]) ⟨fun j hj => ?_, fun o ho => ?_⟩
          · rw [os_up (by omega), os_up (by omega)]
            by_cases hjk : j = k
            · rw [hjk, os_up1]
            · rw [os_up (by omega), os_up (by omega)]; exact hs.1 j (by omega)
          · rw [os_up (by omega)]
            by_cases hoo : o = sg k - 2
            · rw [hoo, os_up1]
              congr 1
              have : sg k = 2 + (sg k - 2) := by omega
              unfold os_wd
              simp only [os_cnt]
              rw [if_pos (decide_eq_true this)]
            · rw [os_up (by omega), os_up (by omega), os_up (by omega), w_no o (by omega)]; exact hs.2 o ho
    · rw [if_neg h5, if_pos (by decide)]
      exact badgo (fun q => by rw [show os_vd sg S = false from os_al_no hkS (by simp [h5])] at q; exact absurd q.2 (by decide)) _
/-- the newest row's counters, cleared; then all signs -/
theorem os_mrs {M : oa_M} {len p2 S : Nat} {c sg : Nat → Nat} {b : Bool} (h : os_mx M len c p2) (hb : M 20 0 3 = os_i b) (hS : b = false → p2 + S = len) (hsg : ∀ j, j < S → sg j = os_sc (c (p2 + j))) {n : Nat} (hn : 70 < n) : ∃ (m : Nat) (M' : oa_M), FX5_readSigns n M = some (nI m, M') ∧ os_k3 M M' ∧ (b = false ∧ S ≤ 24 ∧ os_vd sg S = true → m = S ∧ os_ns M' sg S ∧ M' 20 0 3 = os_i (!os_sz8 S || !os_okw (os_wd sg 0 S) (os_wd sg 1 S) (os_wd sg 2 S))) ∧ (¬ (b = false ∧ S ≤ 24 ∧ os_vd sg S = true) → M' 20 0 3 = 1) := by
  obtain ⟨n', rfl⟩ : ∃ n', n = n' + 1 + 1 + 1 + 1 := ⟨n - 4, by omega⟩
  have e : FX5_readSigns (n' + 1 + 1 + 1 + 1) M = BX5_readSigns_22 n' (nI 0) (nI 3) (oa_up (oa_up (oa_up M 35 0 0 0) 35 0 1 0) 35 0 2 0) := by
    unfold FX5_readSigns
    rw [show (0 : Int32) = nI 0 from rfl]
    rw [BX5_readSigns_4, if_neg (show ¬ (3 : Int32) ≤ nI 0 from by decide), if_pos (by decide), nI_1]
    rw [BX5_readSigns_4, if_neg (show ¬ (3 : Int32) ≤ nI (0 + 1) from by decide), if_pos (by decide), nI_1]
    rw [BX5_readSigns_4, if_neg (show ¬ (3 : Int32) ≤ nI (0 + 1 + 1) from by decide), if_pos (by decide), nI_1]
    rw [BX5_readSigns_4, if_pos (show (3 : Int32) ≤ nI (0 + 1 + 1 + 1) from by decide)]
    rfl
  obtain ⟨M0, hM0⟩ : ∃ M0 : oa_M, M0 = oa_up (oa_up (oa_up M 35 0 0 0) 35 0 1 0) 35 0 2 0 := ⟨_, rfl⟩
  rw [← hM0] at e
  have fr : ∀ k i f, ¬ k = 35 → M0 k i f = M k i f := fun k i f hk => by rw [hM0, os_up (by omega), os_up (by omega), os_up (by omega)]
  have z : ∀ o, o < 3 → M0 35 0 o = nI 0 := fun o ho => by
    rw [hM0]
    rcases (show o = 0 ∨ o = 1 ∨ o = 2 by omega) with rfl | rfl | rfl
    · rw [os_up (by decide), os_up (by decide), os_up1]; rfl
    · rw [os_up (by decide), os_up1]; rfl
    · rw [os_up1]; rfl
  have hx : os_mx M0 len c p2 := h.to (fr _ _ _ (by decide)) (fr _ _ _ (by decide)) (fun j => fr _ _ _ (by decide))
  have hk0 : os_k3 M M0 := fun k i f a b c => fr k i f c
  rw [e]
  cases b with
  | true =>
    have hl := h.1
    have hp := h.2.1
    obtain ⟨M', a1, a2, a3⟩ := os_msb (m := 0) (w0 := 0) (w1 := 0) (w2 := 0) (by decide) (by decide) (by decide) (by decide) (len - p2) p2 n' (nI 3) M0 (by omega) (by omega) (by omega) hx (by rw [fr _ _ _ (by decide)]; exact hb) (z 0 (by decide)) (z 1 (by decide)) (z 2 (by decide))
    exact ⟨0, M', a1, hk0.tr a3, (fun q => by cases q.1), fun _ => a2⟩
  | false =>
    have hl := h.1
    have hS2 := hS rfl
    obtain ⟨m, M', a1, a2, a3, a4⟩ := os_msl hS2 hsg S 0 n' (nI 3) M0 (by omega) (by omega) (by decide) hx (by rw [fr _ _ _ (by decide)]; exact hb) ⟨fun j hj => absurd hj (Nat.not_lt_zero _), fun o ho => z o ho⟩ rfl
    exact ⟨m, M', a1, hk0.tr a2, fun q => a3 q.2, fun q => a4 (fun q2 => q ⟨rfl, q2⟩)⟩

/-! rows that change places: the same cells under other numbers -/
def oa_sw (a b j : Nat) : Nat := if j = a then b else if j = b then a else j
theorem oa_sw_inj {a b i j : Nat} (h : oa_sw a b i = oa_sw a b j) : i = j := by
  unfold oa_sw at h
  by_cases h1 : i = a <;> by_cases h2 : j = a <;> by_cases h3 : i = b <;> by_cases h4 : j = b <;> simp_all
theorem oa_sw_lt {a b n j : Nat} (ha : a < n) (hb : b < n) (h : j < n) : oa_sw a b j < n := by
  unfold oa_sw
  by_cases h1 : j = a
  · rw [if_pos h1]; exact hb
  · rw [if_neg h1]
    by_cases h2 : j = b
    · rw [if_pos h2]; exact ha
    · rw [if_neg h2]; exact h
theorem oa_sw_a (a b : Nat) : oa_sw a b a = b := if_pos rfl
theorem oa_sw_b (a b : Nat) : oa_sw a b b = a := by
  unfold oa_sw
  by_cases h : b = a
  · rw [if_pos h, h]
  · rw [if_neg h, if_pos rfl]
theorem oa_sw_o {a b j : Nat} (h1 : j ≠ a) (h2 : j ≠ b) : oa_sw a b j = j := by
  unfold oa_sw
  rw [if_neg h1, if_neg h2]
/-- which number stands for which: forms, lines -/
def oa_gF (a b k i : Nat) : Nat := match k with
  | 5 => oa_sw a b i
  | 6 => oa_sw a b i
  | 7 => 3 * oa_sw a b (i / 3) + i % 3
  | _ => i
def oa_gL (a b k i : Nat) : Nat := match k with
  | 9 => oa_sw a b i
  | 10 => oa_sw a b i
  | 11 => oa_sw a b i
  | _ => i
def oa_swI (a b : Nat) (x : Int32) : Int32 := if x = nI a then nI b else if x = nI b then nI a else x
def oa_mF (M : oa_M) (a b : Nat) : oa_M := fun k i f => match k with
  | 5 => M 5 (oa_sw a b i) f
  | 7 => M 7 (3 * oa_sw a b (i / 3) + i % 3) f
  | 9 => if f = 6 then oa_swI a b (M 9 i 6) else M 9 i f
  | k => M k i f
def oa_mL (M : oa_M) (a b : Nat) : oa_M := fun k i f => match k with
  | 9 => M 9 (oa_sw a b i) f
  | 10 => M 10 (oa_sw a b i) f
  | 11 => M 11 (oa_sw a b i) f
  | k => M k i f
theorem oa_gF_lt {a b : Nat} (ha : a < 13) (hb : b < 13) (k i : Nat) (h : i < oa_n k) : oa_gF a b k i < oa_n k := by
  by_cases h5 : k = 5
  · subst h5; exact oa_sw_lt ha hb h
  by_cases h6 : k = 6
  · subst h6; exact oa_sw_lt ha hb h
  by_cases h7 : k = 7
  · subst h7
    have h : i < 39 := h
    have := oa_sw_lt ha hb (show i / 3 < 13 by omega)
    show 3 * oa_sw a b (i / 3) + i % 3 < 39
    omega
  have e : oa_gF a b k i = i := by
    unfold oa_gF
    split
    · exact absurd rfl h5
    · exact absurd rfl h6
    · exact absurd rfl h7
    · rfl
  rw [e]; exact h
theorem oa_gF_inj {a b : Nat} (k i j : Nat) (h : oa_gF a b k i = oa_gF a b k j) : i = j := by
  unfold oa_gF at h
  split at h
  · exact oa_sw_inj h
  · exact oa_sw_inj h
  · have h1 : oa_sw a b (i / 3) = oa_sw a b (j / 3) := by omega
    have h2 := oa_sw_inj h1
    omega
  · exact h
theorem oa_gL_lt {a b : Nat} (ha : a < 21) (hb : b < 21) (k i : Nat) (h : i < oa_n k) : oa_gL a b k i < oa_n k := by
  by_cases h5 : k = 9
  · subst h5; exact oa_sw_lt ha hb h
  by_cases h6 : k = 10
  · subst h6; exact oa_sw_lt ha hb h
  by_cases h7 : k = 11
  · subst h7; exact oa_sw_lt ha hb h
  have e : oa_gL a b k i = i := by
    unfold oa_gL
    split
    · exact absurd rfl h5
    · exact absurd rfl h6
    · exact absurd rfl h7
    · rfl
  rw [e]; exact h
theorem oa_gL_inj {a b : Nat} (k i j : Nat) (h : oa_gL a b k i = oa_gL a b k j) : i = j := by
  unfold oa_gL at h
  split at h
  · exact oa_sw_inj h
  · exact oa_sw_inj h
  · exact oa_sw_inj h
  · exact h
theorem oa_W.mv {ad : Nat → Nat → Nat} {b0 : Nat} {g : Nat → Nat → Nat} (hw : oa_W ad b0) (h1 : ∀ k i, i < oa_n k → g k i < oa_n k) (h2 : ∀ k i j, g k i = g k j → i = j) : oa_W (fun k i => ad k (g k i)) b0 :=
  ⟨fun k i k' i' hi hi' e => by
    obtain ⟨e1, q⟩ := hw.1 k _ k' _ (h1 k i hi) (h1 k' i' hi') e
    subst e1
    exact ⟨rfl, h2 _ _ _ q⟩, fun k i hi => hw.2 k _ (h1 k i hi)⟩
theorem oa_fr_sw {ad : Nat → Nat → Nat} {a b : Nat} (ha : a < 13) (hb : b < 13) (x : Int32) : oa_fr (fun k i => ad k (oa_gF a b k i)) (oa_swI a b x) = oa_fr ad x := by
  unfold oa_swI
  by_cases h1 : x = nI a
  · rw [if_pos h1, h1]
    unfold oa_fr
    rw [if_neg (nI_pos (by omega)), if_neg (nI_pos (by omega)), nI_clamp (by omega), nI_clamp (by omega)]
    show Value.ref (ad 5 (oa_sw a b b)) = _
    rw [oa_sw_b]
  · rw [if_neg h1]
    by_cases h2 : x = nI b
    · rw [if_pos h2, h2]
      unfold oa_fr
      rw [if_neg (nI_pos (by omega)), if_neg (nI_pos (by omega)), nI_clamp (by omega), nI_clamp (by omega)]
      show Value.ref (ad 5 (oa_sw a b a)) = _
      rw [oa_sw_a]
    · rw [if_neg h2]
      unfold oa_fr
      by_cases h3 : x < 0
      · rw [if_pos h3, if_pos h3]
      · rw [if_neg h3, if_neg h3]
        obtain ⟨j, hj, rfl⟩ := nI_of h3
        rw [nI_clamp hj]
        show Value.ref (ad 5 (oa_sw a b j)) = _
        rw [oa_sw_o (fun q => h1 (by rw [q])) (fun q => h2 (by rw [q]))]
theorem oa_sma {D : va_G} {x : Nat} {H : Heap} {cA : ClassId} {n : Nat} {f g : Nat → Option Nat} (h : ∀ j, j < n → f j = g j) (q : va_at D vwCl (x, .inl (cA, n, .inr (.inr (.inr (.inr f))))) H) : va_at D vwCl (x, .inl (cA, n, .inr (.inr (.inr (.inr g))))) H := by
  have q1 : H[x]? = some (vp_cell cA (n, .inr (.inr (.inr (.inr f))))) := q
  show H[x]? = some (vp_cell cA (n, .inr (.inr (.inr (.inr g)))))
  rw [q1, vp_cell_q, vp_cell_q]
  unfold arrV
  congr 2
  refine Array.ext (by simp) (fun i h1 h2 => ?_)
  simp only [Array.size_ofFn] at h1
  simp only [Array.getElem_ofFn]
  rw [h i h1]
theorem oa_oF {ca : Nat → ClassId} {ad : Nat → Nat → Nat} {M : oa_M} {a b k i : Nat} (h4 : k ≠ 4) (h5 : k ≠ 5) (h6 : k ≠ 6) (h7 : k ≠ 7) (h9 : k ≠ 9) : ((fun k i => ad k (oa_gF a b k i)) k i, oa_cr ca (fun k i => ad k (oa_gF a b k i)) k i (oa_mF M a b k i)) = (ad k i, oa_cr ca ad k i (M k i)) := by
  have e1 : oa_gF a b k i = i := by
    unfold oa_gF
    split
    · exact absurd rfl h5
    · exact absurd rfl h6
    · exact absurd rfl h7
    · rfl
  have e2 : oa_mF M a b k i = M k i := by
    funext f
    unfold oa_mF
    split
    · exact absurd rfl h5
    · exact absurd rfl h7
    · exact absurd rfl h9
    · rfl
  rw [e2]
  show (ad k (oa_gF a b k i), _) = _
  rw [e1]
  refine congrArg (fun z => (ad k i, z)) ?_
  unfold oa_cr
  split <;> first | rfl | (exact absurd rfl h4) | (exact absurd rfl h5) | (exact absurd rfl h6) | (exact absurd rfl h7) | (exact absurd rfl h9)
theorem oa_oL {ca : Nat → ClassId} {ad : Nat → Nat → Nat} {M : oa_M} {a b k i : Nat} (h8 : k ≠ 8) (h9 : k ≠ 9) (h10 : k ≠ 10) (h11 : k ≠ 11) : ((fun k i => ad k (oa_gL a b k i)) k i, oa_cr ca (fun k i => ad k (oa_gL a b k i)) k i (oa_mL M a b k i)) = (ad k i, oa_cr ca ad k i (M k i)) := by
  have e1 : oa_gL a b k i = i := by
    unfold oa_gL
    split
    · exact absurd rfl h9
    · exact absurd rfl h10
    · exact absurd rfl h11
    · rfl
  have e2 : oa_mL M a b k i = M k i := by
    funext f
    unfold oa_mL
    split
    · exact absurd rfl h9
    · exact absurd rfl h10
    · exact absurd rfl h11
    · rfl
  rw [e2]
  show (ad k (oa_gL a b k i), _) = _
  rw [e1]
  refine congrArg (fun z => (ad k i, z)) ?_
  unfold oa_cr
  split <;> first | rfl | (exact absurd rfl h8) | (exact absurd rfl h9) | (exact absurd rfl h10) | (exact absurd rfl h11)
theorem oa_H.swF {D : va_G} {ca : Nat → ClassId} {ad : Nat → Nat → Nat} {b0 : Nat} (hw : oa_W ad b0) {M : oa_M} {H H1 : Heap} (h : oa_H D ca ad M H) {a b : Nat} (ha : a < 13) (hb : b < 13) (hA : va_at D vwCl (ad 4 0, .inl (ca 3, 13, .inr (.inr (.inr (.inr (va_up (va_up (fun j => some (ad 5 j)) b (some (ad 5 a))) a (some (ad 5 b)))))))) H1) (oq : ∀ q : Nat, q ≠ ad 4 0 → H1[q]? = H[q]?) : oa_H D ca (fun k i => ad k (oa_gF a b k i)) (oa_mF M a b) H1 := by
  have hk : ∀ k i, i < oa_n k → k ≠ 4 → va_at D vwCl (ad k i, oa_cr ca ad k i (M k i)) H1 := fun k i hi hn => (h k i hi).kept (oq _ (fun q => hn (hw.1 k i 4 0 hi (by decide) q).1))
  intro k i hi
  by_cases h4 : k = 4
  · subst h4
    have i0 : i = 0 := by
      have h1 : i < 1 := hi
      omega
    subst i0
    refine oa_sma (fun j hj => ?_) hA
    show _ = some (ad 5 (oa_sw a b j))
    unfold va_up oa_sw
    by_cases h1 : j = a
    · rw [if_pos h1, if_pos h1]
    · rw [if_neg h1, if_neg h1]
      by_cases h2 : j = b
      · rw [if_pos h2, if_pos h2]
      · rw [if_neg h2, if_neg h2]
  by_cases h5 : k = 5
  · subst h5
    exact hk 5 (oa_sw a b i) (oa_sw_lt ha hb hi) (by decide)
  by_cases h6 : k = 6
  · subst h6
    refine oa_sma (fun j hj => ?_) (hk 6 (oa_sw a b i) (oa_sw_lt ha hb hi) (by decide))
    show some (ad 7 (3 * oa_sw a b i + j)) = some (ad 7 (3 * oa_sw a b ((3 * i + j) / 3) + (3 * i + j) % 3))
    rw [show (3 * i + j) / 3 = i by omega, show (3 * i + j) % 3 = j by omega]
  by_cases h7 : k = 7
  · subst h7
    exact hk 7 (oa_gF a b 7 i) (oa_gF_lt ha hb 7 i hi) (by decide)
  by_cases h9 : k = 9
  · subst h9
    have e : oa_cr ca (fun k i => ad k (oa_gF a b k i)) 9 i (oa_mF M a b 9 i) = oa_cr ca ad 9 i (M 9 i) := by
      show Sum.inr (1, [_, _, _, _, _, _, oa_fr (fun k i => ad k (oa_gF a b k i)) (oa_swI a b (M 9 i 6))]) = _
      rw [oa_fr_sw ha hb]
      rfl
    rw [e]
    exact hk 9 i hi (by decide)
  rw [oa_oF h4 h5 h6 h7 h9]
  exact hk k i hi h4
theorem oa_H.swL {D : va_G} {ca : Nat → ClassId} {ad : Nat → Nat → Nat} {b0 : Nat} (hw : oa_W ad b0) {M : oa_M} {H H1 : Heap} (h : oa_H D ca ad M H) {a b : Nat} (ha : a < 21) (hb : b < 21) (hA : va_at D vwCl (ad 8 0, .inl (ca 4, 21, .inr (.inr (.inr (.inr (va_up (va_up (fun j => some (ad 9 j)) b (some (ad 9 a))) a (some (ad 9 b)))))))) H1) (oq : ∀ q : Nat, q ≠ ad 8 0 → H1[q]? = H[q]?) : oa_H D ca (fun k i => ad k (oa_gL a b k i)) (oa_mL M a b) H1 := by
  have hk : ∀ k i, i < oa_n k → k ≠ 8 → va_at D vwCl (ad k i, oa_cr ca ad k i (M k i)) H1 := fun k i hi hn => (h k i hi).kept (oq _ (fun q => hn (hw.1 k i 8 0 hi (by decide) q).1))
  intro k i hi
  by_cases h8 : k = 8
  · subst h8
    have i0 : i = 0 := by
      have h1 : i < 1 := hi
      omega
    subst i0
    refine oa_sma (fun j hj => ?_) hA
    show _ = some (ad 9 (oa_sw a b j))
    unfold va_up oa_sw
    by_cases h1 : j = a
    · rw [if_pos h1, if_pos h1]
    · rw [if_neg h1, if_neg h1]
      by_cases h2 : j = b
      · rw [if_pos h2, if_pos h2]
      · rw [if_neg h2, if_neg h2]
  by_cases h9 : k = 9
  · subst h9
    exact hk 9 (oa_sw a b i) (oa_sw_lt ha hb hi) (by decide)
  by_cases h10 : k = 10
  · subst h10
    exact hk 10 (oa_sw a b i) (oa_sw_lt ha hb hi) (by decide)
  by_cases h11 : k = 11
  · subst h11
    exact hk 11 (oa_sw a b i) (oa_sw_lt ha hb hi) (by decide)
  rw [oa_oL h8 h9 h10 h11]
  exact hk k i hi h8
/-- the cells' other numbers leave what the law holds where it is -/
def oa_lk (ad ad' : Nat → Nat → Nat) (b0 : Nat) : Prop := oa_W ad' b0 ∧ ad' 0 0 = ad 0 0 ∧ ad' 20 0 = ad 20 0 ∧ ad' 50 0 = ad 50 0
def oa_Hx (D : va_G) (ca : Nat → ClassId) (ad : Nat → Nat → Nat) (b0 : Nat) (M : oa_M) (H : Heap) : Prop := ∃ ad' : Nat → Nat → Nat, oa_lk ad ad' b0 ∧ oa_H D ca ad' M H
theorem oa_Hx.of {D : va_G} {ca : Nat → ClassId} {ad : Nat → Nat → Nat} {b0 : Nat} {M : oa_M} {H : Heap} (hw : oa_W ad b0) (h : oa_H D ca ad M H) : oa_Hx D ca ad b0 M H := ⟨ad, ⟨hw, rfl, rfl, rfl⟩, h⟩
/-- .. of one that may throw, and may change rows' places -/
def oa_Xj (l : Launch) (y : MethodName) (ws : List Cond) (rm : Room) (mc : Nat) (D : va_G) (ca : Nat → ClassId) (ad : Nat → Nat → Nat) (b0 : Nat) (av : List Value) (M : oa_M) (o : Nat × Int32 × oa_M) : Prop :=
  vx_Met l y ws rm (va_Pc av (oa_P D ca ad b0 M)) (va_Qi (fun (r' : Int32) (u : oa_M) => o.1 = 0 ∧ r' = o.2.1 ∧ u = o.2.2) (fun u t => oa_Hx D ca ad b0 u t.heap) (fun q => b0 ≤ q)) (vx_X (fun u : oa_M => o.1 ≠ 0 ∧ u = o.2.2) (fun E u t => E = oa_x o.1 ∧ oa_Hx D ca ad b0 u t.heap) (fun q => b0 ≤ q)) mc (6 * mc) (fun q => b0 ≤ q)
section OAV
variable {p : Program} {l : Launch} {e : Env} {R : Room} {s : State} {m : MethodId} {args : Array Value} {below : List Frame} {meth : Method} {c : Code} {H : Heap} {locs : List Loc} {cells slots : Nat} {Q : State → Prop}
variable {cc : ByteArray} {pc : Nat} {ls : Array Slot} {rest : List Value} {D : va_G} {ca : Nat → ClassId} {ad : Nat → Nat → Nat} {b0 : Nat} {M : oa_M}
theorem oa_p1 {A : Nat} {e : va_E} (h : va_at D vwCl (A, e) H) : va_P D vwCl [(A, e)] H := by
  intro j q hq
  have hj : j < 1 := (List.getElem?_eq_some_iff.mp hq).1
  rw [show j = 0 by omega] at hq
  cases hq
  exact h
theorem oa_aast (hexec : p.tables.exec = Jvm.exec) (hb : c.code = cc) (hE : oa_E D ca b0 s) (hS : va_S (fun q => b0 ≤ q) s.heap H locs) {A V : Nat} (t ci N : Nat) {r : vw_C} {vs : List Value} {g : Nat → Option Nat} (hA : va_at D vwCl (A, .inl (ca t, N, .inr (.inr (.inr (.inr g))))) H) (hV : va_at D vwCl (V, .inr (ci, vs)) H) (hAb : b0 ≤ A) (ht : (oa_ty ca)[t]? = some (ca t, .object r.1)) (hc : vwCl[ci]? = some r) {i : Int32} (hin : vp_in i N) (hdg : decode cc pc = .ok (.aastore, 1))
    (kk : ∀ (H1 : Heap) (locs1 : List Loc), va_at D vwCl (A, .inl (ca t, N, .inr (.inr (.inr (.inr (va_up g i.toNatClampNeg (some V))))))) H1 → (∀ q : Nat, q ≠ A → H1[q]? = H[q]?) → va_S (fun q => b0 ≤ q) s.heap H1 locs1 → W p l e R s m args below meth c H1 locs1 cells slots Q (F0 m (pc + 1) ls rest)) : W p l e R s m args below meth c H locs cells slots Q (F0 m pc ls (.ref V :: .int i :: .ref A :: rest)) := by
  have hK := hE.1
  have hlt : i.toNatClampNeg < N := Nat.not_le.mp fun q => hin (Or.inr q)
  have h0 : ¬ i < 0 := fun q => hin (Or.inl q)
  obtain ⟨r', hr', cellV, g1, g2, g3, -⟩ := hV
  have hcls := (hK.1 ci r hc).2
  obtain ⟨kA, comp, k1, k2, k3, -⟩ := (hK.2 t _ ht).2
  have hcomp : comp = D.1 ci := Option.some.inj (k3.symm.trans hcls.1)
  subst hcomp
  obtain ⟨kC, hkC, -⟩ := hcls.2
  refine W.aast hexec hb hA (fun q h => by cases h) (fun h => by cases h) k1 k2 rfl hkC ⟨h0, by show _ < (arrV _ _ _).slots.size; rw [arrV_size]; exact hlt⟩ g1 (fun q h => by rw [g3] at h; cases h) (by rw [g2]; exact hkC) (by rw [g2]; exact va_assign hcls) rfl rfl hdg fun H1 e z oq => ?_
  refine kk H1 _ ?_ oq (hS.put z oq hAb)
  show H1[A]? = some (vp_cell _ _)
  rw [e]
  rw [vp_cell_q, vp_cell_q, arrV_store]
  congr 2
  funext q
  by_cases hq : q = i.toNatClampNeg
  · subst hq
    simp [updV, va_up, va_rf]
  · simp [updV, va_up, hq]
/-- two stores that change the places of two rows -/
theorem oa_two (hexec : p.tables.exec = Jvm.exec) (hb : c.code = cc) (hts : ∀ w ∈ oa_T, w.before args s = true) (hown : s.vm.findClass RX4 = some m.cls) (hE : oa_E D ca b0 s) (hw : oa_W ad b0) (hH : oa_H D ca ad M H) (hS : va_S (fun q => b0 ≤ q) s.heap H locs) (kA kE fA fC N t ci : Nat) {r : vw_C} {ia ic : Nat} (hnA : oa_n kA = 1) (hA0 : kA ≠ 0) (hAE : kA ≠ kE) (hfA : fA < 9) (hfC : fC < 9) {i1 i2 : Int32} {a : Nat} (ha : a < oa_n kE) (h1 : vp_in i1 N) (hb1 : i1.toNatClampNeg < oa_n kE) (h2 : vp_in i2 N)
    (heA : oa_cr ca ad kA 0 (M kA 0) = .inl (ca t, N, .inr (.inr (.inr (.inr (fun j => some (ad kE j))))))) (heE : ∀ i, ∃ vs, oa_cr ca ad kE i (M kE i) = .inr (ci, vs)) (ht : (oa_ty ca)[t]? = some (ca t, .object r.1)) (hc : vwCl[ci]? = some r)
    (hlA : (Cond.fieldLink RX4 ia (TX4 fA).1 (TX4 fA).2.1 (TX4 fA).2.2.1).before args s = true) (hlC : (Cond.fieldLink RX4 ic (TX4 fC).1 (TX4 fC).2.1 (TX4 fC).2.2.1).before args s = true) {fs : List Value} (he0 : oa_cr ca ad 0 0 (M 0 0) = .inr (4, fs)) (hvA : fs[fA]? = some (.ref (ad kA 0))) (hvC : fs[fC]? = some (.int i2))
    (hl0 : ls[0]? = some (.val (.ref (ad 0 0)))) (hl1 : ls[1]? = some (.val (.ref (ad kE i1.toNatClampNeg))))
    (d0 : decode cc pc = .ok (.aastore, 1)) (d1 : decode cc (pc + 1) = .ok (.aload_n 0, 1)) (d2 : decode cc (pc + 2) = .ok (.getfield ia, 3)) (d5 : decode cc (pc + 5) = .ok (.aload_n 0, 1)) (d6 : decode cc (pc + 6) = .ok (.getfield ic, 3)) (d9 : decode cc (pc + 9) = .ok (.aload_n 1, 1)) (d10 : decode cc (pc + 10) = .ok (.aastore, 1))
    (kk : ∀ (H1 : Heap) (locs1 : List Loc), va_at D vwCl (ad kA 0, .inl (ca t, N, .inr (.inr (.inr (.inr (va_up (va_up (fun j => some (ad kE j)) i1.toNatClampNeg (some (ad kE a))) i2.toNatClampNeg (some (ad kE i1.toNatClampNeg)))))))) H1 → (∀ q : Nat, q ≠ ad kA 0 → H1[q]? = H[q]?) → va_S (fun q => b0 ≤ q) s.heap H1 locs1 → W p l e R s m args below meth c H1 locs1 cells slots Q (F0 m (pc + 11) ls rest)) : W p l e R s m args below meth c H locs cells slots Q (F0 m pc ls (.ref (ad kE a) :: .int i1 :: .ref (ad kA 0) :: rest)) := by
  have hnA0 : 0 < oa_n kA := by rw [hnA]; decide
  have hAat := hH kA 0 hnA0
  rw [heA] at hAat
  obtain ⟨va, hva⟩ := heE a
  have hVat := hH kE a ha
  rw [hva] at hVat
  have hAb := hw.2 kA 0 hnA0
  refine oa_aast hexec hb hE hS t ci N hAat hVat hAb ht hc h1 d0 (fun H1 locs1 hA1 oq1 hS1 => ?_)
  have n0 : ad 0 0 ≠ ad kA 0 := fun q => hA0 (hw.1 0 0 kA 0 (by decide) hnA0 q).1.symm
  have h0at : va_at D vwCl (ad 0 0, oa_cr ca ad 0 0 (M 0 0)) H1 := (hH 0 0 (by decide)).kept (oq1 _ n0)
  rw [he0] at h0at
  refine lv_aload_n hexec hb d1 rfl hl0 ?_
  refine va_get hexec hb hts inX4 hown hE.1 (oa_p1 h0at) 0 rfl rfl fA hfA hlA (fun _ h => h) hvA d2 ?_
  refine lv_aload_n hexec hb d5 rfl hl0 ?_
  refine va_get hexec hb hts inX4 hown hE.1 (oa_p1 h0at) 0 rfl rfl fC hfC hlC (fun _ h => h) hvC d6 ?_
  refine lv_aload_n hexec hb d9 rfl hl1 ?_
  obtain ⟨vb, hvb⟩ := heE i1.toNatClampNeg
  have nE : ad kE i1.toNatClampNeg ≠ ad kA 0 := fun q => hAE (hw.1 kE _ kA 0 hb1 hnA0 q).1.symm
  have hVb : va_at D vwCl (ad kE i1.toNatClampNeg, oa_cr ca ad kE i1.toNatClampNeg (M kE i1.toNatClampNeg)) H1 := (hH kE _ hb1).kept (oq1 _ nE)
  rw [hvb] at hVb
  refine oa_aast hexec hb hE hS1 t ci N hA1 hVb hAb ht hc h2 d10 (fun H2 locs2 hA2 oq2 hS2 => ?_)
  exact kk H2 locs2 hA2 (fun q hq => (oq2 q hq).trans (oq1 q hq)) hS2
theorem oa_twoF (hexec : p.tables.exec = Jvm.exec) (hb : c.code = cc) (hts : ∀ w ∈ oa_T, w.before args s = true) (hown : s.vm.findClass RX4 = some m.cls) (hE : oa_E D ca b0 s) (hw : oa_W ad b0) (hH : oa_H D ca ad M H) (hS : va_S (fun q => b0 ≤ q) s.heap H locs) {i1 i2 : Int32} {ia ic : Nat} (h1 : vp_in i1 13) (h2 : vp_in i2 13) (e2 : M 0 0 5 = i2)
    (hlA : (Cond.fieldLink RX4 ia (TX4 3).1 (TX4 3).2.1 (TX4 3).2.2.1).before args s = true) (hlC : (Cond.fieldLink RX4 ic (TX4 5).1 (TX4 5).2.1 (TX4 5).2.2.1).before args s = true)
    (hl0 : ls[0]? = some (.val (.ref (ad 0 0)))) (hl1 : ls[1]? = some (.val (.ref (ad 5 i1.toNatClampNeg))))
    (d0 : decode cc pc = .ok (.aastore, 1)) (d1 : decode cc (pc + 1) = .ok (.aload_n 0, 1)) (d2 : decode cc (pc + 2) = .ok (.getfield ia, 3)) (d5 : decode cc (pc + 5) = .ok (.aload_n 0, 1)) (d6 : decode cc (pc + 6) = .ok (.getfield ic, 3)) (d9 : decode cc (pc + 9) = .ok (.aload_n 1, 1)) (d10 : decode cc (pc + 10) = .ok (.aastore, 1))
    (kk : ∀ (ad' : Nat → Nat → Nat) (H1 : Heap) (locs1 : List Loc), oa_lk ad ad' b0 → oa_H D ca ad' (oa_mF M i2.toNatClampNeg i1.toNatClampNeg) H1 → va_S (fun q => b0 ≤ q) s.heap H1 locs1 → W p l e R s m args below meth c H1 locs1 cells slots Q (F0 m (pc + 11) ls rest)) : W p l e R s m args below meth c H locs cells slots Q (F0 m pc ls (.ref (ad 5 i2.toNatClampNeg) :: .int i1 :: .ref (ad 4 0) :: rest)) := by
  subst e2
  refine oa_two hexec hb hts hown hE hw hH hS 4 5 3 5 13 3 0 rfl (by decide) (by decide) (by decide) (by decide) (oa_lt h2) h1 (oa_lt h1) h2 rfl (fun i => ⟨_, rfl⟩) rfl rfl hlA hlC rfl rfl rfl hl0 hl1 d0 d1 d2 d5 d6 d9 d10 (fun H1 locs1 hA oq hS1 => ?_)
  exact kk _ H1 locs1 ⟨hw.mv (oa_gF_lt (oa_lt h2) (oa_lt h1)) oa_gF_inj, rfl, rfl, rfl⟩ (hH.swF hw (oa_lt h2) (oa_lt h1) hA oq) hS1
theorem oa_twoL (hexec : p.tables.exec = Jvm.exec) (hb : c.code = cc) (hts : ∀ w ∈ oa_T, w.before args s = true) (hown : s.vm.findClass RX4 = some m.cls) (hE : oa_E D ca b0 s) (hw : oa_W ad b0) (hH : oa_H D ca ad M H) (hS : va_S (fun q => b0 ≤ q) s.heap H locs) {i1 i2 : Int32} {ia ic : Nat} (h1 : vp_in i1 21) (h2 : vp_in i2 21) (e2 : M 0 0 6 = i2)
    (hlA : (Cond.fieldLink RX4 ia (TX4 4).1 (TX4 4).2.1 (TX4 4).2.2.1).before args s = true) (hlC : (Cond.fieldLink RX4 ic (TX4 6).1 (TX4 6).2.1 (TX4 6).2.2.1).before args s = true)
    (hl0 : ls[0]? = some (.val (.ref (ad 0 0)))) (hl1 : ls[1]? = some (.val (.ref (ad 9 i1.toNatClampNeg))))
    (d0 : decode cc pc = .ok (.aastore, 1)) (d1 : decode cc (pc + 1) = .ok (.aload_n 0, 1)) (d2 : decode cc (pc + 2) = .ok (.getfield ia, 3)) (d5 : decode cc (pc + 5) = .ok (.aload_n 0, 1)) (d6 : decode cc (pc + 6) = .ok (.getfield ic, 3)) (d9 : decode cc (pc + 9) = .ok (.aload_n 1, 1)) (d10 : decode cc (pc + 10) = .ok (.aastore, 1))
    (kk : ∀ (ad' : Nat → Nat → Nat) (H1 : Heap) (locs1 : List Loc), oa_lk ad ad' b0 → oa_H D ca ad' (oa_mL M i2.toNatClampNeg i1.toNatClampNeg) H1 → va_S (fun q => b0 ≤ q) s.heap H1 locs1 → W p l e R s m args below meth c H1 locs1 cells slots Q (F0 m (pc + 11) ls rest)) : W p l e R s m args below meth c H locs cells slots Q (F0 m pc ls (.ref (ad 9 i2.toNatClampNeg) :: .int i1 :: .ref (ad 8 0) :: rest)) := by
  subst e2
  refine oa_two hexec hb hts hown hE hw hH hS 8 9 4 6 21 4 1 rfl (by decide) (by decide) (by decide) (by decide) (oa_lt h2) h1 (oa_lt h1) h2 rfl (fun i => ⟨_, rfl⟩) rfl rfl hlA hlC rfl rfl rfl hl0 hl1 d0 d1 d2 d5 d6 d9 d10 (fun H1 locs1 hA oq hS1 => ?_)
  exact kk _ H1 locs1 ⟨hw.mv (oa_gL_lt (oa_lt h2) (oa_lt h1)) oa_gL_inj, rfl, rfl, rfl⟩ (hH.swL hw (oa_lt h2) (oa_lt h1) hA oq) hS1
theorem oa_rexj {r r' : Int32} {o : Nat × Int32 × oa_M} {ty : FieldType} (hexec : p.tables.exec = Jvm.exec) (hb : c.code = cc) (hr : meth.sig.returnType = some ty) (hlocks : meth.locks = false) (hn : narrow ty (.int r) = .int r') (ho : o = (0, r', M)) (hS : va_S (fun q => b0 ≤ q) s.heap H locs) (hH : oa_Hx D ca ad b0 M H) (hdg : decode cc pc = .ok (.ireturn, 1)) :
    W p l e R s m args below meth c H locs cells slots (MQ below (va_Qi (fun (x : Int32) (u : oa_M) => o.1 = 0 ∧ x = o.2.1 ∧ u = o.2.2) (fun u t => oa_Hx D ca ad b0 u t.heap) (fun q => b0 ≤ q)) args s cells slots (fun q => b0 ≤ q)) (F0 m pc ls [.int r]) := by
  subst ho
  exact oa_zret hexec hb hr hlocks hn (fun t ht _ => ⟨⟨r', M, rfl, ⟨rfl, rfl, rfl⟩, show oa_Hx D ca ad b0 _ t.heap by rw [ht]; exact hH⟩, hS.F ht⟩) hS.2.2 hdg
theorem oa_retj {r r' : Int32} {M' : oa_M} {ty : FieldType} (hexec : p.tables.exec = Jvm.exec) (hb : c.code = cc) (hr : meth.sig.returnType = some ty) (hlocks : meth.locks = false) (hn : narrow ty (.int r) = .int r') (hS : va_S (fun q => b0 ≤ q) s.heap H locs) (hH : oa_Hx D ca ad b0 M' H) (hdg : decode cc pc = .ok (.ireturn, 1)) :
    W p l e R s m args below meth c H locs cells slots (MQ below (va_Qi (fun (x : Int32) (u : oa_M) => x = r' ∧ u = M') (fun u t => oa_Hx D ca ad b0 u t.heap) (fun q => b0 ≤ q)) args s cells slots (fun q => b0 ≤ q)) (F0 m pc ls [.int r]) :=
  oa_zret hexec hb hr hlocks hn (fun t ht _ => ⟨⟨r', M', rfl, ⟨rfl, rfl⟩, show oa_Hx D ca ad b0 _ t.heap by rw [ht]; exact hH⟩, hS.F ht⟩) hS.2.2 hdg
theorem oa_thrj {own cls text X : String} {names : List String} {ik is ic mc ms : Nat} {Qc : Array Value → State → Outcome → State → Prop} {px : oa_M → Prop} (hw : oa_W ad b0) (hexec : p.tables.exec = Jvm.exec) (hb : c.code = cc) (hl : l.stackTraces = false)
    (hown : s.vm.findClass own = some m.cls) (hcls : Bundle.fit cls = true) (hnames : ∀ n ∈ names, Bundle.fit n = true) (hk : (Cond.classLink own ik cls).before args s = true) (hini : (Cond.initialized cls).before args s = true) (hstr : ∃ sa, vk_R own is text sa s) (hat : ∀ w ∈ vx_atS own ic cls names, w.before args s = true)
    (hgood : ∀ w ∈ Cond.classLink own ik cls :: Cond.initialized cls :: vx_atS own ic cls names, vx_ot w = true) (hE : oa_E D ca b0 s) (hS : va_S (fun q => b0 ≤ q) s.heap H locs) (hH : oa_H D ca ad M H) (hsize : ls.size = c.maxLocals)
    (d0 : decode cc pc = .ok (.new ik, 3)) (d3 : decode cc (pc + 3) = .ok (.dup, 1)) (d4 : decode cc (pc + 4) = .ok (.ldc is, 2)) (d6 : decode cc (pc + 6) = .ok (.invokespecial ic, 3)) (d9 : decode cc (pc + 9) = .ok (.athrow, 1))
    (hnt : ∀ x ∈ c.exceptionTable.toList, False) (hRframes : names.length + 3 < R.frames) (hRlocals : (rest.map fun v => v.category).sum + (13 * (names.length + 1) + 43) ≤ R.locals) (hRcells : cells + 1 ≤ R.cells) (hRslots : slots + 6 ≤ R.slots) (hlocks : meth.locks = false) (hpx : px M) (hX : cls = X) (hc : cells + 1 ≤ mc) (hs : slots + 6 ≤ ms) :
    W p l e R s m args below meth c H locs cells slots (vx_MQ below Qc (vx_X px (fun E u t => E = X ∧ oa_Hx D ca ad b0 u t.heap) (fun q => b0 ≤ q)) args s mc ms (fun q => b0 ≤ q)) (F0 m pc ls rest) := by
  obtain ⟨sa, hsa⟩ := hstr
  exact vx_throwS hexec hb hl hown hcls hnames hk hini hsa hat hgood hE.2.2.1 hE.2.2.2.1 hS hsize d0 d3 d4 d6 d9 (fun x hx => (hnt x hx).elim) hRframes hRlocals hRcells hRslots hlocks
    (fun t _ hz hq => ⟨M, hpx, ⟨hX, oa_Hx.of hw (hH.kept hq)⟩, Nat.le_trans hS.1 hz, fun q h1 h2 => (hq q (Nat.lt_of_lt_of_le h1 hS.1)).trans (hS.2.1 q h1 h2)⟩) hS.2.2 hc hs
end OAV

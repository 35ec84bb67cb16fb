/-! write -/
theorem os_sz_of {v : Int32} (h1 : -1000000 < v.toInt) (h2 : v.toInt < 1000000) : ∃ N, os_sz v N := by
  refine ⟨v.toInt.natAbs, by omega, ?_⟩
  by_cases h0 : 0 ≤ v
  · refine Or.inl ⟨h0, Int32.toInt_inj.mp ?_⟩
    rw [Int32.le_iff_toInt_le, show (0 : Int32).toInt = 0 from rfl] at h0
    rw [on_toInt (by omega)]
    omega
  · refine Or.inr ⟨h0, Int32.toInt_inj.mp ?_⟩
    rw [Int32.le_iff_toInt_le, show (0 : Int32).toInt = 0 from rfl] at h0
    rw [Int32.toInt_neg, on_toInt (by omega), Int.bmod_eq_of_le (by omega) (by omega)]
    omega
theorem os_num_b2 {kd cn fl : Nat} (hc : cn ≤ 16) (hf : fl < 2 ^ cn) : -65536 ≤ (os_num kd cn fl).toInt ∧ (os_num kd cn fl).toInt ≤ 65535 := by
  have hp : 2 ^ cn ≤ 2 ^ 16 := Nat.pow_le_pow_right (by decide) hc
  unfold os_num
  split
  · rw [Int32.toInt_sub, on_toInt (by omega), on_toInt (by omega)]
    generalize 2 ^ cn = p at hf hp ⊢
    rw [Int.bmod_eq_of_le (by omega) (by omega)]
    omega
  · rw [on_toInt (by omega)]
    omega
theorem os_v_sz {kd cn fl sc b : Nat} {fo : Int32} (hc : cn ≤ 16) (hf : fl < 2 ^ cn) (hs : sc ≤ 8) (h1 : -100 ≤ fo.toInt) (h2 : fo.toInt ≤ 100) (hb : b ≤ 100) : ∃ N, os_sz (os_v kd cn fl (nI sc) fo (nI b)) N := by
  obtain ⟨n1, n2⟩ := os_num_b2 (kd := kd) hc hf
  generalize hn : os_num kd cn fl = num at n1 n2
  have e1 : (num * nI sc).toInt = num.toInt * sc := by
    rw [Int32.toInt_mul, on_toInt (by omega)]
    refine Int.bmod_eq_of_le ?_ ?_
    · have : -65536 * 8 ≤ num.toInt * (sc : Int) := by
        rcases Int.le_total 0 num.toInt with q | q
        · have := Int.mul_nonneg q (show (0 : Int) ≤ sc by omega); omega
        · have h3 : num.toInt * (8 : Int) ≤ num.toInt * (sc : Int) := Int.mul_le_mul_of_nonpos_left q (by omega)
          omega
      omega
    · have : num.toInt * (sc : Int) ≤ 65535 * 8 := by
        rcases Int.le_total 0 num.toInt with q | q
        · have h3 : num.toInt * (sc : Int) ≤ num.toInt * (8 : Int) := Int.mul_le_mul_of_nonneg_left (by omega) q
          omega
        · have := Int.mul_nonpos_of_nonpos_of_nonneg q (show (0 : Int) ≤ sc by omega); omega
      omega
  have e2 : -65536 * 8 ≤ num.toInt * (sc : Int) ∧ num.toInt * (sc : Int) ≤ 65535 * 8 := by
    rcases Int.le_total 0 num.toInt with q | q
    · have h3 : num.toInt * (sc : Int) ≤ num.toInt * (8 : Int) := Int.mul_le_mul_of_nonneg_left (by omega) q
      have := Int.mul_nonneg q (show (0 : Int) ≤ sc by omega)
      omega
    · have h3 : num.toInt * (8 : Int) ≤ num.toInt * (sc : Int) := Int.mul_le_mul_of_nonpos_left q (by omega)
      have := Int.mul_nonpos_of_nonpos_of_nonneg q (show (0 : Int) ≤ sc by omega)
      omega
  rw [← e1] at e2
  unfold os_v
  rw [hn]
  generalize num * nI sc = p at e2
  refine os_sz_of ?_ ?_
  all_goals
    split
    · rw [Int32.toInt_add, Int32.toInt_add, on_toInt (by omega), Int.bmod_eq_of_le (n := fo.toInt + b) (by omega) (by omega), Int.bmod_eq_of_le (by omega) (by omega)]
      omega
    · rw [Int32.toInt_add, Int.bmod_eq_of_le (by omega) (by omega)]
      omega
def os_ops (vs : Nat → Int32) (Ns : Nat → Nat) : Nat → Nat → List Nat
  | 0, _ => []
  | r + 1, o => (if o = 0 then 32 else 44) :: (os_nt (vs o) (Ns o) ++ os_ops vs Ns r (o + 1))
theorem os_ops_len (vs : Nat → Int32) (Ns : Nat → Nat) : ∀ r o, (os_ops vs Ns r o).length ≤ 8 * r
  | 0, _ => by simp [os_ops]
  | r + 1, o => by
    have := os_ops_len vs Ns r (o + 1)
    have := os_nt_len (vs o) (Ns o)
    simp [os_ops]
    omega
theorem os_cwl {Mb : oa_M} {a i oc : Nat} {vs : Nat → Int32} {Ns : Nat → Nat} (hoc : oc ≤ 3) (h5 : Mb 5 i 5 = nI oc) (hv : ∀ o, o < oc → ∀ M, os_kc Mb M → ∀ n, 30 < n → FX4_operandAt n (nI a) i (nI o) M = some (vs o, M)) (hs : ∀ o, o < oc → os_sz (vs o) (Ns o)) :
    ∀ (r o n : Nat) (M : oa_M) (T : List Nat), o + r = oc → T.length + 8 * r ≤ 36 → r + 32 < n → os_kc Mb M → os_ct M T → ∃ M', BX4_writeInstruction_13 n (nI a) i (nI o) M = some M' ∧ os_ct M' (T ++ os_ops vs Ns r o) ∧ os_kc Mb M' := by
  intro r
  induction r with
  | zero =>
    intro o n M T ho hl hn hk hT
    obtain ⟨n', rfl⟩ : ∃ n', n = n' + 1 := ⟨n - 1, by omega⟩
    refine ⟨M, ?_, by simpa [os_ops] using hT, hk⟩
    rw [BX4_writeInstruction_13, hk 5 i 5 (by omega), h5, if_pos (nI_le (by omega) (by omega))]
  | succ r ih =>
    intro o n M T ho hl hn hk hT
    obtain ⟨n', rfl⟩ : ∃ n', n = n' + 1 := ⟨n - 1, by omega⟩
    have hoo : o < oc := by omega
    obtain ⟨M1, a1, a2, a3⟩ := os_cadd hT (by omega) (c := if o = 0 then 32 else 44) (by split <;> decide)
    have hnl := os_nt_len (vs o) (Ns o)
    obtain ⟨M2, b1, b2, b3⟩ := os_caddNumber (hs o hoo) a2 (by simp; omega) (n := n') (by omega)
    obtain ⟨M3, c1, c2, c3⟩ := ih (o + 1) n' M2 _ (by omega) (by simp; omega) (by omega) ((hk.tr a3).tr b3) b2
    refine ⟨M3, ?_, by simpa [os_ops] using c2, c3⟩
    rw [BX4_writeInstruction_13, hk 5 i 5 (by omega), h5, if_neg (nI_ge hoo (by omega))]
    unfold BX4_writeInstruction_36
    by_cases hz : o = 0
    · rw [if_pos (by rw [hz]; rfl)]
      rw [if_pos hz] at a1
      rw [show FX3_add n' 1 (32 : Int32) M = some (1, M1) from a1 n', ob_d, hv o hoo M1 (hk.tr a3) n' (by omega), ob_d, b1, ob_v, nI_1]
      exact c1
    · rw [if_neg (fun q => hz ((os_nIz (by omega)).mp q))]
      rw [if_neg hz] at a1
      rw [show FX3_add n' 1 (44 : Int32) M = some (1, M1) from a1 n', ob_d, hv o hoo M1 (hk.tr a3) n' (by omega), ob_d, b1, ob_v, nI_1]
      exact c1
theorem os_mwl {Mb : oa_M} {a i oc : Nat} {vs : Nat → Int32} {Ns : Nat → Nat} (hi : i < 12) (hoc : oc ≤ 3) (h5 : Mb 28 0 i = nI oc) (hv : ∀ o, o < oc → ∀ M, os_km Mb M → ∀ n, 30 < n → FX5_valueOf n (nI i) (nI a) (nI o) M = some (vs o, M)) (hs : ∀ o, o < oc → os_sz (vs o) (Ns o)) :
    ∀ (r o n : Nat) (M : oa_M) (T : List Nat), o + r = oc → T.length + 8 * r ≤ 36 → r + 32 < n → os_km Mb M → os_mo M T → ∃ M', BX5_write_56 n (nI a) (nI i) (nI o) M = some (nI (T ++ os_ops vs Ns r o).length, M') ∧ os_mo M' (T ++ os_ops vs Ns r o) ∧ os_km Mb M' := by
  intro r
  induction r with
  | zero =>
    intro o n M T ho hl hn hk hT
    obtain ⟨n', rfl⟩ : ∃ n', n = n' + 1 := ⟨n - 1, by omega⟩
    refine ⟨M, ?_, by simpa [os_ops] using hT, hk⟩
    rw [BX5_write_56, if_pos (on_in hi (by decide)), nI_clamp (by omega), hk 28 0 i (by omega), h5, if_pos (nI_le (by omega) (by omega)), hT.2.1]
    simp [os_ops]
  | succ r ih =>
    intro o n M T ho hl hn hk hT
    obtain ⟨n', rfl⟩ : ∃ n', n = n' + 1 := ⟨n - 1, by omega⟩
    have hoo : o < oc := by omega
    obtain ⟨M1, a1, a2, a3⟩ := os_madd hT (by omega) (c := if o = 0 then 32 else 44) (by split <;> decide)
    have hnl := os_nt_len (vs o) (Ns o)
    obtain ⟨M2, b1, b2, b3⟩ := os_maddNumber (hs o hoo) a2 (by simp; omega) (n := n') (by omega)
    obtain ⟨M3, c1, c2, c3⟩ := ih (o + 1) n' M2 _ (by omega) (by simp; omega) (by omega) ((hk.tr a3).tr b3) b2
    have el : (T ++ [if o = 0 then 32 else 44] ++ os_nt (vs o) (Ns o)) ++ os_ops vs Ns r (o + 1) = T ++ os_ops vs Ns (r + 1) o := by simp [os_ops]
    rw [el] at c1 c2
    refine ⟨M3, ?_, c2, c3⟩
    rw [BX5_write_56, if_pos (on_in hi (by decide)), nI_clamp (by omega), hk 28 0 i (by omega), h5, if_neg (nI_ge hoo (by omega))]
    unfold BX5_write_78
    by_cases hz : o = 0
    · rw [if_pos (by rw [hz]; rfl)]
      rw [if_pos hz] at a1
      rw [show FX5_add n' (32 : Int32) M = some M1 from a1 n', ob_v, hv o hoo M1 (hk.tr a3) n' (by omega), ob_d, b1, ob_v, nI_1]
      exact c1
    · rw [if_neg (fun q => hz ((os_nIz (by omega)).mp q))]
      rw [if_neg hz] at a1
      rw [show FX5_add n' (44 : Int32) M = some M1 from a1 n', ob_v, hv o hoo M1 (hk.tr a3) n' (by omega), ob_d, b1, ob_v, nI_1]
      exact c1
/-- behind both writers -/
theorem os_wI {M MC M2 : oa_M} {T : List Nat} {v : Int32} (hI : os_I M) (hc : os_kc M MC) (ht : os_ct MC T) (hm : os_km (oa_up (oa_up MC 50 0 0 v) 20 0 30 0) M2) (ho : os_mo M2 T) : os_I M2 := by
  obtain ⟨len, c, size, mem, nf, nl, hT, hO, hM, hC, hF, hL⟩ := hI
  have e : ∀ k i f, ¬ (k = 49 ∨ (k = 20 ∧ f = 28)) → ¬ (k = 50) → ¬ (k = 20 ∧ f = 30) → M2 k i f = MC k i f := fun k i f h1 h2 h3 => by rw [hm k i f h1, os_up (by omega), os_up (by omega)]
  have g : ∀ k i f, ¬ (k = 49 ∨ (k = 20 ∧ f = 28)) → ¬ (k = 50) → ¬ (k = 20 ∧ f = 30) → ¬ ((k = 1 ∨ k = 2) ∧ i = 1) → M2 k i f = M k i f := fun k i f h1 h2 h3 h4 => by rw [e k i f h1 h2 h3, hc k i f h4]
  refine ⟨len, c, T.length, mem, nf, nl, hT.co ?_ ?_ ?_ (fun j => ?_) (fun j => ?_), ⟨ht.1, ?_, ho.2.1, fun j hj => ?_⟩, hM.co (fun j => ?_) (fun j => ?_), hC.co (fun f => ?_) (fun f hf => ?_), hF.co (fun k i f hk => ?_), hL.co (fun k i f hk => ?_) (fun i f hf => ?_)⟩
  all_goals try exact g _ _ _ (by omega) (by omega) (by omega) (by omega)
  · rw [e _ _ _ (by omega) (by omega) (by omega)]; exact ht.2.1
  · have hj2 : T[j]? = some T[j] := List.getElem?_eq_getElem hj
    refine ⟨T[j], (ht.2.2 j _ hj2).2, ?_, (ho.2.2 j _ hj2).1⟩
    rw [e _ _ _ (by omega) (by omega) (by omega)]
    exact (ht.2.2 j _ hj2).1
theorem os_S8 : oa_S8 os_I := by
  intro x M hI
  obtain ⟨len, c, size, mem, nf, nl, hT, hO, hM, hC, hF, hL⟩ := id hI
  rcases os_ready hC with ⟨r1, r2⟩ | ⟨r1, r2⟩
  · refine ⟨0, 0, 1, M, 0, oa_up M 20 0 30 1, ?_, ?_, rfl, fun h => absurd h (by decide), hI.up (by unfold os_free; omega) _⟩
    · unfold FL_write FX4_write FX4_requireReady
      rw [if_pos r1]
      rfl
    · unfold FX5_write FX5_wrongAddress BX5_wrongAddress_26
      rw [if_pos r2]
      rfl
  · rcases os_addr x with ⟨a, ha, rfl⟩ | h
    · obtain ⟨bt, sg, L, oc, hp⟩ := hF.pick
      have d1 := os_cbest hM hC hp ha (n := 100) (by decide)
      obtain ⟨M0, hM0⟩ : ∃ M0 : oa_M, M0 = oa_up (oa_up M 1 1 1 0) 1 1 2 0 := ⟨_, rfl⟩
      have z1 : os_kc M M0 := fun k i f hn => by rw [hM0, os_up (by omega), os_up (by omega)]
      have z2 : os_ct M0 [] := ⟨by simp, by rw [hM0, os_up (by decide), os_up1]; rfl, fun j c h => by simp at h⟩
      have ecl : FX4_write 100 (nI a) M = (if os_bi (os_best mem bt sg nf a) = (-1 : Int32) then (oa_bd (FX3_add 100 1 (63 : Int32) M0) (fun r26 M27 => (BX4_write_51 100 (nI a) (os_bi (os_best mem bt sg nf a)) M27))) else (if oa_in (os_bi (os_best mem bt sg nf a)) 13 = true then (oa_bv (FX4_writeInstruction 100 (nI a) (os_bi (os_best mem bt sg nf a)).toNatClampNeg M0) (fun M24 => (BX4_write_51 100 (nI a) (os_bi (os_best mem bt sg nf a)) M24))) else none)) := by
        unfold FX4_write FX4_requireReady
        rw [if_neg r1, ob_x0, os_ra 100 ha, ob_x0, d1, ob_d]
        unfold FX3_clear
        rw [ob_v, hM0]
      have emo : ∀ (M1 : oa_M), (∀ k i f, k ≠ 50 → ¬ ((k = 1 ∨ k = 2) ∧ i = 1) → M1 k i f = M k i f) → FX5_write 100 (nI a) M1 = (if 0 ≤ os_bi (os_best mem bt sg nf a) then (if oa_in (os_bi (os_best mem bt sg nf a)) 12 = true then (oa_bv (FX5_addName 100 ((oa_up (oa_up M1 20 0 30 0) 20 0 28 0) 25 0 (os_bi (os_best mem bt sg nf a)).toNatClampNeg) (oa_up (oa_up M1 20 0 30 0) 20 0 28 0)) (fun M11 => (BX5_write_56 100 (nI a) (os_bi (os_best mem bt sg nf a)) (0 : Int32) M11))) else none) else (oa_bv (FX5_add 100 (63 : Int32) (oa_up (oa_up M1 20 0 30 0) 20 0 28 0)) (fun M14 => (some ((M14 20 0 28), M14))))) := fun M1 k1 => by
        have q1 : os_Mem (oa_up (oa_up M1 20 0 30 0) 20 0 28 0) mem := hM.co (fun j => by rw [os_up (by omega), os_up (by omega), k1 _ _ _ (by omega) (by omega)]) (fun j => by rw [os_up (by omega), os_up (by omega), k1 _ _ _ (by omega) (by omega)])
        have q2 : os_Cn (oa_up (oa_up M1 20 0 30 0) 20 0 28 0) nf nl := hC.co (fun f => by rw [os_up (by omega), os_up (by omega), k1 _ _ _ (by omega) (by omega)]) (fun f hf => by rw [os_up (by omega), os_up (by omega), k1 _ _ _ (by omega) (by omega)])
        have q3 : ∀ i, i < nf → os_F (oa_up (oa_up M1 20 0 30 0) 20 0 28 0) i (bt i) (sg i) (L i) (oc i) := fun i hi => (hp i hi).off (fun k i f hk => by rw [os_up (by omega), os_up (by omega), k1 _ _ _ (by omega) (by omega)])
        unfold FX5_write FX5_wrongAddress BX5_wrongAddress_26
        rw [k1 20 0 13 (by decide) (by decide), if_neg r2, os_out63 100 ha, ob_d, if_pos rfl, ob_d, if_pos rfl, os_mbest q1 q2 q3 ha (by decide), ob_d]
      have start : ∀ (M1 : oa_M), os_mo (oa_up (oa_up M1 20 0 30 0) 20 0 28 0) [] ∧ os_km (oa_up M1 20 0 30 0) (oa_up (oa_up M1 20 0 30 0) 20 0 28 0) := fun M1 => ⟨⟨by simp, by rw [os_up1]; rfl, fun j c h => by simp at h⟩, fun k i f hn => os_up (by omega)⟩
      have fin : ∀ (MC M2 : oa_M) (T : List Nat), os_kc M MC → os_ct MC T → FX4_write 100 (nI a) M = some (0, nI T.length, MC) → FX5_write 100 (nI a) (oa_up MC 50 0 0 (nI T.length)) = some (nI T.length, M2) → os_km (oa_up (oa_up MC 50 0 0 (nI T.length)) 20 0 30 0) M2 → os_mo M2 T → ∃ (n n' : Nat) (k : Int32) (M1 : oa_M) (b : Int32) (M2 : oa_M), FL_write n (nI a) M = some (k, M1) ∧ FX5_write n' (nI a) M1 = some (b, M2) ∧ M2 20 0 30 = k ∧ (k = 0 → M2 50 0 0 = b) ∧ os_I M2 := fun MC M2 T c1 c2 c3 c4 c5 c6 =>
        ⟨100, 100, 0, _, _, M2, by unfold FL_write; rw [c3]; rfl, c4, by rw [c5 20 0 30 (by omega), os_up1], fun _ => by rw [c5 50 0 0 (by omega), os_up (by omega), os_up1], os_wI hI c1 c2 c5 c6⟩
      cases hbe : os_best mem bt sg nf a with
      | none =>
        rw [hbe] at ecl emo
        obtain ⟨MC, a1, a2, a3⟩ := os_cadd z2 (by simp) (c := 63) (by decide)
        obtain ⟨s1, s2⟩ := start (oa_up MC 50 0 0 (nI 1))
        obtain ⟨M2, b1, b2, b3⟩ := os_madd s1 (by simp) (c := 63) (by decide)
        refine fin MC M2 [63] (z1.tr a3) a2 ?_ ?_ (s2.tr b3) b2
        · rw [ecl, if_pos (show os_bi none = (-1 : Int32) from rfl), show FX3_add 100 1 (63 : Int32) M0 = some (1, MC) from a1 100, ob_d]
          unfold BX4_write_51
          rw [a2.2.1]
          rfl
        · rw [emo _ (fun k i f h1 h2 => by rw [os_up (by omega)]; exact (z1.tr a3) k i f h2), if_neg (show ¬ 0 ≤ os_bi none from by decide)]
          rw [show FX5_add 100 (63 : Int32) (oa_up (oa_up (oa_up MC 50 0 0 (nI [63].length)) 20 0 30 0) 20 0 28 0) = some M2 from b1 100, ob_v, b2.2.1]
          rfl
      | some b =>
        rw [hbe] at ecl emo
        obtain ⟨hb1, hb2⟩ := os_best_lt hbe
        have hFb := hp b hb1
        have hc1 := hC.1
        obtain ⟨a1, a2, a3, a4, a5, a6, a7, a8, a9, a10, a11⟩ := id hFb
        have n1 : ¬ os_bi (some b) = (-1 : Int32) := on_ltm1 (by omega)
        have n2 : 0 ≤ os_bi (some b) := nI_pos' (by omega)
        have n3 : oa_in (os_bi (some b)) 13 = true := on_in (by omega) (by decide)
        have n4 : oa_in (os_bi (some b)) 12 = true := on_in (by omega) (by decide)
        have n5 : (os_bi (some b)).toNatClampNeg = b := nI_clamp (by omega)
        have hv : ∀ o, o < oc b → ∃ (v : Int32) (N : Nat), os_sz v N ∧ (∀ MX, os_kc M MX → ∀ n, 30 < n → FX4_operandAt n (nI a) b (nI o) MX = some (v, MX)) ∧ ∀ MX, (∀ k i f, k = 5 ∨ k = 7 ∨ (25 ≤ k ∧ k ≤ 32) ∨ k = 36 ∨ k = 3 → MX k i f = M k i f) → ∀ n, 30 < n → FX5_valueOf n (nI b) (nI a) (nI o) MX = some (v, MX) := fun o ho => by
          obtain ⟨kd, sc, fo, p1, p2, p3, p4, p5, p6⟩ := (hF.1 b hb1).2 o (by omega)
          obtain ⟨N, hN⟩ := os_v_sz (kd := kd) (cn := os_cnt (os_po (bt b) (sg b) o) 24) (fl := os_fld (os_po (bt b) (sg b) o) (os_wb mem a) 24) (sc := sc) (b := a + bt b) (fo := M 32 0 (3 * b + o)) (a11 o ho).2 (os_fld_lt _ _ _) p2.2 (by rw [p6.2]; exact p3.1) (by rw [p6.2]; exact p3.2) (by omega)
          refine ⟨_, N, hN, fun MX hx n hn => ?_, fun MX hx n hn => ?_⟩
          · have := os_coperandAt (M := MX) (hM.co (fun j => hx _ _ _ (by omega)) (fun j => hx _ _ _ (by omega))) (hFb.off (fun k i f hk => hx _ _ _ (by omega))) ho ha (kd := kd) (by rw [hx _ _ _ (by omega)]; exact p4.1) p1 hn
            rw [hx 7 _ 3 (by omega), hx 7 _ 4 (by omega), p5.1, p6.1] at this
            exact this
          · have := os_mvalue (M := MX) (hM.co (fun j => hx _ _ _ (by omega)) (fun j => hx _ _ _ (by omega))) (hFb.off (fun k i f hk => hx _ _ _ (by omega))) (by omega) ho hb2 (kd := kd) (by rw [hx _ _ _ (by omega)]; exact p4.2) p1 (n := n) (by omega)
            rw [hx 31 _ _ (by omega), hx 32 _ _ (by omega), p5.2] at this
            exact this
        obtain ⟨vs, hvs⟩ : ∃ vs : Nat → Int32, ∀ o, (ho : o < oc b) → vs o = (hv o ho).choose := ⟨fun o => if ho : o < oc b then (hv o ho).choose else 0, fun o ho => by simp [ho]⟩
        obtain ⟨Ns, hNs⟩ : ∃ Ns : Nat → Nat, ∀ o, (ho : o < oc b) → Ns o = (hv o ho).choose_spec.choose := ⟨fun o => if ho : o < oc b then (hv o ho).choose_spec.choose else 0, fun o ho => by simp [ho]⟩
        have w1 : ∀ o, o < oc b → os_sz (vs o) (Ns o) := fun o ho => by rw [hvs o ho, hNs o ho]; exact (hv o ho).choose_spec.choose_spec.1
        have w2 : ∀ o, o < oc b → ∀ MX, os_kc M MX → ∀ n, 30 < n → FX4_operandAt n (nI a) b (nI o) MX = some (vs o, MX) := fun o ho => by rw [hvs o ho]; exact (hv o ho).choose_spec.choose_spec.2.1
        have w3 : ∀ o, o < oc b → ∀ MX, (∀ k i f, k = 5 ∨ k = 7 ∨ (25 ≤ k ∧ k ≤ 32) ∨ k = 36 ∨ k = 3 → MX k i f = M k i f) → ∀ n, 30 < n → FX5_valueOf n (nI b) (nI a) (nI o) MX = some (vs o, MX) := fun o ho => by rw [hvs o ho]; exact (hv o ho).choose_spec.choose_spec.2.2
        have hLl : ((L b).map (fun w => 96 + w)).length ≤ 4 := by rw [List.length_map]; exact a3.1.1
        obtain ⟨MN, f1, f2, f3⟩ := os_caddName a3.1 z2 (by simp) (n := 100) (by decide)
        obtain ⟨MC, g1, g2, g3⟩ := os_cwl (Mb := M) a4 a9.1 w2 w1 (oc b) 0 100 MN _ (by omega) (by simp at hLl ⊢; omega) (by omega) (z1.tr f3) f2
        generalize hTT : [] ++ (L b).map (fun w => 96 + w) ++ os_ops vs Ns (oc b) 0 = T at g2
        obtain ⟨s1, s2⟩ := start (oa_up MC 50 0 0 (nI T.length))
        have k1 : ∀ k i f, k ≠ 50 → ¬ ((k = 1 ∨ k = 2) ∧ i = 1) → (oa_up MC 50 0 0 (nI T.length)) k i f = M k i f := fun k i f h1 h2 => by rw [os_up (by omega)]; exact g3 k i f h2
        obtain ⟨MN2, j1, j2, j3⟩ := os_maddName a3.1 s1 (by simp) (n := 100) (by decide)
        obtain ⟨M2, l1, l2, l3⟩ := os_mwl (Mb := oa_up (oa_up MC 50 0 0 (nI T.length)) 20 0 30 0) (a := a) (i := b) (by omega) a4 (by rw [os_up (by omega), k1 _ _ _ (by omega) (by omega)]; exact a9.2) (fun o ho MX hx n hn => w3 o ho MX (fun k i f hk => by rw [hx k i f (by omega), os_up (by omega)]; exact k1 _ _ _ (by omega) (by omega)) n hn) w1 (oc b) 0 100 MN2 _ (by omega) (by simp at hLl ⊢; omega) (by omega) (s2.tr j3) j2
        rw [hTT] at l1 l2
        refine fin MC M2 T g3 g2 ?_ ?_ l3 l2
        · rw [ecl, if_neg n1, if_pos n3, n5]
          unfold FX4_writeInstruction
          rw [hM0, os_up (by omega), os_up (by omega), a5.1, ← hM0, f1, ob_v, show BX4_writeInstruction_13 100 (nI a) b 0 MN = some MC from g1, ob_v]
          unfold BX4_write_51
          rw [g2.2.1]
        · rw [emo _ k1, if_pos n2, if_pos n4, n5, os_up (by omega), os_up (by omega), k1 _ _ _ (by omega) (by omega), a5.2, j1, ob_v]
          exact l1
    · refine ⟨0, 0, 2, M, 0, oa_up M 20 0 30 2, ?_, ?_, rfl, fun h => absurd h (by decide), hI.up (by unfold os_free; omega) _⟩
      · unfold FL_write FX4_write FX4_requireReady
        rw [if_neg r1, ob_x0, os_ran 0 h]
        rfl
      · unfold FX5_write FX5_wrongAddress BX5_wrongAddress_26
        rw [if_neg r2, os_out63n 0 h]
        rfl

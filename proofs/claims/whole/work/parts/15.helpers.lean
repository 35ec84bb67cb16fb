theorem tw_257 : (Cond.classLink RL 13 "java/lang/IllegalArgumentException") ∈ oa_T := oa_mem (i := 257) (by decide +kernel) (by decide +kernel)
theorem tw_258 : (Cond.classLink RL 15 "java/lang/IllegalStateException") ∈ oa_T := oa_mem (i := 258) (by decide +kernel) (by decide +kernel)
theorem tw_259 : (Cond.methodLink RL 7 yX4_form) ∈ oa_T := oa_mem (i := 259) (by decide +kernel) (by decide +kernel)
theorem tw_260 : (Cond.instanceMethod yX4_form) ∈ oa_T := oa_mem (i := 260) (by decide +kernel) (by decide +kernel)
theorem tw_261 : (Cond.selects RX4 yX4_form yX4_form) ∈ oa_T := oa_mem (i := 261) (by decide +kernel) (by decide +kernel)
theorem tw_262 : (Cond.code yX4_form cX4_form 3 (some .int)) ∈ oa_T := oa_mem (i := 262) (by decide +kernel) (by decide +kernel)
theorem tw_398 : (Cond.methodLink RL 17 yX4_operand) ∈ oa_T := oa_mem (i := 398) (by decide +kernel) (by decide +kernel)
theorem tw_399 : (Cond.instanceMethod yX4_operand) ∈ oa_T := oa_mem (i := 399) (by decide +kernel) (by decide +kernel)
theorem tw_400 : (Cond.selects RX4 yX4_operand yX4_operand) ∈ oa_T := oa_mem (i := 400) (by decide +kernel) (by decide +kernel)
theorem tw_401 : (Cond.code yX4_operand cX4_operand 7 (some .int)) ∈ oa_T := oa_mem (i := 401) (by decide +kernel) (by decide +kernel)
theorem tw_410 : (Cond.classLink RL 25 "java/lang/IndexOutOfBoundsException") ∈ oa_T := oa_mem (i := 410) (by decide +kernel) (by decide +kernel)
theorem tw_411 : (Cond.methodLink RL 21 yX4_poke) ∈ oa_T := oa_mem (i := 411) (by decide +kernel) (by decide +kernel)
theorem tw_412 : (Cond.instanceMethod yX4_poke) ∈ oa_T := oa_mem (i := 412) (by decide +kernel) (by decide +kernel)
theorem tw_413 : (Cond.selects RX4 yX4_poke yX4_poke) ∈ oa_T := oa_mem (i := 413) (by decide +kernel) (by decide +kernel)
theorem tw_414 : (Cond.code yX4_poke cX4_poke 4 (some .int)) ∈ oa_T := oa_mem (i := 414) (by decide +kernel) (by decide +kernel)
theorem tw_438 : (Cond.methodLink RL 27 yX4_peek) ∈ oa_T := oa_mem (i := 438) (by decide +kernel) (by decide +kernel)
theorem tw_439 : (Cond.instanceMethod yX4_peek) ∈ oa_T := oa_mem (i := 439) (by decide +kernel) (by decide +kernel)
theorem tw_440 : (Cond.selects RX4 yX4_peek yX4_peek) ∈ oa_T := oa_mem (i := 440) (by decide +kernel) (by decide +kernel)
theorem tw_441 : (Cond.code yX4_peek cX4_peek 2 (some .int)) ∈ oa_T := oa_mem (i := 441) (by decide +kernel) (by decide +kernel)
theorem tw_445 : (Cond.methodLink RL 31 yX4_decode) ∈ oa_T := oa_mem (i := 445) (by decide +kernel) (by decide +kernel)
theorem tw_446 : (Cond.instanceMethod yX4_decode) ∈ oa_T := oa_mem (i := 446) (by decide +kernel) (by decide +kernel)
theorem tw_447 : (Cond.selects RX4 yX4_decode yX4_decode) ∈ oa_T := oa_mem (i := 447) (by decide +kernel) (by decide +kernel)
theorem tw_448 : (Cond.code yX4_decode cX4_decode 2 (some .int)) ∈ oa_T := oa_mem (i := 448) (by decide +kernel) (by decide +kernel)
theorem tw_467 : (Cond.methodLink RL 34 yX4_value) ∈ oa_T := oa_mem (i := 467) (by decide +kernel) (by decide +kernel)
theorem tw_468 : (Cond.instanceMethod yX4_value) ∈ oa_T := oa_mem (i := 468) (by decide +kernel) (by decide +kernel)
theorem tw_469 : (Cond.selects RX4 yX4_value yX4_value) ∈ oa_T := oa_mem (i := 469) (by decide +kernel) (by decide +kernel)
theorem tw_470 : (Cond.code yX4_value cX4_value 4 (some .int)) ∈ oa_T := oa_mem (i := 470) (by decide +kernel) (by decide +kernel)
theorem tw_495 : (Cond.methodLink RL 37 yX4_write) ∈ oa_T := oa_mem (i := 495) (by decide +kernel) (by decide +kernel)
theorem tw_496 : (Cond.instanceMethod yX4_write) ∈ oa_T := oa_mem (i := 496) (by decide +kernel) (by decide +kernel)
theorem tw_497 : (Cond.selects RX4 yX4_write yX4_write) ∈ oa_T := oa_mem (i := 497) (by decide +kernel) (by decide +kernel)
theorem tw_498 : (Cond.code yX4_write cX4_write 3 (some .int)) ∈ oa_T := oa_mem (i := 498) (by decide +kernel) (by decide +kernel)
theorem tw_516 : (Cond.methodLink RL 40 yX4_line) ∈ oa_T := oa_mem (i := 516) (by decide +kernel) (by decide +kernel)
theorem tw_517 : (Cond.instanceMethod yX4_line) ∈ oa_T := oa_mem (i := 517) (by decide +kernel) (by decide +kernel)
theorem tw_518 : (Cond.selects RX4 yX4_line yX4_line) ∈ oa_T := oa_mem (i := 518) (by decide +kernel) (by decide +kernel)
theorem tw_519 : (Cond.code yX4_line cX4_line 3 (some .int)) ∈ oa_T := oa_mem (i := 519) (by decide +kernel) (by decide +kernel)
theorem tw_546 : (Cond.classLink RL 46 "java/util/NoSuchElementException") ∈ oa_T := oa_mem (i := 546) (by decide +kernel) (by decide +kernel)
theorem tw_547 : (Cond.methodLink RL 43 yX4_assemble) ∈ oa_T := oa_mem (i := 547) (by decide +kernel) (by decide +kernel)
theorem tw_548 : (Cond.instanceMethod yX4_assemble) ∈ oa_T := oa_mem (i := 548) (by decide +kernel) (by decide +kernel)
theorem tw_549 : (Cond.selects RX4 yX4_assemble yX4_assemble) ∈ oa_T := oa_mem (i := 549) (by decide +kernel) (by decide +kernel)
theorem tw_550 : (Cond.code yX4_assemble cX4_assemble 5 (some .int)) ∈ oa_T := oa_mem (i := 550) (by decide +kernel) (by decide +kernel)
def FL_form (n : Nat)  (M : oa_M) : Option (Int32 × oa_M) := oa_hl (FX4_form n  M) (fun cd => if cd = 1 then some 1 else if cd = 2 then some 2 else none)
set_option maxHeartbeats 4000000 in
set_option maxRecDepth 100000 in
theorem cL_form_ok (l : Launch) (hl0 : l.stackTraces = false) (D : va_G) (ca : Nat → ClassId) (ad : Nat → Nat → Nat) (b0 : Nat) (hw : oa_W ad b0) (n : Nat)  (M : oa_M) (r : Int32) (M' : oa_M) (hf : FL_form n  M = some (r, M')) : Met l yL_form (oa_wH yL_form cL_form 3 (some .int) [(0, 8, 11, 13), (0, 8, 14, 15)]) ({ frames := 7, cells := 1, slots := 6, locals := 110 } : Room) (va_Pc [.ref (ad 0 0), .ref (ad 50 0)] (oa_P D ca ad b0 M)) (va_Qi (fun (r' : Int32) (u : oa_M) => r' = r ∧ u = M') (fun u t => oa_Hx D ca ad b0 u t.heap) (fun q => b0 ≤ q)) 1 (6 * 1) (fun q => b0 ≤ q) := by
  refine oa_ofH (cc := cL_form) (maxL := 3) (ret := some .int) (hh := [(0, 8, 11, 13), (0, 8, 14, 15)]) (ws' := []) (by decide) (Nat.le_of_ble_eq_true rfl) ?_
  intro p e s m below meth c hx hb hml hr hlocks hown hts htab hP ls hl
  obtain ⟨hH, hE⟩ := hP
  have hS : va_S (fun q => b0 ≤ q) s.heap s.heap [] := va_S.rf
  have hl : lv_has ls 3 [(0, .ref (ad 0 0)), (1, .ref (ad 50 0))] := hl
  obtain ⟨q, hq, hz, hnz⟩ := oa_hlE hf
  refine lv_aload_n hx hb dL_form_0 rfl (lv_at hl 1 rfl) ?_
  refine lv_iconst (v := (0 : Int32)) hx hb dL_form_1 (by decide) ?_
  refine lv_aload_n hx hb dL_form_2 rfl (lv_at hl 0 rfl) ?_
  refine vx_calli (vx_runV (As := []) (rest := [.int 0, .ref (ad 50 0)]) ⟨hx, hb, hml, hown, hts⟩ (cX4_form_ok l hl0 D ca ad b0 hw n  M q hq) (cwV 0 hts (oa_gV tw_259 tw_260 tw_261 tw_44 tw_262) rfl rfl rfl (by decide +kernel) ⟨Nat.le_of_ble_eq_true rfl, Nat.le_of_ble_eq_true rfl⟩) ⟨oa_blind D ca ad b0 M _, oa_recv (k := 0) (ci := 4) hE hH (by decide) rfl rfl, fun U hU hW => ⟨rfl, by rw [hU]; exact hH, hE.call hS hU hW⟩⟩ rfl rfl hl.1 rfl (lv_room (Nat.le_of_ble_eq_true rfl)) dL_form_3 ⟨by decide, by decide⟩) hS (fun q _ h => h) (fun q h => h) (fun q _ h => h) ?_ ?_
  · intro E ce q9 u t H1 locs1 ht hvm hpx hB hz1 hk1 hS1 hce hcv hcl
    obtain ⟨hcd, rfl⟩ := hpx
    obtain ⟨hEx, hH1⟩ := hB
    rw [ht] at hH1
    obtain ⟨r9, hr9, ho⟩ := hnz hcd
    cases ho
    by_cases h0 : q.1 = 1
    · rw [h0] at hEx
      rw [if_pos h0] at hr9
      cases hr9
      subst hEx
      refine oa_catch (own := RL) (name := "java/lang/IllegalArgumentException") hown [] ⟨0, 8, 11, 13⟩ [⟨0, 8, 14, 15⟩] htab (fun z hz => by cases hz) (by decide) (by decide) (hts _ tw_257) (va_Nw.use rfl (hE.2.2.2.2.2.2.1 "java/lang/IllegalArgumentException" (by decide))) hce hcv hcl ?_
      refine lv_astore_n (lv' := [(2, .ref q9), (0, .ref (ad 0 0)), (1, .ref (ad 50 0))]) hx hb dL_form_11 rfl hl (by decide) rfl (fun ls hl => ?_)
      refine lv_iconst (v := (1 : Int32)) hx hb dL_form_12 (by decide) ?_
      exact oa_retj hx hb hr hlocks rfl hS1 hH1 dL_form_13
    rw [if_neg h0] at hr9
    by_cases h1 : q.1 = 2
    · rw [h1] at hEx
      rw [if_pos h1] at hr9
      cases hr9
      subst hEx
      refine oa_catch (own := RL) (name := "java/lang/IllegalStateException") hown [⟨0, 8, 11, 13⟩] ⟨0, 8, 14, 15⟩ [] htab (fun z hz => by
        simp only [List.mem_cons, List.not_mem_nil, or_false] at hz
        rcases hz with rfl
        · exact ⟨by decide, by decide, "java/lang/IllegalArgumentException", hts _ tw_257, hE.2.2.2.2.2.2.2 ("java/lang/IllegalStateException", "java/lang/IllegalArgumentException") (by decide)⟩) (by decide) (by decide) (hts _ tw_258) (va_Nw.use rfl (hE.2.2.2.2.2.2.1 "java/lang/IllegalStateException" (by decide))) hce hcv hcl ?_
      refine lv_astore_n (lv' := [(2, .ref q9), (0, .ref (ad 0 0)), (1, .ref (ad 50 0))]) hx hb dL_form_14 rfl hl (by decide) rfl (fun ls hl => ?_)
      refine lv_iconst (v := (2 : Int32)) hx hb dL_form_15 (by decide) ?_
      exact oa_retj hx hb hr hlocks rfl hS1 hH1 dL_form_16
    rw [if_neg h1] at hr9
    cases hr9
  · intro r9 u t H1 locs1 ht hvm hw1 hB hz1 hk1 hS1
    obtain ⟨h0, rfl, rfl⟩ := hw1
    have hB : oa_Hx D ca ad b0 q.2.2 t.heap := hB
    rw [ht] at hB
    obtain ⟨ad1, hk9, hB⟩ := hB
    cases hz h0
    refine lv_i2l (v := q.2.1.toInt64) hx hb dL_form_6 rfl ?_
    refine oa_lstj hx hb hE hk9.1 hB hS1 hk9.2.2.2 dL_form_7 (fun H locs hH hS => ?_)
    refine lv_goto (tgt := 17) hx hb dL_form_8 (by decide) ?_
    refine lv_iconst (v := (0 : Int32)) hx hb dL_form_17 (by decide) ?_
    exact oa_retj hx hb hr hlocks rfl hS ⟨ad1, hk9, hH⟩ dL_form_18
def FL_operand (n : Nat) (x1 : Int32) (x2 : Int32) (x3 : Int32) (x4 : Int32) (x5 : Int32) (M : oa_M) : Option (Int32 × oa_M) := oa_hl (FX4_operand n x1 x2 x3 x4 x5 M) (fun cd => if cd = 1 then some 1 else none)
set_option maxHeartbeats 4000000 in
set_option maxRecDepth 100000 in
theorem cL_operand_ok (l : Launch) (hl0 : l.stackTraces = false) (D : va_G) (ca : Nat → ClassId) (ad : Nat → Nat → Nat) (b0 : Nat) (hw : oa_W ad b0) (n : Nat) (x1 : Int32) (x2 : Int32) (x3 : Int32) (x4 : Int32) (x5 : Int32) (M : oa_M) (r : Int32) (M' : oa_M) (hf : FL_operand n x1 x2 x3 x4 x5 M = some (r, M')) : Met l yL_operand (oa_wH yL_operand cL_operand 8 (some .int) [(0, 16, 19, 13)]) ({ frames := 7, cells := 1, slots := 6, locals := 109 } : Room) (va_Pc [.ref (ad 0 0), .int x1, .int x2, .int x3, .int x4, .int x5, .ref (ad 50 0)] (oa_P D ca ad b0 M)) (va_Qi (fun (r' : Int32) (u : oa_M) => r' = r ∧ u = M') (fun u t => oa_H D ca ad u t.heap) (fun q => b0 ≤ q)) 1 (6 * 1) (fun q => b0 ≤ q) := by
  refine oa_ofH (cc := cL_operand) (maxL := 8) (ret := some .int) (hh := [(0, 16, 19, 13)]) (ws' := []) (by decide) (Nat.le_of_ble_eq_true rfl) ?_
  intro p e s m below meth c hx hb hml hr hlocks hown hts htab hP ls hl
  obtain ⟨hH, hE⟩ := hP
  have hS : va_S (fun q => b0 ≤ q) s.heap s.heap [] := va_S.rf
  have hl : lv_has ls 8 [(0, .ref (ad 0 0)), (1, .int x1), (2, .int x2), (3, .int x3), (4, .int x4), (5, .int x5), (6, .ref (ad 50 0))] := hl
  obtain ⟨q, hq, hz, hnz⟩ := oa_hlE hf
  refine lv_aload hx hb dL_operand_0 (lv_at hl 6 rfl) ?_
  refine lv_iconst (v := (0 : Int32)) hx hb dL_operand_2 (by decide) ?_
  refine lv_aload_n hx hb dL_operand_3 rfl (lv_at hl 0 rfl) ?_
  refine lv_iload_n hx hb dL_operand_4 rfl (lv_at hl 1 rfl) ?_
  refine lv_iload_n hx hb dL_operand_5 rfl (lv_at hl 2 rfl) ?_
  refine lv_iload_n hx hb dL_operand_6 rfl (lv_at hl 3 rfl) ?_
  refine lv_iload hx hb dL_operand_7 (lv_at hl 4 rfl) ?_
  refine lv_iload hx hb dL_operand_9 (lv_at hl 5 rfl) ?_
  refine vx_calli (vx_runV (As := [.int x1, .int x2, .int x3, .int x4, .int x5]) (rest := [.int 0, .ref (ad 50 0)]) ⟨hx, hb, hml, hown, hts⟩ (cX4_operand_ok l hl0 D ca ad b0 hw n x1 x2 x3 x4 x5 M q hq) (cwV 5 hts (oa_gV tw_398 tw_399 tw_400 tw_44 tw_401) rfl rfl rfl (by decide +kernel) ⟨Nat.le_of_ble_eq_true rfl, Nat.le_of_ble_eq_true rfl⟩) ⟨oa_blind D ca ad b0 M _, oa_recv (k := 0) (ci := 4) hE hH (by decide) rfl rfl, fun U hU hW => ⟨rfl, by rw [hU]; exact hH, hE.call hS hU hW⟩⟩ rfl rfl hl.1 rfl (lv_room (Nat.le_of_ble_eq_true rfl)) dL_operand_11 ⟨by decide, by decide⟩) hS (fun q _ h => h) (fun q h => h) (fun q _ h => h) ?_ ?_
  · intro E ce q9 u t H1 locs1 ht hvm hpx hB hz1 hk1 hS1 hce hcv hcl
    obtain ⟨hcd, rfl⟩ := hpx
    obtain ⟨hEx, hH1⟩ := hB
    rw [ht] at hH1
    obtain ⟨r9, hr9, ho⟩ := hnz hcd
    cases ho
    by_cases h0 : q.1 = 1
    · rw [h0] at hEx
      rw [if_pos h0] at hr9
      cases hr9
      subst hEx
      refine oa_catch (own := RL) (name := "java/lang/IllegalArgumentException") hown [] ⟨0, 16, 19, 13⟩ [] htab (fun z hz => by cases hz) (by decide) (by decide) (hts _ tw_257) (va_Nw.use rfl (hE.2.2.2.2.2.2.1 "java/lang/IllegalArgumentException" (by decide))) hce hcv hcl ?_
      refine lv_astore (lv' := [(7, .ref q9), (0, .ref (ad 0 0)), (1, .int x1), (2, .int x2), (3, .int x3), (4, .int x4), (5, .int x5), (6, .ref (ad 50 0))]) hx hb dL_operand_19 hl (by decide) rfl (fun ls hl => ?_)
      refine lv_iconst (v := (1 : Int32)) hx hb dL_operand_21 (by decide) ?_
      exact oa_reti hx hb hr hlocks rfl hS1 hH1 dL_operand_22
    rw [if_neg h0] at hr9
    cases hr9
  · intro r9 u t H1 locs1 ht hvm hw1 hB hz1 hk1 hS1
    obtain ⟨h0, rfl, rfl⟩ := hw1
    have hB : oa_H D ca ad q.2.2 t.heap := hB
    rw [ht] at hB
    cases hz h0
    refine lv_i2l (v := q.2.1.toInt64) hx hb dL_operand_14 rfl ?_
    refine oa_lst hx hb hE hw hB hS1 dL_operand_15 (fun H locs hH hS => ?_)
    refine lv_goto (tgt := 23) hx hb dL_operand_16 (by decide) ?_
    refine lv_iconst (v := (0 : Int32)) hx hb dL_operand_23 (by decide) ?_
    exact oa_reti hx hb hr hlocks rfl hS hH dL_operand_24
def FL_poke (n : Nat) (x1 : Int32) (x2 : Int32) (M : oa_M) : Option (Int32 × oa_M) := oa_hl (FX4_poke n x1 x2 M) (fun cd => if cd = 3 then some 1 else none)
set_option maxHeartbeats 4000000 in
set_option maxRecDepth 100000 in
theorem cL_poke_ok (l : Launch) (hl0 : l.stackTraces = false) (D : va_G) (ca : Nat → ClassId) (ad : Nat → Nat → Nat) (b0 : Nat) (hw : oa_W ad b0) (n : Nat) (x1 : Int32) (x2 : Int32) (M : oa_M) (r : Int32) (M' : oa_M) (hf : FL_poke n x1 x2 M = some (r, M')) : Met l yL_poke (oa_wH yL_poke cL_poke 5 (some .int) [(0, 10, 13, 25)]) ({ frames := 8, cells := 1, slots := 6, locals := 127 } : Room) (va_Pc [.ref (ad 0 0), .int x1, .int x2, .ref (ad 50 0)] (oa_P D ca ad b0 M)) (va_Qi (fun (r' : Int32) (u : oa_M) => r' = r ∧ u = M') (fun u t => oa_H D ca ad u t.heap) (fun q => b0 ≤ q)) 1 (6 * 1) (fun q => b0 ≤ q) := by
  refine oa_ofH (cc := cL_poke) (maxL := 5) (ret := some .int) (hh := [(0, 10, 13, 25)]) (ws' := []) (by decide) (Nat.le_of_ble_eq_true rfl) ?_
  intro p e s m below meth c hx hb hml hr hlocks hown hts htab hP ls hl
  obtain ⟨hH, hE⟩ := hP
  have hS : va_S (fun q => b0 ≤ q) s.heap s.heap [] := va_S.rf
  have hl : lv_has ls 5 [(0, .ref (ad 0 0)), (1, .int x1), (2, .int x2), (3, .ref (ad 50 0))] := hl
  obtain ⟨q, hq, hz, hnz⟩ := oa_hlE hf
  refine lv_aload_n hx hb dL_poke_0 rfl (lv_at hl 3 rfl) ?_
  refine lv_iconst (v := (0 : Int32)) hx hb dL_poke_1 (by decide) ?_
  refine lv_aload_n hx hb dL_poke_2 rfl (lv_at hl 0 rfl) ?_
  refine lv_iload_n hx hb dL_poke_3 rfl (lv_at hl 1 rfl) ?_
  refine lv_iload_n hx hb dL_poke_4 rfl (lv_at hl 2 rfl) ?_
  refine vx_calli (vx_runV (As := [.int x1, .int x2]) (rest := [.int 0, .ref (ad 50 0)]) ⟨hx, hb, hml, hown, hts⟩ (cX4_poke_ok l hl0 D ca ad b0 hw n x1 x2 M q hq) (cwV 2 hts (oa_gV tw_411 tw_412 tw_413 tw_44 tw_414) rfl rfl rfl (by decide +kernel) ⟨Nat.le_of_ble_eq_true rfl, Nat.le_of_ble_eq_true rfl⟩) ⟨oa_blind D ca ad b0 M _, oa_recv (k := 0) (ci := 4) hE hH (by decide) rfl rfl, fun U hU hW => ⟨rfl, by rw [hU]; exact hH, hE.call hS hU hW⟩⟩ rfl rfl hl.1 rfl (lv_room (Nat.le_of_ble_eq_true rfl)) dL_poke_5 ⟨by decide, by decide⟩) hS (fun q _ h => h) (fun q h => h) (fun q _ h => h) ?_ ?_
  · intro E ce q9 u t H1 locs1 ht hvm hpx hB hz1 hk1 hS1 hce hcv hcl
    obtain ⟨hcd, rfl⟩ := hpx
    obtain ⟨hEx, hH1⟩ := hB
    rw [ht] at hH1
    obtain ⟨r9, hr9, ho⟩ := hnz hcd
    cases ho
    by_cases h0 : q.1 = 3
    · rw [h0] at hEx
      rw [if_pos h0] at hr9
      cases hr9
      subst hEx
      refine oa_catch (own := RL) (name := "java/lang/IndexOutOfBoundsException") hown [] ⟨0, 10, 13, 25⟩ [] htab (fun z hz => by cases hz) (by decide) (by decide) (hts _ tw_410) (va_Nw.use rfl (hE.2.2.2.2.2.2.1 "java/lang/IndexOutOfBoundsException" (by decide))) hce hcv hcl ?_
      refine lv_astore (lv' := [(4, .ref q9), (0, .ref (ad 0 0)), (1, .int x1), (2, .int x2), (3, .ref (ad 50 0))]) hx hb dL_poke_13 hl (by decide) rfl (fun ls hl => ?_)
      refine lv_iconst (v := (1 : Int32)) hx hb dL_poke_15 (by decide) ?_
      exact oa_reti hx hb hr hlocks rfl hS1 hH1 dL_poke_16
    rw [if_neg h0] at hr9
    cases hr9
  · intro r9 u t H1 locs1 ht hvm hw1 hB hz1 hk1 hS1
    obtain ⟨h0, rfl, rfl⟩ := hw1
    have hB : oa_H D ca ad q.2.2 t.heap := hB
    rw [ht] at hB
    cases hz h0
    refine lv_i2l (v := q.2.1.toInt64) hx hb dL_poke_8 rfl ?_
    refine oa_lst hx hb hE hw hB hS1 dL_poke_9 (fun H locs hH hS => ?_)
    refine lv_goto (tgt := 17) hx hb dL_poke_10 (by decide) ?_
    refine lv_iconst (v := (0 : Int32)) hx hb dL_poke_17 (by decide) ?_
    exact oa_reti hx hb hr hlocks rfl hS hH dL_poke_18
def FL_peek (n : Nat) (x1 : Int32) (M : oa_M) : Option (Int32 × oa_M) := oa_hl (FX4_peek n x1 M) (fun cd => if cd = 3 then some 1 else none)
set_option maxHeartbeats 4000000 in
set_option maxRecDepth 100000 in
theorem cL_peek_ok (l : Launch) (hl0 : l.stackTraces = false) (D : va_G) (ca : Nat → ClassId) (ad : Nat → Nat → Nat) (b0 : Nat) (hw : oa_W ad b0) (n : Nat) (x1 : Int32) (M : oa_M) (r : Int32) (M' : oa_M) (hf : FL_peek n x1 M = some (r, M')) : Met l yL_peek (oa_wH yL_peek cL_peek 4 (some .int) [(0, 9, 12, 25)]) ({ frames := 8, cells := 1, slots := 6, locals := 125 } : Room) (va_Pc [.ref (ad 0 0), .int x1, .ref (ad 50 0)] (oa_P D ca ad b0 M)) (va_Qi (fun (r' : Int32) (u : oa_M) => r' = r ∧ u = M') (fun u t => oa_H D ca ad u t.heap) (fun q => b0 ≤ q)) 1 (6 * 1) (fun q => b0 ≤ q) := by
  refine oa_ofH (cc := cL_peek) (maxL := 4) (ret := some .int) (hh := [(0, 9, 12, 25)]) (ws' := []) (by decide) (Nat.le_of_ble_eq_true rfl) ?_
  intro p e s m below meth c hx hb hml hr hlocks hown hts htab hP ls hl
  obtain ⟨hH, hE⟩ := hP
  have hS : va_S (fun q => b0 ≤ q) s.heap s.heap [] := va_S.rf
  have hl : lv_has ls 4 [(0, .ref (ad 0 0)), (1, .int x1), (2, .ref (ad 50 0))] := hl
  obtain ⟨q, hq, hz, hnz⟩ := oa_hlE hf
  refine lv_aload_n hx hb dL_peek_0 rfl (lv_at hl 2 rfl) ?_
  refine lv_iconst (v := (0 : Int32)) hx hb dL_peek_1 (by decide) ?_
  refine lv_aload_n hx hb dL_peek_2 rfl (lv_at hl 0 rfl) ?_
  refine lv_iload_n hx hb dL_peek_3 rfl (lv_at hl 1 rfl) ?_
  refine vx_calli (vx_runV (As := [.int x1]) (rest := [.int 0, .ref (ad 50 0)]) ⟨hx, hb, hml, hown, hts⟩ (cX4_peek_ok l hl0 D ca ad b0 hw n x1 M q hq) (cwV 1 hts (oa_gV tw_438 tw_439 tw_440 tw_44 tw_441) rfl rfl rfl (by decide +kernel) ⟨Nat.le_of_ble_eq_true rfl, Nat.le_of_ble_eq_true rfl⟩) ⟨oa_blind D ca ad b0 M _, oa_recv (k := 0) (ci := 4) hE hH (by decide) rfl rfl, fun U hU hW => ⟨rfl, by rw [hU]; exact hH, hE.call hS hU hW⟩⟩ rfl rfl hl.1 rfl (lv_room (Nat.le_of_ble_eq_true rfl)) dL_peek_4 ⟨by decide, by decide⟩) hS (fun q _ h => h) (fun q h => h) (fun q _ h => h) ?_ ?_
  · intro E ce q9 u t H1 locs1 ht hvm hpx hB hz1 hk1 hS1 hce hcv hcl
    obtain ⟨hcd, rfl⟩ := hpx
    obtain ⟨hEx, hH1⟩ := hB
    rw [ht] at hH1
    obtain ⟨r9, hr9, ho⟩ := hnz hcd
    cases ho
    by_cases h0 : q.1 = 3
    · rw [h0] at hEx
      rw [if_pos h0] at hr9
      cases hr9
      subst hEx
      refine oa_catch (own := RL) (name := "java/lang/IndexOutOfBoundsException") hown [] ⟨0, 9, 12, 25⟩ [] htab (fun z hz => by cases hz) (by decide) (by decide) (hts _ tw_410) (va_Nw.use rfl (hE.2.2.2.2.2.2.1 "java/lang/IndexOutOfBoundsException" (by decide))) hce hcv hcl ?_
      refine lv_astore_n (lv' := [(3, .ref q9), (0, .ref (ad 0 0)), (1, .int x1), (2, .ref (ad 50 0))]) hx hb dL_peek_12 rfl hl (by decide) rfl (fun ls hl => ?_)
      refine lv_iconst (v := (1 : Int32)) hx hb dL_peek_13 (by decide) ?_
      exact oa_reti hx hb hr hlocks rfl hS1 hH1 dL_peek_14
    rw [if_neg h0] at hr9
    cases hr9
  · intro r9 u t H1 locs1 ht hvm hw1 hB hz1 hk1 hS1
    obtain ⟨h0, rfl, rfl⟩ := hw1
    have hB : oa_H D ca ad q.2.2 t.heap := hB
    rw [ht] at hB
    cases hz h0
    refine lv_i2l (v := q.2.1.toInt64) hx hb dL_peek_7 rfl ?_
    refine oa_lst hx hb hE hw hB hS1 dL_peek_8 (fun H locs hH hS => ?_)
    refine lv_goto (tgt := 15) hx hb dL_peek_9 (by decide) ?_
    refine lv_iconst (v := (0 : Int32)) hx hb dL_peek_15 (by decide) ?_
    exact oa_reti hx hb hr hlocks rfl hS hH dL_peek_16
def FL_decode (n : Nat) (x1 : Int32) (M : oa_M) : Option (Int32 × oa_M) := oa_hl (FX4_decode n x1 M) (fun cd => if cd = 2 then some 1 else if cd = 3 then some 2 else none)
set_option maxHeartbeats 4000000 in
set_option maxRecDepth 100000 in
theorem cL_decode_ok (l : Launch) (hl0 : l.stackTraces = false) (D : va_G) (ca : Nat → ClassId) (ad : Nat → Nat → Nat) (b0 : Nat) (hw : oa_W ad b0) (n : Nat) (x1 : Int32) (M : oa_M) (r : Int32) (M' : oa_M) (hf : FL_decode n x1 M = some (r, M')) : Met l yL_decode (oa_wH yL_decode cL_decode 4 (some .int) [(0, 9, 12, 15), (0, 9, 15, 25)]) ({ frames := 8, cells := 2, slots := 12, locals := 125 } : Room) (va_Pc [.ref (ad 0 0), .int x1, .ref (ad 50 0)] (oa_P D ca ad b0 M)) (va_Qi (fun (r' : Int32) (u : oa_M) => r' = r ∧ u = M') (fun u t => oa_H D ca ad u t.heap) (fun q => b0 ≤ q)) 2 (6 * 2) (fun q => b0 ≤ q) := by
  refine oa_ofH (cc := cL_decode) (maxL := 4) (ret := some .int) (hh := [(0, 9, 12, 15), (0, 9, 15, 25)]) (ws' := []) (by decide) (Nat.le_of_ble_eq_true rfl) ?_
  intro p e s m below meth c hx hb hml hr hlocks hown hts htab hP ls hl
  obtain ⟨hH, hE⟩ := hP
  have hS : va_S (fun q => b0 ≤ q) s.heap s.heap [] := va_S.rf
  have hl : lv_has ls 4 [(0, .ref (ad 0 0)), (1, .int x1), (2, .ref (ad 50 0))] := hl
  obtain ⟨q, hq, hz, hnz⟩ := oa_hlE hf
  refine lv_aload_n hx hb dL_decode_0 rfl (lv_at hl 2 rfl) ?_
  refine lv_iconst (v := (0 : Int32)) hx hb dL_decode_1 (by decide) ?_
  refine lv_aload_n hx hb dL_decode_2 rfl (lv_at hl 0 rfl) ?_
  refine lv_iload_n hx hb dL_decode_3 rfl (lv_at hl 1 rfl) ?_
  refine vx_calli (vx_runV (As := [.int x1]) (rest := [.int 0, .ref (ad 50 0)]) ⟨hx, hb, hml, hown, hts⟩ (cX4_decode_ok l hl0 D ca ad b0 hw n x1 M q hq) (cwV 1 hts (oa_gV tw_445 tw_446 tw_447 tw_44 tw_448) rfl rfl rfl (by decide +kernel) ⟨Nat.le_of_ble_eq_true rfl, Nat.le_of_ble_eq_true rfl⟩) ⟨oa_blind D ca ad b0 M _, oa_recv (k := 0) (ci := 4) hE hH (by decide) rfl rfl, fun U hU hW => ⟨rfl, by rw [hU]; exact hH, hE.call hS hU hW⟩⟩ rfl rfl hl.1 rfl (lv_room (Nat.le_of_ble_eq_true rfl)) dL_decode_4 ⟨by decide, by decide⟩) hS (fun q _ h => h) (fun q h => h) (fun q _ h => h) ?_ ?_
  · intro E ce q9 u t H1 locs1 ht hvm hpx hB hz1 hk1 hS1 hce hcv hcl
    obtain ⟨hcd, rfl⟩ := hpx
    obtain ⟨hEx, hH1⟩ := hB
    rw [ht] at hH1
    obtain ⟨r9, hr9, ho⟩ := hnz hcd
    cases ho
    by_cases h0 : q.1 = 2
    · rw [h0] at hEx
      rw [if_pos h0] at hr9
      cases hr9
      subst hEx
      refine oa_catch (own := RL) (name := "java/lang/IllegalStateException") hown [] ⟨0, 9, 12, 15⟩ [⟨0, 9, 15, 25⟩] htab (fun z hz => by cases hz) (by decide) (by decide) (hts _ tw_258) (va_Nw.use rfl (hE.2.2.2.2.2.2.1 "java/lang/IllegalStateException" (by decide))) hce hcv hcl ?_
      refine lv_astore_n (lv' := [(3, .ref q9), (0, .ref (ad 0 0)), (1, .int x1), (2, .ref (ad 50 0))]) hx hb dL_decode_12 rfl hl (by decide) rfl (fun ls hl => ?_)
      refine lv_iconst (v := (1 : Int32)) hx hb dL_decode_13 (by decide) ?_
      exact oa_reti hx hb hr hlocks rfl hS1 hH1 dL_decode_14
    rw [if_neg h0] at hr9
    by_cases h1 : q.1 = 3
    · rw [h1] at hEx
      rw [if_pos h1] at hr9
      cases hr9
      subst hEx
      refine oa_catch (own := RL) (name := "java/lang/IndexOutOfBoundsException") hown [⟨0, 9, 12, 15⟩] ⟨0, 9, 15, 25⟩ [] htab (fun z hz => by
        simp only [List.mem_cons, List.not_mem_nil, or_false] at hz
        rcases hz with rfl
        · exact ⟨by decide, by decide, "java/lang/IllegalStateException", hts _ tw_258, hE.2.2.2.2.2.2.2 ("java/lang/IndexOutOfBoundsException", "java/lang/IllegalStateException") (by decide)⟩) (by decide) (by decide) (hts _ tw_410) (va_Nw.use rfl (hE.2.2.2.2.2.2.1 "java/lang/IndexOutOfBoundsException" (by decide))) hce hcv hcl ?_
      refine lv_astore_n (lv' := [(3, .ref q9), (0, .ref (ad 0 0)), (1, .int x1), (2, .ref (ad 50 0))]) hx hb dL_decode_15 rfl hl (by decide) rfl (fun ls hl => ?_)
      refine lv_iconst (v := (2 : Int32)) hx hb dL_decode_16 (by decide) ?_
      exact oa_reti hx hb hr hlocks rfl hS1 hH1 dL_decode_17
    rw [if_neg h1] at hr9
    cases hr9
  · intro r9 u t H1 locs1 ht hvm hw1 hB hz1 hk1 hS1
    obtain ⟨h0, rfl, rfl⟩ := hw1
    have hB : oa_H D ca ad q.2.2 t.heap := hB
    rw [ht] at hB
    cases hz h0
    refine lv_i2l (v := q.2.1.toInt64) hx hb dL_decode_7 rfl ?_
    refine oa_lst hx hb hE hw hB hS1 dL_decode_8 (fun H locs hH hS => ?_)
    refine lv_goto (tgt := 18) hx hb dL_decode_9 (by decide) ?_
    refine lv_iconst (v := (0 : Int32)) hx hb dL_decode_18 (by decide) ?_
    exact oa_reti hx hb hr hlocks rfl hS hH dL_decode_19
def FL_value (n : Nat) (x1 : Int32) (x2 : Int32) (M : oa_M) : Option (Int32 × oa_M) := oa_hl (FX4_value n x1 x2 M) (fun cd => if cd = 2 then some 1 else if cd = 3 then some 2 else none)
set_option maxHeartbeats 4000000 in
set_option maxRecDepth 100000 in
theorem cL_value_ok (l : Launch) (hl0 : l.stackTraces = false) (D : va_G) (ca : Nat → ClassId) (ad : Nat → Nat → Nat) (b0 : Nat) (hw : oa_W ad b0) (n : Nat) (x1 : Int32) (x2 : Int32) (M : oa_M) (r : Int32) (M' : oa_M) (hf : FL_value n x1 x2 M = some (r, M')) : Met l yL_value (oa_wH yL_value cL_value 5 (some .int) [(0, 10, 13, 15), (0, 10, 17, 25)]) ({ frames := 8, cells := 3, slots := 18, locals := 127 } : Room) (va_Pc [.ref (ad 0 0), .int x1, .int x2, .ref (ad 50 0)] (oa_P D ca ad b0 M)) (va_Qi (fun (r' : Int32) (u : oa_M) => r' = r ∧ u = M') (fun u t => oa_H D ca ad u t.heap) (fun q => b0 ≤ q)) 3 (6 * 3) (fun q => b0 ≤ q) := by
  refine oa_ofH (cc := cL_value) (maxL := 5) (ret := some .int) (hh := [(0, 10, 13, 15), (0, 10, 17, 25)]) (ws' := []) (by decide) (Nat.le_of_ble_eq_true rfl) ?_
  intro p e s m below meth c hx hb hml hr hlocks hown hts htab hP ls hl
  obtain ⟨hH, hE⟩ := hP
  have hS : va_S (fun q => b0 ≤ q) s.heap s.heap [] := va_S.rf
  have hl : lv_has ls 5 [(0, .ref (ad 0 0)), (1, .int x1), (2, .int x2), (3, .ref (ad 50 0))] := hl
  obtain ⟨q, hq, hz, hnz⟩ := oa_hlE hf
  refine lv_aload_n hx hb dL_value_0 rfl (lv_at hl 3 rfl) ?_
  refine lv_iconst (v := (0 : Int32)) hx hb dL_value_1 (by decide) ?_
  refine lv_aload_n hx hb dL_value_2 rfl (lv_at hl 0 rfl) ?_
  refine lv_iload_n hx hb dL_value_3 rfl (lv_at hl 1 rfl) ?_
  refine lv_iload_n hx hb dL_value_4 rfl (lv_at hl 2 rfl) ?_
  refine vx_calli (vx_runV (As := [.int x1, .int x2]) (rest := [.int 0, .ref (ad 50 0)]) ⟨hx, hb, hml, hown, hts⟩ (cX4_value_ok l hl0 D ca ad b0 hw n x1 x2 M q hq) (cwV 2 hts (oa_gV tw_467 tw_468 tw_469 tw_44 tw_470) rfl rfl rfl (by decide +kernel) ⟨Nat.le_of_ble_eq_true rfl, Nat.le_of_ble_eq_true rfl⟩) ⟨oa_blind D ca ad b0 M _, oa_recv (k := 0) (ci := 4) hE hH (by decide) rfl rfl, fun U hU hW => ⟨rfl, by rw [hU]; exact hH, hE.call hS hU hW⟩⟩ rfl rfl hl.1 rfl (lv_room (Nat.le_of_ble_eq_true rfl)) dL_value_5 ⟨by decide, by decide⟩) hS (fun q _ h => h) (fun q h => h) (fun q _ h => h) ?_ ?_
  · intro E ce q9 u t H1 locs1 ht hvm hpx hB hz1 hk1 hS1 hce hcv hcl
    obtain ⟨hcd, rfl⟩ := hpx
    obtain ⟨hEx, hH1⟩ := hB
    rw [ht] at hH1
    obtain ⟨r9, hr9, ho⟩ := hnz hcd
    cases ho
    by_cases h0 : q.1 = 2
    · rw [h0] at hEx
      rw [if_pos h0] at hr9
      cases hr9
      subst hEx
      refine oa_catch (own := RL) (name := "java/lang/IllegalStateException") hown [] ⟨0, 10, 13, 15⟩ [⟨0, 10, 17, 25⟩] htab (fun z hz => by cases hz) (by decide) (by decide) (hts _ tw_258) (va_Nw.use rfl (hE.2.2.2.2.2.2.1 "java/lang/IllegalStateException" (by decide))) hce hcv hcl ?_
      refine lv_astore (lv' := [(4, .ref q9), (0, .ref (ad 0 0)), (1, .int x1), (2, .int x2), (3, .ref (ad 50 0))]) hx hb dL_value_13 hl (by decide) rfl (fun ls hl => ?_)
      refine lv_iconst (v := (1 : Int32)) hx hb dL_value_15 (by decide) ?_
      exact oa_reti hx hb hr hlocks rfl hS1 hH1 dL_value_16
    rw [if_neg h0] at hr9
    by_cases h1 : q.1 = 3
    · rw [h1] at hEx
      rw [if_pos h1] at hr9
      cases hr9
      subst hEx
      refine oa_catch (own := RL) (name := "java/lang/IndexOutOfBoundsException") hown [⟨0, 10, 13, 15⟩] ⟨0, 10, 17, 25⟩ [] htab (fun z hz => by
        simp only [List.mem_cons, List.not_mem_nil, or_false] at hz
        rcases hz with rfl
        · exact ⟨by decide, by decide, "java/lang/IllegalStateException", hts _ tw_258, hE.2.2.2.2.2.2.2 ("java/lang/IndexOutOfBoundsException", "java/lang/IllegalStateException") (by decide)⟩) (by decide) (by decide) (hts _ tw_410) (va_Nw.use rfl (hE.2.2.2.2.2.2.1 "java/lang/IndexOutOfBoundsException" (by decide))) hce hcv hcl ?_
      refine lv_astore (lv' := [(4, .ref q9), (0, .ref (ad 0 0)), (1, .int x1), (2, .int x2), (3, .ref (ad 50 0))]) hx hb dL_value_17 hl (by decide) rfl (fun ls hl => ?_)
      refine lv_iconst (v := (2 : Int32)) hx hb dL_value_19 (by decide) ?_
      exact oa_reti hx hb hr hlocks rfl hS1 hH1 dL_value_20
    rw [if_neg h1] at hr9
    cases hr9
  · intro r9 u t H1 locs1 ht hvm hw1 hB hz1 hk1 hS1
    obtain ⟨h0, rfl, rfl⟩ := hw1
    have hB : oa_H D ca ad q.2.2 t.heap := hB
    rw [ht] at hB
    cases hz h0
    refine lv_i2l (v := q.2.1.toInt64) hx hb dL_value_8 rfl ?_
    refine oa_lst hx hb hE hw hB hS1 dL_value_9 (fun H locs hH hS => ?_)
    refine lv_goto (tgt := 21) hx hb dL_value_10 (by decide) ?_
    refine lv_iconst (v := (0 : Int32)) hx hb dL_value_21 (by decide) ?_
    exact oa_reti hx hb hr hlocks rfl hS hH dL_value_22
def FL_write (n : Nat) (x1 : Int32) (M : oa_M) : Option (Int32 × oa_M) := oa_hl (FX4_write n x1 M) (fun cd => if cd = 2 then some 1 else if cd = 3 then some 2 else none)
set_option maxHeartbeats 4000000 in
set_option maxRecDepth 100000 in
theorem cL_write_ok (l : Launch) (hl0 : l.stackTraces = false) (D : va_G) (ca : Nat → ClassId) (ad : Nat → Nat → Nat) (b0 : Nat) (hw : oa_W ad b0) (n : Nat) (x1 : Int32) (M : oa_M) (r : Int32) (M' : oa_M) (hf : FL_write n x1 M = some (r, M')) : Met l yL_write (oa_wH yL_write cL_write 4 (some .int) [(0, 9, 12, 15), (0, 9, 15, 25)]) ({ frames := 8, cells := 2, slots := 12, locals := 132 } : Room) (va_Pc [.ref (ad 0 0), .int x1, .ref (ad 50 0)] (oa_P D ca ad b0 M)) (va_Qi (fun (r' : Int32) (u : oa_M) => r' = r ∧ u = M') (fun u t => oa_H D ca ad u t.heap) (fun q => b0 ≤ q)) 2 (6 * 2) (fun q => b0 ≤ q) := by
  refine oa_ofH (cc := cL_write) (maxL := 4) (ret := some .int) (hh := [(0, 9, 12, 15), (0, 9, 15, 25)]) (ws' := []) (by decide) (Nat.le_of_ble_eq_true rfl) ?_
  intro p e s m below meth c hx hb hml hr hlocks hown hts htab hP ls hl
  obtain ⟨hH, hE⟩ := hP
  have hS : va_S (fun q => b0 ≤ q) s.heap s.heap [] := va_S.rf
  have hl : lv_has ls 4 [(0, .ref (ad 0 0)), (1, .int x1), (2, .ref (ad 50 0))] := hl
  obtain ⟨q, hq, hz, hnz⟩ := oa_hlE hf
  refine lv_aload_n hx hb dL_write_0 rfl (lv_at hl 2 rfl) ?_
  refine lv_iconst (v := (0 : Int32)) hx hb dL_write_1 (by decide) ?_
  refine lv_aload_n hx hb dL_write_2 rfl (lv_at hl 0 rfl) ?_
  refine lv_iload_n hx hb dL_write_3 rfl (lv_at hl 1 rfl) ?_
  refine vx_calli (vx_runV (As := [.int x1]) (rest := [.int 0, .ref (ad 50 0)]) ⟨hx, hb, hml, hown, hts⟩ (cX4_write_ok l hl0 D ca ad b0 hw n x1 M q hq) (cwV 1 hts (oa_gV tw_495 tw_496 tw_497 tw_44 tw_498) rfl rfl rfl (by decide +kernel) ⟨Nat.le_of_ble_eq_true rfl, Nat.le_of_ble_eq_true rfl⟩) ⟨oa_blind D ca ad b0 M _, oa_recv (k := 0) (ci := 4) hE hH (by decide) rfl rfl, fun U hU hW => ⟨rfl, by rw [hU]; exact hH, hE.call hS hU hW⟩⟩ rfl rfl hl.1 rfl (lv_room (Nat.le_of_ble_eq_true rfl)) dL_write_4 ⟨by decide, by decide⟩) hS (fun q _ h => h) (fun q h => h) (fun q _ h => h) ?_ ?_
  · intro E ce q9 u t H1 locs1 ht hvm hpx hB hz1 hk1 hS1 hce hcv hcl
    obtain ⟨hcd, rfl⟩ := hpx
    obtain ⟨hEx, hH1⟩ := hB
    rw [ht] at hH1
    obtain ⟨r9, hr9, ho⟩ := hnz hcd
    cases ho
    by_cases h0 : q.1 = 2
    · rw [h0] at hEx
      rw [if_pos h0] at hr9
      cases hr9
      subst hEx
      refine oa_catch (own := RL) (name := "java/lang/IllegalStateException") hown [] ⟨0, 9, 12, 15⟩ [⟨0, 9, 15, 25⟩] htab (fun z hz => by cases hz) (by decide) (by decide) (hts _ tw_258) (va_Nw.use rfl (hE.2.2.2.2.2.2.1 "java/lang/IllegalStateException" (by decide))) hce hcv hcl ?_
      refine lv_astore_n (lv' := [(3, .ref q9), (0, .ref (ad 0 0)), (1, .int x1), (2, .ref (ad 50 0))]) hx hb dL_write_12 rfl hl (by decide) rfl (fun ls hl => ?_)
      refine lv_iconst (v := (1 : Int32)) hx hb dL_write_13 (by decide) ?_
      exact oa_reti hx hb hr hlocks rfl hS1 hH1 dL_write_14
    rw [if_neg h0] at hr9
    by_cases h1 : q.1 = 3
    · rw [h1] at hEx
      rw [if_pos h1] at hr9
      cases hr9
      subst hEx
      refine oa_catch (own := RL) (name := "java/lang/IndexOutOfBoundsException") hown [⟨0, 9, 12, 15⟩] ⟨0, 9, 15, 25⟩ [] htab (fun z hz => by
        simp only [List.mem_cons, List.not_mem_nil, or_false] at hz
        rcases hz with rfl
        · exact ⟨by decide, by decide, "java/lang/IllegalStateException", hts _ tw_258, hE.2.2.2.2.2.2.2 ("java/lang/IndexOutOfBoundsException", "java/lang/IllegalStateException") (by decide)⟩) (by decide) (by decide) (hts _ tw_410) (va_Nw.use rfl (hE.2.2.2.2.2.2.1 "java/lang/IndexOutOfBoundsException" (by decide))) hce hcv hcl ?_
      refine lv_astore_n (lv' := [(3, .ref q9), (0, .ref (ad 0 0)), (1, .int x1), (2, .ref (ad 50 0))]) hx hb dL_write_15 rfl hl (by decide) rfl (fun ls hl => ?_)
      refine lv_iconst (v := (2 : Int32)) hx hb dL_write_16 (by decide) ?_
      exact oa_reti hx hb hr hlocks rfl hS1 hH1 dL_write_17
    rw [if_neg h1] at hr9
    cases hr9
  · intro r9 u t H1 locs1 ht hvm hw1 hB hz1 hk1 hS1
    obtain ⟨h0, rfl, rfl⟩ := hw1
    have hB : oa_H D ca ad q.2.2 t.heap := hB
    rw [ht] at hB
    cases hz h0
    refine lv_i2l (v := q.2.1.toInt64) hx hb dL_write_7 rfl ?_
    refine oa_lst hx hb hE hw hB hS1 dL_write_8 (fun H locs hH hS => ?_)
    refine lv_goto (tgt := 18) hx hb dL_write_9 (by decide) ?_
    refine lv_iconst (v := (0 : Int32)) hx hb dL_write_18 (by decide) ?_
    exact oa_reti hx hb hr hlocks rfl hS hH dL_write_19
def FL_line (n : Nat)  (M : oa_M) : Option (Int32 × oa_M) := oa_hl (FX4_line n  M) (fun cd => if cd = 1 then some 1 else if cd = 2 then some 2 else none)
set_option maxHeartbeats 4000000 in
set_option maxRecDepth 100000 in
theorem cL_line_ok (l : Launch) (hl0 : l.stackTraces = false) (D : va_G) (ca : Nat → ClassId) (ad : Nat → Nat → Nat) (b0 : Nat) (hw : oa_W ad b0) (n : Nat)  (M : oa_M) (r : Int32) (M' : oa_M) (hf : FL_line n  M = some (r, M')) : Met l yL_line (oa_wH yL_line cL_line 3 (some .int) [(0, 8, 11, 13), (0, 8, 14, 15)]) ({ frames := 7, cells := 1, slots := 6, locals := 131 } : Room) (va_Pc [.ref (ad 0 0), .ref (ad 50 0)] (oa_P D ca ad b0 M)) (va_Qi (fun (r' : Int32) (u : oa_M) => r' = r ∧ u = M') (fun u t => oa_Hx D ca ad b0 u t.heap) (fun q => b0 ≤ q)) 1 (6 * 1) (fun q => b0 ≤ q) := by
  refine oa_ofH (cc := cL_line) (maxL := 3) (ret := some .int) (hh := [(0, 8, 11, 13), (0, 8, 14, 15)]) (ws' := []) (by decide) (Nat.le_of_ble_eq_true rfl) ?_
  intro p e s m below meth c hx hb hml hr hlocks hown hts htab hP ls hl
  obtain ⟨hH, hE⟩ := hP
  have hS : va_S (fun q => b0 ≤ q) s.heap s.heap [] := va_S.rf
  have hl : lv_has ls 3 [(0, .ref (ad 0 0)), (1, .ref (ad 50 0))] := hl
  obtain ⟨q, hq, hz, hnz⟩ := oa_hlE hf
  refine lv_aload_n hx hb dL_line_0 rfl (lv_at hl 1 rfl) ?_
  refine lv_iconst (v := (0 : Int32)) hx hb dL_line_1 (by decide) ?_
  refine lv_aload_n hx hb dL_line_2 rfl (lv_at hl 0 rfl) ?_
  refine vx_calli (vx_runV (As := []) (rest := [.int 0, .ref (ad 50 0)]) ⟨hx, hb, hml, hown, hts⟩ (cX4_line_ok l hl0 D ca ad b0 hw n  M q hq) (cwV 0 hts (oa_gV tw_516 tw_517 tw_518 tw_44 tw_519) rfl rfl rfl (by decide +kernel) ⟨Nat.le_of_ble_eq_true rfl, Nat.le_of_ble_eq_true rfl⟩) ⟨oa_blind D ca ad b0 M _, oa_recv (k := 0) (ci := 4) hE hH (by decide) rfl rfl, fun U hU hW => ⟨rfl, by rw [hU]; exact hH, hE.call hS hU hW⟩⟩ rfl rfl hl.1 rfl (lv_room (Nat.le_of_ble_eq_true rfl)) dL_line_3 ⟨by decide, by decide⟩) hS (fun q _ h => h) (fun q h => h) (fun q _ h => h) ?_ ?_
  · intro E ce q9 u t H1 locs1 ht hvm hpx hB hz1 hk1 hS1 hce hcv hcl
    obtain ⟨hcd, rfl⟩ := hpx
    obtain ⟨hEx, hH1⟩ := hB
    rw [ht] at hH1
    obtain ⟨r9, hr9, ho⟩ := hnz hcd
    cases ho
    by_cases h0 : q.1 = 1
    · rw [h0] at hEx
      rw [if_pos h0] at hr9
      cases hr9
      subst hEx
      refine oa_catch (own := RL) (name := "java/lang/IllegalArgumentException") hown [] ⟨0, 8, 11, 13⟩ [⟨0, 8, 14, 15⟩] htab (fun z hz => by cases hz) (by decide) (by decide) (hts _ tw_257) (va_Nw.use rfl (hE.2.2.2.2.2.2.1 "java/lang/IllegalArgumentException" (by decide))) hce hcv hcl ?_
      refine lv_astore_n (lv' := [(2, .ref q9), (0, .ref (ad 0 0)), (1, .ref (ad 50 0))]) hx hb dL_line_11 rfl hl (by decide) rfl (fun ls hl => ?_)
      refine lv_iconst (v := (1 : Int32)) hx hb dL_line_12 (by decide) ?_
      exact oa_retj hx hb hr hlocks rfl hS1 hH1 dL_line_13
    rw [if_neg h0] at hr9
    by_cases h1 : q.1 = 2
    · rw [h1] at hEx
      rw [if_pos h1] at hr9
      cases hr9
      subst hEx
      refine oa_catch (own := RL) (name := "java/lang/IllegalStateException") hown [⟨0, 8, 11, 13⟩] ⟨0, 8, 14, 15⟩ [] htab (fun z hz => by
        simp only [List.mem_cons, List.not_mem_nil, or_false] at hz
        rcases hz with rfl
        · exact ⟨by decide, by decide, "java/lang/IllegalArgumentException", hts _ tw_257, hE.2.2.2.2.2.2.2 ("java/lang/IllegalStateException", "java/lang/IllegalArgumentException") (by decide)⟩) (by decide) (by decide) (hts _ tw_258) (va_Nw.use rfl (hE.2.2.2.2.2.2.1 "java/lang/IllegalStateException" (by decide))) hce hcv hcl ?_
      refine lv_astore_n (lv' := [(2, .ref q9), (0, .ref (ad 0 0)), (1, .ref (ad 50 0))]) hx hb dL_line_14 rfl hl (by decide) rfl (fun ls hl => ?_)
      refine lv_iconst (v := (2 : Int32)) hx hb dL_line_15 (by decide) ?_
      exact oa_retj hx hb hr hlocks rfl hS1 hH1 dL_line_16
    rw [if_neg h1] at hr9
    cases hr9
  · intro r9 u t H1 locs1 ht hvm hw1 hB hz1 hk1 hS1
    obtain ⟨h0, rfl, rfl⟩ := hw1
    have hB : oa_Hx D ca ad b0 q.2.2 t.heap := hB
    rw [ht] at hB
    obtain ⟨ad1, hk9, hB⟩ := hB
    cases hz h0
    refine lv_i2l (v := q.2.1.toInt64) hx hb dL_line_6 rfl ?_
    refine oa_lstj hx hb hE hk9.1 hB hS1 hk9.2.2.2 dL_line_7 (fun H locs hH hS => ?_)
    refine lv_goto (tgt := 17) hx hb dL_line_8 (by decide) ?_
    refine lv_iconst (v := (0 : Int32)) hx hb dL_line_17 (by decide) ?_
    exact oa_retj hx hb hr hlocks rfl hS ⟨ad1, hk9, hH⟩ dL_line_18
def FL_assemble (n : Nat) (x1 : Int32) (M : oa_M) : Option (Int32 × oa_M) := oa_hl (FX4_assemble n x1 M) (fun cd => if cd = 2 then some 1 else if cd = 4 then some 2 else if cd = 3 then some 3 else if cd = 1 then some 4 else none)
set_option maxHeartbeats 4000000 in
set_option maxRecDepth 100000 in
theorem cL_assemble_ok (l : Launch) (hl0 : l.stackTraces = false) (D : va_G) (ca : Nat → ClassId) (ad : Nat → Nat → Nat) (b0 : Nat) (hw : oa_W ad b0) (n : Nat) (x1 : Int32) (M : oa_M) (r : Int32) (M' : oa_M) (hf : FL_assemble n x1 M = some (r, M')) : Met l yL_assemble (oa_wH yL_assemble cL_assemble 4 (some .int) [(0, 9, 12, 15), (0, 9, 15, 46), (0, 9, 18, 25), (0, 9, 21, 13)]) ({ frames := 8, cells := 3, slots := 18, locals := 132 } : Room) (va_Pc [.ref (ad 0 0), .int x1, .ref (ad 50 0)] (oa_P D ca ad b0 M)) (va_Qi (fun (r' : Int32) (u : oa_M) => r' = r ∧ u = M') (fun u t => oa_H D ca ad u t.heap) (fun q => b0 ≤ q)) 3 (6 * 3) (fun q => b0 ≤ q) := by
  refine oa_ofH (cc := cL_assemble) (maxL := 4) (ret := some .int) (hh := [(0, 9, 12, 15), (0, 9, 15, 46), (0, 9, 18, 25), (0, 9, 21, 13)]) (ws' := []) (by decide) (Nat.le_of_ble_eq_true rfl) ?_
  intro p e s m below meth c hx hb hml hr hlocks hown hts htab hP ls hl
  obtain ⟨hH, hE⟩ := hP
  have hS : va_S (fun q => b0 ≤ q) s.heap s.heap [] := va_S.rf
  have hl : lv_has ls 4 [(0, .ref (ad 0 0)), (1, .int x1), (2, .ref (ad 50 0))] := hl
  obtain ⟨q, hq, hz, hnz⟩ := oa_hlE hf
  refine lv_aload_n hx hb dL_assemble_0 rfl (lv_at hl 2 rfl) ?_
  refine lv_iconst (v := (0 : Int32)) hx hb dL_assemble_1 (by decide) ?_
  refine lv_aload_n hx hb dL_assemble_2 rfl (lv_at hl 0 rfl) ?_
  refine lv_iload_n hx hb dL_assemble_3 rfl (lv_at hl 1 rfl) ?_
  refine vx_calli (vx_runV (As := [.int x1]) (rest := [.int 0, .ref (ad 50 0)]) ⟨hx, hb, hml, hown, hts⟩ (cX4_assemble_ok l hl0 D ca ad b0 hw n x1 M q hq) (cwV 1 hts (oa_gV tw_547 tw_548 tw_549 tw_44 tw_550) rfl rfl rfl (by decide +kernel) ⟨Nat.le_of_ble_eq_true rfl, Nat.le_of_ble_eq_true rfl⟩) ⟨oa_blind D ca ad b0 M _, oa_recv (k := 0) (ci := 4) hE hH (by decide) rfl rfl, fun U hU hW => ⟨rfl, by rw [hU]; exact hH, hE.call hS hU hW⟩⟩ rfl rfl hl.1 rfl (lv_room (Nat.le_of_ble_eq_true rfl)) dL_assemble_4 ⟨by decide, by decide⟩) hS (fun q _ h => h) (fun q h => h) (fun q _ h => h) ?_ ?_
  · intro E ce q9 u t H1 locs1 ht hvm hpx hB hz1 hk1 hS1 hce hcv hcl
    obtain ⟨hcd, rfl⟩ := hpx
    obtain ⟨hEx, hH1⟩ := hB
    rw [ht] at hH1
    obtain ⟨r9, hr9, ho⟩ := hnz hcd
    cases ho
    by_cases h0 : q.1 = 2
    · rw [h0] at hEx
      rw [if_pos h0] at hr9
      cases hr9
      subst hEx
      refine oa_catch (own := RL) (name := "java/lang/IllegalStateException") hown [] ⟨0, 9, 12, 15⟩ [⟨0, 9, 15, 46⟩, ⟨0, 9, 18, 25⟩, ⟨0, 9, 21, 13⟩] htab (fun z hz => by cases hz) (by decide) (by decide) (hts _ tw_258) (va_Nw.use rfl (hE.2.2.2.2.2.2.1 "java/lang/IllegalStateException" (by decide))) hce hcv hcl ?_
      refine lv_astore_n (lv' := [(3, .ref q9), (0, .ref (ad 0 0)), (1, .int x1), (2, .ref (ad 50 0))]) hx hb dL_assemble_12 rfl hl (by decide) rfl (fun ls hl => ?_)
      refine lv_iconst (v := (1 : Int32)) hx hb dL_assemble_13 (by decide) ?_
      exact oa_reti hx hb hr hlocks rfl hS1 hH1 dL_assemble_14
    rw [if_neg h0] at hr9
    by_cases h1 : q.1 = 4
    · rw [h1] at hEx
      rw [if_pos h1] at hr9
      cases hr9
      subst hEx
      refine oa_catch (own := RL) (name := "java/util/NoSuchElementException") hown [⟨0, 9, 12, 15⟩] ⟨0, 9, 15, 46⟩ [⟨0, 9, 18, 25⟩, ⟨0, 9, 21, 13⟩] htab (fun z hz => by
        simp only [List.mem_cons, List.not_mem_nil, or_false] at hz
        rcases hz with rfl
        · exact ⟨by decide, by decide, "java/lang/IllegalStateException", hts _ tw_258, hE.2.2.2.2.2.2.2 ("java/util/NoSuchElementException", "java/lang/IllegalStateException") (by decide)⟩) (by decide) (by decide) (hts _ tw_546) (va_Nw.use rfl (hE.2.2.2.2.2.2.1 "java/util/NoSuchElementException" (by decide))) hce hcv hcl ?_
      refine lv_astore_n (lv' := [(3, .ref q9), (0, .ref (ad 0 0)), (1, .int x1), (2, .ref (ad 50 0))]) hx hb dL_assemble_15 rfl hl (by decide) rfl (fun ls hl => ?_)
      refine lv_iconst (v := (2 : Int32)) hx hb dL_assemble_16 (by decide) ?_
      exact oa_reti hx hb hr hlocks rfl hS1 hH1 dL_assemble_17
    rw [if_neg h1] at hr9
    by_cases h2 : q.1 = 3
    · rw [h2] at hEx
      rw [if_pos h2] at hr9
      cases hr9
      subst hEx
      refine oa_catch (own := RL) (name := "java/lang/IndexOutOfBoundsException") hown [⟨0, 9, 12, 15⟩, ⟨0, 9, 15, 46⟩] ⟨0, 9, 18, 25⟩ [⟨0, 9, 21, 13⟩] htab (fun z hz => by
        simp only [List.mem_cons, List.not_mem_nil, or_false] at hz
        rcases hz with rfl | rfl
        · exact ⟨by decide, by decide, "java/lang/IllegalStateException", hts _ tw_258, hE.2.2.2.2.2.2.2 ("java/lang/IndexOutOfBoundsException", "java/lang/IllegalStateException") (by decide)⟩
        · exact ⟨by decide, by decide, "java/util/NoSuchElementException", hts _ tw_546, hE.2.2.2.2.2.2.2 ("java/lang/IndexOutOfBoundsException", "java/util/NoSuchElementException") (by decide)⟩) (by decide) (by decide) (hts _ tw_410) (va_Nw.use rfl (hE.2.2.2.2.2.2.1 "java/lang/IndexOutOfBoundsException" (by decide))) hce hcv hcl ?_
      refine lv_astore_n (lv' := [(3, .ref q9), (0, .ref (ad 0 0)), (1, .int x1), (2, .ref (ad 50 0))]) hx hb dL_assemble_18 rfl hl (by decide) rfl (fun ls hl => ?_)
      refine lv_iconst (v := (3 : Int32)) hx hb dL_assemble_19 (by decide) ?_
      exact oa_reti hx hb hr hlocks rfl hS1 hH1 dL_assemble_20
    rw [if_neg h2] at hr9
    by_cases h3 : q.1 = 1
    · rw [h3] at hEx
      rw [if_pos h3] at hr9
      cases hr9
      subst hEx
      refine oa_catch (own := RL) (name := "java/lang/IllegalArgumentException") hown [⟨0, 9, 12, 15⟩, ⟨0, 9, 15, 46⟩, ⟨0, 9, 18, 25⟩] ⟨0, 9, 21, 13⟩ [] htab (fun z hz => by
        simp only [List.mem_cons, List.not_mem_nil, or_false] at hz
        rcases hz with rfl | rfl | rfl
        · exact ⟨by decide, by decide, "java/lang/IllegalStateException", hts _ tw_258, hE.2.2.2.2.2.2.2 ("java/lang/IllegalArgumentException", "java/lang/IllegalStateException") (by decide)⟩
        · exact ⟨by decide, by decide, "java/util/NoSuchElementException", hts _ tw_546, hE.2.2.2.2.2.2.2 ("java/lang/IllegalArgumentException", "java/util/NoSuchElementException") (by decide)⟩
        · exact ⟨by decide, by decide, "java/lang/IndexOutOfBoundsException", hts _ tw_410, hE.2.2.2.2.2.2.2 ("java/lang/IllegalArgumentException", "java/lang/IndexOutOfBoundsException") (by decide)⟩) (by decide) (by decide) (hts _ tw_257) (va_Nw.use rfl (hE.2.2.2.2.2.2.1 "java/lang/IllegalArgumentException" (by decide))) hce hcv hcl ?_
      refine lv_astore_n (lv' := [(3, .ref q9), (0, .ref (ad 0 0)), (1, .int x1), (2, .ref (ad 50 0))]) hx hb dL_assemble_21 rfl hl (by decide) rfl (fun ls hl => ?_)
      refine lv_iconst (v := (4 : Int32)) hx hb dL_assemble_22 (by decide) ?_
      exact oa_reti hx hb hr hlocks rfl hS1 hH1 dL_assemble_23
    rw [if_neg h3] at hr9
    cases hr9
  · intro r9 u t H1 locs1 ht hvm hw1 hB hz1 hk1 hS1
    obtain ⟨h0, rfl, rfl⟩ := hw1
    have hB : oa_H D ca ad q.2.2 t.heap := hB
    rw [ht] at hB
    cases hz h0
    refine lv_i2l (v := q.2.1.toInt64) hx hb dL_assemble_7 rfl ?_
    refine oa_lst hx hb hE hw hB hS1 dL_assemble_8 (fun H locs hH hS => ?_)
    refine lv_goto (tgt := 24) hx hb dL_assemble_9 (by decide) ?_
    refine lv_iconst (v := (0 : Int32)) hx hb dL_assemble_24 (by decide) ?_
    exact oa_reti hx hb hr hlocks rfl hS hH dL_assemble_25

def BX4_assemble_19 (n : Nat) (x1 : Int32) (x2 : Int32) (M : oa_M) : Option (Nat × Int32 × oa_M) := (if x2 = (-1 : Int32) then (oa_bx (FX4_requireAddress n x1 M) (fun M3 => (oa_bd (FX4_placeLines n x1 M3) (fun r9 M10 => (if r9 ≤ (64 : Int32) then (oa_bd (FX4_firstUnfit n  M10) (fun r13 M14 => (if r13 = (-1 : Int32) then (oa_bv (FX4_putLines n  M14) (fun M18 => (some (0, (r9 - x1), M18)))) else (some (1, 0, (oa_up M14 0 0 7 r13)))))) else (some (3, 0, M10))))))) else (some (4, 0, (oa_up M 0 0 7 x2))))
def FX4_assemble (n : Nat) (x1 : Int32) (M : oa_M) : Option (Nat × Int32 × oa_M) := (oa_bx (FX4_requireReady n  M) (fun M2 => (oa_bd (FX4_chooseForms n  M2) (fun r8 M9 => (if r8 = (-1 : Int32) then (oa_bd (FX4_firstWithUnknownLabel n  M9) (fun r12 M13 => (BX4_assemble_19 n x1 r12 M13))) else (BX4_assemble_19 n x1 r8 M9))))))
set_option maxHeartbeats 4000000 in
set_option maxRecDepth 100000 in
theorem bX4_assemble_19 {p : Program} {l : Launch} {e : Env} {s : State} {m : MethodId} {args : Array Value} {below : List Frame} {meth : Method} {c : Code} {D : va_G} {ca : Nat → ClassId} {ad : Nat → Nat → Nat} {b0 : Nat} {o : Nat × Int32 × oa_M} (C : oa_Cy p l s m args meth c cX4_assemble 5 (some .int) RX4 D ca b0 ad) : ∀ (n : Nat), ∀ (x1 : Int32) (x2 : Int32) (M : oa_M), BX4_assemble_19 n x1 x2 M = some o → ∀ (H : Heap) (locs : List Loc), oa_H D ca ad M H → va_S (fun q => b0 ≤ q) s.heap H locs → ∀ (ls : Array Slot), lv_has ls 5 [(0, .ref (ad 0 0)), (1, .int x1), (2, .int x2)] → W p l e ({ frames := 7, cells := 3, slots := 18, locals := 108 } : Room) s m args below meth c H locs 1 6 (vx_MQ below (va_Qi (fun (r' : Int32) (u : oa_M) => o.1 = 0 ∧ r' = o.2.1 ∧ u = o.2.2) (fun u t => oa_H D ca ad u t.heap) (fun q => b0 ≤ q)) (vx_X (fun u : oa_M => o.1 ≠ 0 ∧ u = o.2.2) (fun E u t => E = oa_x o.1 ∧ oa_H D ca ad u t.heap) (fun q => b0 ≤ q)) args s 3 (6 * 3) (fun q => b0 ≤ q)) (F0 m 19 ls []) := by
  obtain ⟨hx, hb, hml, hr, hlocks, hown, hts, hE, hw, hl0, hnt⟩ := id C
  intro n x1 x2 M hf H locs hH hS ls hl
  unfold BX4_assemble_19 at hf
  refine lv_iload_n hx hb dX4_assemble_19 rfl (lv_at hl 2 rfl) ?_
  refine lv_iconst (v := (-1 : Int32)) hx hb dX4_assemble_20 (by decide) ?_
  refine lv_icmp_eq (tgt := 39) hx hb dX4_assemble_21 (by decide) (fun hq1 => ?_) (fun hq1 => ?_)
  · rw [if_pos hq1] at hf
    refine lv_aload_n hx hb dX4_assemble_39 rfl (lv_at hl 0 rfl) ?_
    refine lv_iload_n hx hb dX4_assemble_40 rfl (lv_at hl 1 rfl) ?_
    obtain ⟨cd5, M3, hc4, ha6, hb7⟩ := oa_bxE hf
    refine oa_cxv (mc := 3) (mc0 := 1) (As := [.int x1]) (rest := []) ⟨hx, hb, hml, hown, hts⟩ (cX4_requireAddress_ok l hl0 D ca ad b0 hw n x1 _ _ hc4) (cwV 1 hts (oa_gV tw_415 tw_417 tw_3 tw_44 tw_418) rfl rfl rfl (by decide +kernel) ⟨Nat.le_of_ble_eq_true rfl, Nat.le_of_ble_eq_true rfl⟩) hE hH hS (oa_recv (k := 0) (ci := 4) hE hH (by decide) rfl rfl) rfl hl.1 rfl (Nat.le_of_ble_eq_true rfl) dX4_assemble_41 ⟨by decide, by decide⟩ hnt hlocks (by decide) (by decide) hb7 (fun hz8 H locs hH hS => ?_)
    have hf := ha6 hz8
    refine lv_aload_n hx hb dX4_assemble_44 rfl (lv_at hl 0 rfl) ?_
    refine lv_iload_n hx hb dX4_assemble_45 rfl (lv_at hl 1 rfl) ?_
    obtain ⟨r9, M10, hc11, hf⟩ := oa_bdE hf
    refine oa_cvi (As := [.int x1]) (rest := []) ⟨hx, hb, hml, hown, hts⟩ (cX4_placeLines_ok l D ca ad b0 hw n x1 _ _ _ hc11) (cwV 1 hts (oa_gV tw_575 tw_577 tw_14 tw_44 tw_578) rfl rfl rfl (by decide +kernel) ⟨Nat.le_of_ble_eq_true rfl, Nat.le_of_ble_eq_true rfl⟩) hE hH hS (oa_recv (k := 0) (ci := 4) hE hH (by decide) rfl rfl) rfl hl.1 rfl (Nat.le_of_ble_eq_true rfl) dX4_assemble_46 ⟨by decide, by decide⟩ (fun H locs hH hS => ?_)
    refine lv_istore_n (lv' := [(3, .int r9), (0, .ref (ad 0 0)), (1, .int x1), (2, .int x2)]) hx hb dX4_assemble_49 rfl hl (by decide) rfl (fun ls hl => ?_)
    refine lv_iload_n hx hb dX4_assemble_50 rfl (lv_at hl 0 rfl) ?_
    refine lv_bipush (v := (64 : Int32)) hx hb dX4_assemble_51 (by decide) ?_
    refine lv_icmp_le (tgt := 66) hx hb dX4_assemble_53 (by decide) (fun hq12 => ?_) (fun hq12 => ?_)
    · rw [if_pos hq12] at hf
      refine lv_aload_n hx hb dX4_assemble_66 rfl (lv_at hl 1 rfl) ?_
      obtain ⟨r13, M14, hc15, hf⟩ := oa_bdE hf
      refine oa_cvi (As := []) (rest := []) ⟨hx, hb, hml, hown, hts⟩ (cX4_firstUnfit_ok l D ca ad b0 hw n  _ _ _ hc15) (cwV 0 hts (oa_gV tw_580 tw_582 tw_15 tw_44 tw_583) rfl rfl rfl (by decide +kernel) ⟨Nat.le_of_ble_eq_true rfl, Nat.le_of_ble_eq_true rfl⟩) hE hH hS (oa_recv (k := 0) (ci := 4) hE hH (by decide) rfl rfl) rfl hl.1 rfl (Nat.le_of_ble_eq_true rfl) dX4_assemble_67 ⟨by decide, by decide⟩ (fun H locs hH hS => ?_)
      refine lv_istore (lv' := [(4, .int r13), (3, .int r9), (0, .ref (ad 0 0)), (1, .int x1), (2, .int x2)]) hx hb dX4_assemble_70 hl (by decide) rfl (fun ls hl => ?_)
      refine lv_iload hx hb dX4_assemble_72 (lv_at hl 0 rfl) ?_
      refine lv_iconst (v := (-1 : Int32)) hx hb dX4_assemble_74 (by decide) ?_
      refine lv_icmp_eq (tgt := 94) hx hb dX4_assemble_75 (by decide) (fun hq16 => ?_) (fun hq16 => ?_)
      · rw [if_pos hq16] at hf
        refine lv_aload_n hx hb dX4_assemble_94 rfl (lv_at hl 2 rfl) ?_
        obtain ⟨M18, hc19, hf⟩ := oa_bvE hf
        refine oa_cvv (As := []) (rest := []) ⟨hx, hb, hml, hown, hts⟩ (cX4_putLines_ok l D ca ad b0 hw n  _ _ hc19) (cwV 0 hts (oa_gV tw_597 tw_599 tw_18 tw_44 tw_600) rfl rfl rfl (by decide +kernel) ⟨Nat.le_of_ble_eq_true rfl, Nat.le_of_ble_eq_true rfl⟩) hE hH hS (oa_recv (k := 0) (ci := 4) hE hH (by decide) rfl rfl) rfl hl.1 rfl (Nat.le_of_ble_eq_true rfl) dX4_assemble_95 ⟨by decide, by decide⟩ (fun H locs hH hS => ?_)
        refine lv_iload_n hx hb dX4_assemble_98 rfl (lv_at hl 1 rfl) ?_
        refine lv_iload_n hx hb dX4_assemble_99 rfl (lv_at hl 3 rfl) ?_
        refine lv_isub hx hb dX4_assemble_100 ?_
        cases hf
        refine vx_ret (W.widen (k := 3) (n := 6 * 3) (by decide) (by decide) ?_)
        exact oa_rexi hx hb hr hlocks rfl rfl hS hH dX4_assemble_101
      · rw [if_neg hq16] at hf
        refine lv_aload_n hx hb dX4_assemble_78 rfl (lv_at hl 2 rfl) ?_
        refine lv_iload hx hb dX4_assemble_79 (lv_at hl 0 rfl) ?_
        refine oa_put (ci := 4) (C := RX4) (T := TX4) (N := 9) (v := .int r13) (x := r13) hx hb hts inX4 tyX4 tyX4_ok nmX4 hown hE hw hH hS 0 0 (by decide) rfl rfl 7 (by decide) (hts _ tw_183) rfl rfl rfl (Nat.le_of_ble_eq_true rfl) rfl dX4_assemble_81 (fun H locs hH hS => ?_)
        cases hf
        exact oa_thr (own := RX4) (text := "an operand's value is not that of any field") (names := oa_nm) hx hb hl0 hown (by decide +kernel) (by decide +kernel) (hts _ tw_305) (hts _ tw_53) (hE.2.2.2.2.1 ("OpcodeAtlas", 184, "an operand's value is not that of any field") (by decide +kernel)) (oa_at59 hts hE) (by decide +kernel) hE hS hH (hl.1.trans hml.symm) dX4_assemble_84 dX4_assemble_87 dX4_assemble_88 dX4_assemble_90 dX4_assemble_93 hnt (by decide) (by decide) (by decide) (by decide) hlocks ⟨Nat.succ_ne_zero _, rfl⟩ rfl (by decide) (by decide)
    · rw [if_neg hq12] at hf
      cases hf
      exact oa_thr (own := RX4) (text := "more bytes than fit behind the origin") (names := oa_nm) hx hb hl0 hown (by decide +kernel) (by decide +kernel) (hts _ tw_419) (hts _ tw_56) (hE.2.2.2.2.1 ("OpcodeAtlas", 179, "more bytes than fit behind the origin") (by decide +kernel)) (oa_at132 hts hE) (by decide +kernel) hE hS hH (hl.1.trans hml.symm) dX4_assemble_56 dX4_assemble_59 dX4_assemble_60 dX4_assemble_62 dX4_assemble_65 hnt (by decide) (by decide) (by decide) (by decide) hlocks ⟨Nat.succ_ne_zero _, rfl⟩ rfl (by decide) (by decide)
  · rw [if_neg hq1] at hf
    refine lv_aload_n hx hb dX4_assemble_24 rfl (lv_at hl 0 rfl) ?_
    refine lv_iload_n hx hb dX4_assemble_25 rfl (lv_at hl 2 rfl) ?_
    refine oa_put (ci := 4) (C := RX4) (T := TX4) (N := 9) (v := .int x2) (x := x2) hx hb hts inX4 tyX4 tyX4_ok nmX4 hown hE hw hH hS 0 0 (by decide) rfl rfl 7 (by decide) (hts _ tw_183) rfl rfl rfl (Nat.le_of_ble_eq_true rfl) rfl dX4_assemble_26 (fun H locs hH hS => ?_)
    cases hf
    exact oa_thrN (text := "no such form or label") hx hb hl0 hown (hts _ tw_559) (hts _ tw_57) (hE.2.2.2.2.1 ("OpcodeAtlas", 173, "no such form or label") (by decide +kernel)) (oa_at175 hts hE) hE hS hH (hl.1.trans hml.symm) dX4_assemble_29 dX4_assemble_32 dX4_assemble_33 dX4_assemble_35 dX4_assemble_38 hnt (by decide) (by decide) (by decide) (by decide) hlocks ⟨Nat.succ_ne_zero _, rfl⟩ rfl (by decide) (by decide)
set_option maxHeartbeats 4000000 in
set_option maxRecDepth 100000 in
theorem cX4_assemble_k (l : Launch) (hl0 : l.stackTraces = false) (D : va_G) (ca : Nat → ClassId) (ad : Nat → Nat → Nat) (b0 : Nat) (hw : oa_W ad b0) (n : Nat) (x1 : Int32) (M : oa_M) (o : Nat × Int32 × oa_M) (hf : FX4_assemble n x1 M = some o) : oa_Xi l yX4_assemble (oa_w yX4_assemble cX4_assemble 5 (some .int)) ({ frames := 7, cells := 3, slots := 18, locals := 108 } : Room) 3 D ca ad b0 [.ref (ad 0 0), .int x1] M o := by
  refine oa_ofX (cc := cX4_assemble) (maxL := 5) (ret := some .int) (by decide) rfl (Nat.le_of_ble_eq_true rfl) ?_
  intro p e s m below meth c hx hb hml hr hlocks hown hts0 hnt hP ls hl
  obtain ⟨hH, hE⟩ := hP
  have hts : ∀ w ∈ oa_T, w.before _ s = true := fun w h => hts0 w (List.mem_cons_of_mem _ h)
  have hS : va_S (fun q => b0 ≤ q) s.heap s.heap [] := va_S.rf
  have C : oa_Cy p l s m _ meth c cX4_assemble 5 (some .int) RX4 D ca b0 ad := ⟨hx, hb, hml, hr, hlocks, hown, hts, hE, hw, hl0, hnt⟩
  have hl : lv_has ls 5 [(0, .ref (ad 0 0)), (1, .int x1)] := hl
  unfold FX4_assemble at hf
  refine lv_aload_n hx hb dX4_assemble_0 rfl (lv_at hl 0 rfl) ?_
  obtain ⟨cd4, M2, hc3, ha5, hb6⟩ := oa_bxE hf
  refine oa_cxv (mc := 3) (mc0 := 1) (As := []) (rest := []) ⟨hx, hb, hml, hown, hts⟩ (cX4_requireReady_ok l hl0 D ca ad b0 hw n  _ _ hc3) (cwV 0 hts (oa_gV tw_449 tw_451 tw_4 tw_44 tw_452) rfl rfl rfl (by decide +kernel) ⟨Nat.le_of_ble_eq_true rfl, Nat.le_of_ble_eq_true rfl⟩) hE hH hS (oa_recv (k := 0) (ci := 4) hE hH (by decide) rfl rfl) rfl hl.1 rfl (Nat.le_of_ble_eq_true rfl) dX4_assemble_1 ⟨by decide, by decide⟩ hnt hlocks (by decide) (by decide) hb6 (fun hz7 H locs hH hS => ?_)
  have hf := ha5 hz7
  refine lv_aload_n hx hb dX4_assemble_4 rfl (lv_at hl 0 rfl) ?_
  obtain ⟨r8, M9, hc10, hf⟩ := oa_bdE hf
  refine oa_cvi (As := []) (rest := []) ⟨hx, hb, hml, hown, hts⟩ (cX4_chooseForms_ok l D ca ad b0 hw n  _ _ _ hc10) (cwV 0 hts (oa_gV tw_551 tw_553 tw_12 tw_44 tw_554) rfl rfl rfl (by decide +kernel) ⟨Nat.le_of_ble_eq_true rfl, Nat.le_of_ble_eq_true rfl⟩) hE hH hS (oa_recv (k := 0) (ci := 4) hE hH (by decide) rfl rfl) rfl hl.1 rfl (Nat.le_of_ble_eq_true rfl) dX4_assemble_5 ⟨by decide, by decide⟩ (fun H locs hH hS => ?_)
  refine lv_istore_n (lv' := [(2, .int r8), (0, .ref (ad 0 0)), (1, .int x1)]) hx hb dX4_assemble_8 rfl hl (by decide) rfl (fun ls hl => ?_)
  refine lv_iload_n hx hb dX4_assemble_9 rfl (lv_at hl 0 rfl) ?_
  refine lv_iconst (v := (-1 : Int32)) hx hb dX4_assemble_10 (by decide) ?_
  refine lv_icmp_ne (tgt := 19) hx hb dX4_assemble_11 (by decide) (fun hq11 => ?_) (fun hq11 => ?_)
  · rw [if_neg hq11] at hf
    exact bX4_assemble_19 C n x1 r8 _ hf _ _ hH hS _ (lv_sub hl [1, 2, 0] rfl)
  · rw [if_pos hq11] at hf
    refine lv_aload_n hx hb dX4_assemble_14 rfl (lv_at hl 1 rfl) ?_
    obtain ⟨r12, M13, hc14, hf⟩ := oa_bdE hf
    refine oa_cvi (As := []) (rest := []) ⟨hx, hb, hml, hown, hts⟩ (cX4_firstWithUnknownLabel_ok l D ca ad b0 hw n  _ _ _ hc14) (cwV 0 hts (oa_gV tw_555 tw_557 tw_13 tw_44 tw_558) rfl rfl rfl (by decide +kernel) ⟨Nat.le_of_ble_eq_true rfl, Nat.le_of_ble_eq_true rfl⟩) hE hH hS (oa_recv (k := 0) (ci := 4) hE hH (by decide) rfl rfl) rfl hl.1 rfl (Nat.le_of_ble_eq_true rfl) dX4_assemble_15 ⟨by decide, by decide⟩ (fun H locs hH hS => ?_)
    refine lv_istore_n (lv' := [(2, .int r12), (0, .ref (ad 0 0)), (1, .int x1)]) hx hb dX4_assemble_18 rfl hl (by decide) rfl (fun ls hl => ?_)
    exact bX4_assemble_19 C n x1 r12 _ hf _ _ hH hS _ (lv_sub hl [1, 2, 0] rfl)
theorem cX4_assemble_ok (l : Launch) (hl0 : l.stackTraces = false) (D : va_G) (ca : Nat → ClassId) (ad : Nat → Nat → Nat) (b0 : Nat) (hw : oa_W ad b0) (n : Nat) (x1 : Int32) (M : oa_M) (o : Nat × Int32 × oa_M) (hf : FX4_assemble n x1 M = some o) : oa_Xi l yX4_assemble (oa_w yX4_assemble cX4_assemble 5 (some .int)) ({ frames := 7, cells := 3, slots := 18, locals := 108 } : Room) 3 D ca ad b0 [.ref (ad 0 0), .int x1] M o := cX4_assemble_k l hl0 D ca ad b0 hw n x1 M o hf

def FJ6_bitCount_0f7a4 (n : Nat) (x0 : Int32) (M : oa_M) : Option (Int32 × oa_M) := (some (((((((((x0 - ((oa_ushr x0 (1 : Int32)) &&& (1431655765 : Int32))) &&& (858993459 : Int32)) + ((oa_ushr (x0 - ((oa_ushr x0 (1 : Int32)) &&& (1431655765 : Int32))) (2 : Int32)) &&& (858993459 : Int32))) + (oa_ushr (((x0 - ((oa_ushr x0 (1 : Int32)) &&& (1431655765 : Int32))) &&& (858993459 : Int32)) + ((oa_ushr (x0 - ((oa_ushr x0 (1 : Int32)) &&& (1431655765 : Int32))) (2 : Int32)) &&& (858993459 : Int32))) (4 : Int32))) &&& (252645135 : Int32)) + (oa_ushr (((((x0 - ((oa_ushr x0 (1 : Int32)) &&& (1431655765 : Int32))) &&& (858993459 : Int32)) + ((oa_ushr (x0 - ((oa_ushr x0 (1 : Int32)) &&& (1431655765 : Int32))) (2 : Int32)) &&& (858993459 : Int32))) + (oa_ushr (((x0 - ((oa_ushr x0 (1 : Int32)) &&& (1431655765 : Int32))) &&& (858993459 : Int32)) + ((oa_ushr (x0 - ((oa_ushr x0 (1 : Int32)) &&& (1431655765 : Int32))) (2 : Int32)) &&& (858993459 : Int32))) (4 : Int32))) &&& (252645135 : Int32)) (8 : Int32))) + (oa_ushr ((((((x0 - ((oa_ushr x0 (1 : Int32)) &&& (1431655765 : Int32))) &&& (858993459 : Int32)) + ((oa_ushr (x0 - ((oa_ushr x0 (1 : Int32)) &&& (1431655765 : Int32))) (2 : Int32)) &&& (858993459 : Int32))) + (oa_ushr (((x0 - ((oa_ushr x0 (1 : Int32)) &&& (1431655765 : Int32))) &&& (858993459 : Int32)) + ((oa_ushr (x0 - ((oa_ushr x0 (1 : Int32)) &&& (1431655765 : Int32))) (2 : Int32)) &&& (858993459 : Int32))) (4 : Int32))) &&& (252645135 : Int32)) + (oa_ushr (((((x0 - ((oa_ushr x0 (1 : Int32)) &&& (1431655765 : Int32))) &&& (858993459 : Int32)) + ((oa_ushr (x0 - ((oa_ushr x0 (1 : Int32)) &&& (1431655765 : Int32))) (2 : Int32)) &&& (858993459 : Int32))) + (oa_ushr (((x0 - ((oa_ushr x0 (1 : Int32)) &&& (1431655765 : Int32))) &&& (858993459 : Int32)) + ((oa_ushr (x0 - ((oa_ushr x0 (1 : Int32)) &&& (1431655765 : Int32))) (2 : Int32)) &&& (858993459 : Int32))) (4 : Int32))) &&& (252645135 : Int32)) (8 : Int32))) (16 : Int32))) &&& (63 : Int32)), M))
set_option maxHeartbeats 4000000 in
set_option maxRecDepth 100000 in
theorem cJ6_bitCount_0f7a4_k (l : Launch) (D : va_G) (ca : Nat → ClassId) (ad : Nat → Nat → Nat) (b0 : Nat) (hw : oa_W ad b0) (n : Nat) (x0 : Int32) (M : oa_M) (o : Int32 × oa_M) (hf : FJ6_bitCount_0f7a4 n x0 M = some o) : oa_Mi l yJ6_bitCount_0f7a4 (oa_w yJ6_bitCount_0f7a4 cJ6_bitCount_0f7a4 1 (some .int)) ({ frames := 0, cells := 0, slots := 0, locals := 0 } : Room) D ca ad b0 [.int x0] M o.1 o.2 := by
  refine oa_ofW (cc := cJ6_bitCount_0f7a4) (maxL := 1) (ret := some .int) (by decide) rfl (Nat.le_of_ble_eq_true rfl) ?_
  intro p e s m below meth c hx hb hml hr hlocks hown hts0 hP ls hl
  obtain ⟨hH, hE⟩ := hP
  have hts : ∀ w ∈ oa_T, w.before _ s = true := fun w h => hts0 w (List.mem_cons_of_mem _ h)
  have hS : va_S (fun q => b0 ≤ q) s.heap s.heap [] := va_S.rf
  have C : oa_Cx p s m _ meth c cJ6_bitCount_0f7a4 1 (some .int) RJ6 D ca b0 ad := ⟨hx, hb, hml, hr, hlocks, hown, hts, hE, hw⟩
  have hl : lv_has ls 1 [(0, .int x0)] := hl
  unfold FJ6_bitCount_0f7a4 at hf
  refine lv_iload_n hx hb dJ6_bitCount_0f7a4_0 rfl (lv_at hl 0 rfl) ?_
  refine lv_iload_n hx hb dJ6_bitCount_0f7a4_1 rfl (lv_at hl 0 rfl) ?_
  refine lv_iconst (v := (1 : Int32)) hx hb dJ6_bitCount_0f7a4_2 (by decide) ?_
  refine lv_iushr (v := (oa_ushr x0 (1 : Int32))) hx hb dJ6_bitCount_0f7a4_3 rfl ?_
  refine lv_ldcw (v := (1431655765 : Int32)) hx hb hown (hts _ tw_231) dJ6_bitCount_0f7a4_4 ?_
  refine lv_iand hx hb dJ6_bitCount_0f7a4_7 ?_
  refine lv_isub hx hb dJ6_bitCount_0f7a4_8 ?_
  refine lv_istore_n (lv' := [(0, .int (x0 - ((oa_ushr x0 (1 : Int32)) &&& (1431655765 : Int32))))]) hx hb dJ6_bitCount_0f7a4_9 rfl hl (by decide) rfl (fun ls hl => ?_)
  refine lv_iload_n hx hb dJ6_bitCount_0f7a4_10 rfl (lv_at hl 0 rfl) ?_
  refine lv_ldcw (v := (858993459 : Int32)) hx hb hown (hts _ tw_232) dJ6_bitCount_0f7a4_11 ?_
  refine lv_iand hx hb dJ6_bitCount_0f7a4_14 ?_
  refine lv_iload_n hx hb dJ6_bitCount_0f7a4_15 rfl (lv_at hl 0 rfl) ?_
  refine lv_iconst (v := (2 : Int32)) hx hb dJ6_bitCount_0f7a4_16 (by decide) ?_
  refine lv_iushr (v := (oa_ushr (x0 - ((oa_ushr x0 (1 : Int32)) &&& (1431655765 : Int32))) (2 : Int32))) hx hb dJ6_bitCount_0f7a4_17 rfl ?_
  refine lv_ldcw (v := (858993459 : Int32)) hx hb hown (hts _ tw_232) dJ6_bitCount_0f7a4_18 ?_
  refine lv_iand hx hb dJ6_bitCount_0f7a4_21 ?_
  refine lv_iadd hx hb dJ6_bitCount_0f7a4_22 ?_
  refine lv_istore_n (lv' := [(0, .int (((x0 - ((oa_ushr x0 (1 : Int32)) &&& (1431655765 : Int32))) &&& (858993459 : Int32)) + ((oa_ushr (x0 - ((oa_ushr x0 (1 : Int32)) &&& (1431655765 : Int32))) (2 : Int32)) &&& (858993459 : Int32))))]) hx hb dJ6_bitCount_0f7a4_23 rfl hl (by decide) rfl (fun ls hl => ?_)
  refine lv_iload_n hx hb dJ6_bitCount_0f7a4_24 rfl (lv_at hl 0 rfl) ?_
  refine lv_iload_n hx hb dJ6_bitCount_0f7a4_25 rfl (lv_at hl 0 rfl) ?_
  refine lv_iconst (v := (4 : Int32)) hx hb dJ6_bitCount_0f7a4_26 (by decide) ?_
  refine lv_iushr (v := (oa_ushr (((x0 - ((oa_ushr x0 (1 : Int32)) &&& (1431655765 : Int32))) &&& (858993459 : Int32)) + ((oa_ushr (x0 - ((oa_ushr x0 (1 : Int32)) &&& (1431655765 : Int32))) (2 : Int32)) &&& (858993459 : Int32))) (4 : Int32))) hx hb dJ6_bitCount_0f7a4_27 rfl ?_
  refine lv_iadd hx hb dJ6_bitCount_0f7a4_28 ?_
  refine lv_ldcw (v := (252645135 : Int32)) hx hb hown (hts _ tw_233) dJ6_bitCount_0f7a4_29 ?_
  refine lv_iand hx hb dJ6_bitCount_0f7a4_32 ?_
  refine lv_istore_n (lv' := [(0, .int (((((x0 - ((oa_ushr x0 (1 : Int32)) &&& (1431655765 : Int32))) &&& (858993459 : Int32)) + ((oa_ushr (x0 - ((oa_ushr x0 (1 : Int32)) &&& (1431655765 : Int32))) (2 : Int32)) &&& (858993459 : Int32))) + (oa_ushr (((x0 - ((oa_ushr x0 (1 : Int32)) &&& (1431655765 : Int32))) &&& (858993459 : Int32)) + ((oa_ushr (x0 - ((oa_ushr x0 (1 : Int32)) &&& (1431655765 : Int32))) (2 : Int32)) &&& (858993459 : Int32))) (4 : Int32))) &&& (252645135 : Int32)))]) hx hb dJ6_bitCount_0f7a4_33 rfl hl (by decide) rfl (fun ls hl => ?_)
  refine lv_iload_n hx hb dJ6_bitCount_0f7a4_34 rfl (lv_at hl 0 rfl) ?_
  refine lv_iload_n hx hb dJ6_bitCount_0f7a4_35 rfl (lv_at hl 0 rfl) ?_
  refine lv_bipush (v := (8 : Int32)) hx hb dJ6_bitCount_0f7a4_36 (by decide) ?_
  refine lv_iushr (v := (oa_ushr (((((x0 - ((oa_ushr x0 (1 : Int32)) &&& (1431655765 : Int32))) &&& (858993459 : Int32)) + ((oa_ushr (x0 - ((oa_ushr x0 (1 : Int32)) &&& (1431655765 : Int32))) (2 : Int32)) &&& (858993459 : Int32))) + (oa_ushr (((x0 - ((oa_ushr x0 (1 : Int32)) &&& (1431655765 : Int32))) &&& (858993459 : Int32)) + ((oa_ushr (x0 - ((oa_ushr x0 (1 : Int32)) &&& (1431655765 : Int32))) (2 : Int32)) &&& (858993459 : Int32))) (4 : Int32))) &&& (252645135 : Int32)) (8 : Int32))) hx hb dJ6_bitCount_0f7a4_38 rfl ?_
  refine lv_iadd hx hb dJ6_bitCount_0f7a4_39 ?_
  refine lv_istore_n (lv' := [(0, .int ((((((x0 - ((oa_ushr x0 (1 : Int32)) &&& (1431655765 : Int32))) &&& (858993459 : Int32)) + ((oa_ushr (x0 - ((oa_ushr x0 (1 : Int32)) &&& (1431655765 : Int32))) (2 : Int32)) &&& (858993459 : Int32))) + (oa_ushr (((x0 - ((oa_ushr x0 (1 : Int32)) &&& (1431655765 : Int32))) &&& (858993459 : Int32)) + ((oa_ushr (x0 - ((oa_ushr x0 (1 : Int32)) &&& (1431655765 : Int32))) (2 : Int32)) &&& (858993459 : Int32))) (4 : Int32))) &&& (252645135 : Int32)) + (oa_ushr (((((x0 - ((oa_ushr x0 (1 : Int32)) &&& (1431655765 : Int32))) &&& (858993459 : Int32)) + ((oa_ushr (x0 - ((oa_ushr x0 (1 : Int32)) &&& (1431655765 : Int32))) (2 : Int32)) &&& (858993459 : Int32))) + (oa_ushr (((x0 - ((oa_ushr x0 (1 : Int32)) &&& (1431655765 : Int32))) &&& (858993459 : Int32)) + ((oa_ushr (x0 - ((oa_ushr x0 (1 : Int32)) &&& (1431655765 : Int32))) (2 : Int32)) &&& (858993459 : Int32))) (4 : Int32))) &&& (252645135 : Int32)) (8 : Int32))))]) hx hb dJ6_bitCount_0f7a4_40 rfl hl (by decide) rfl (fun ls hl => ?_)
  refine lv_iload_n hx hb dJ6_bitCount_0f7a4_41 rfl (lv_at hl 0 rfl) ?_
  refine lv_iload_n hx hb dJ6_bitCount_0f7a4_42 rfl (lv_at hl 0 rfl) ?_
  refine lv_bipush (v := (16 : Int32)) hx hb dJ6_bitCount_0f7a4_43 (by decide) ?_
  refine lv_iushr (v := (oa_ushr ((((((x0 - ((oa_ushr x0 (1 : Int32)) &&& (1431655765 : Int32))) &&& (858993459 : Int32)) + ((oa_ushr (x0 - ((oa_ushr x0 (1 : Int32)) &&& (1431655765 : Int32))) (2 : Int32)) &&& (858993459 : Int32))) + (oa_ushr (((x0 - ((oa_ushr x0 (1 : Int32)) &&& (1431655765 : Int32))) &&& (858993459 : Int32)) + ((oa_ushr (x0 - ((oa_ushr x0 (1 : Int32)) &&& (1431655765 : Int32))) (2 : Int32)) &&& (858993459 : Int32))) (4 : Int32))) &&& (252645135 : Int32)) + (oa_ushr (((((x0 - ((oa_ushr x0 (1 : Int32)) &&& (1431655765 : Int32))) &&& (858993459 : Int32)) + ((oa_ushr (x0 - ((oa_ushr x0 (1 : Int32)) &&& (1431655765 : Int32))) (2 : Int32)) &&& (858993459 : Int32))) + (oa_ushr (((x0 - ((oa_ushr x0 (1 : Int32)) &&& (1431655765 : Int32))) &&& (858993459 : Int32)) + ((oa_ushr (x0 - ((oa_ushr x0 (1 : Int32)) &&& (1431655765 : Int32))) (2 : Int32)) &&& (858993459 : Int32))) (4 : Int32))) &&& (252645135 : Int32)) (8 : Int32))) (16 : Int32))) hx hb dJ6_bitCount_0f7a4_45 rfl ?_
  refine lv_iadd hx hb dJ6_bitCount_0f7a4_46 ?_
  refine lv_istore_n (lv' := [(0, .int (((((((x0 - ((oa_ushr x0 (1 : Int32)) &&& (1431655765 : Int32))) &&& (858993459 : Int32)) + ((oa_ushr (x0 - ((oa_ushr x0 (1 : Int32)) &&& (1431655765 : Int32))) (2 : Int32)) &&& (858993459 : Int32))) + (oa_ushr (((x0 - ((oa_ushr x0 (1 : Int32)) &&& (1431655765 : Int32))) &&& (858993459 : Int32)) + ((oa_ushr (x0 - ((oa_ushr x0 (1 : Int32)) &&& (1431655765 : Int32))) (2 : Int32)) &&& (858993459 : Int32))) (4 : Int32))) &&& (252645135 : Int32)) + (oa_ushr (((((x0 - ((oa_ushr x0 (1 : Int32)) &&& (1431655765 : Int32))) &&& (858993459 : Int32)) + ((oa_ushr (x0 - ((oa_ushr x0 (1 : Int32)) &&& (1431655765 : Int32))) (2 : Int32)) &&& (858993459 : Int32))) + (oa_ushr (((x0 - ((oa_ushr x0 (1 : Int32)) &&& (1431655765 : Int32))) &&& (858993459 : Int32)) + ((oa_ushr (x0 - ((oa_ushr x0 (1 : Int32)) &&& (1431655765 : Int32))) (2 : Int32)) &&& (858993459 : Int32))) (4 : Int32))) &&& (252645135 : Int32)) (8 : Int32))) + (oa_ushr ((((((x0 - ((oa_ushr x0 (1 : Int32)) &&& (1431655765 : Int32))) &&& (858993459 : Int32)) + ((oa_ushr (x0 - ((oa_ushr x0 (1 : Int32)) &&& (1431655765 : Int32))) (2 : Int32)) &&& (858993459 : Int32))) + (oa_ushr (((x0 - ((oa_ushr x0 (1 : Int32)) &&& (1431655765 : Int32))) &&& (858993459 : Int32)) + ((oa_ushr (x0 - ((oa_ushr x0 (1 : Int32)) &&& (1431655765 : Int32))) (2 : Int32)) &&& (858993459 : Int32))) (4 : Int32))) &&& (252645135 : Int32)) + (oa_ushr (((((x0 - ((oa_ushr x0 (1 : Int32)) &&& (1431655765 : Int32))) &&& (858993459 : Int32)) + ((oa_ushr (x0 - ((oa_ushr x0 (1 : Int32)) &&& (1431655765 : Int32))) (2 : Int32)) &&& (858993459 : Int32))) + (oa_ushr (((x0 - ((oa_ushr x0 (1 : Int32)) &&& (1431655765 : Int32))) &&& (858993459 : Int32)) + ((oa_ushr (x0 - ((oa_ushr x0 (1 : Int32)) &&& (1431655765 : Int32))) (2 : Int32)) &&& (858993459 : Int32))) (4 : Int32))) &&& (252645135 : Int32)) (8 : Int32))) (16 : Int32))))]) hx hb dJ6_bitCount_0f7a4_47 rfl hl (by decide) rfl (fun ls hl => ?_)
  refine lv_iload_n hx hb dJ6_bitCount_0f7a4_48 rfl (lv_at hl 0 rfl) ?_
  refine lv_bipush (v := (63 : Int32)) hx hb dJ6_bitCount_0f7a4_49 (by decide) ?_
  refine lv_iand hx hb dJ6_bitCount_0f7a4_51 ?_
  cases hf
  exact oa_reti hx hb hr hlocks rfl hS hH dJ6_bitCount_0f7a4_52
theorem cJ6_bitCount_0f7a4_ok (l : Launch) (D : va_G) (ca : Nat → ClassId) (ad : Nat → Nat → Nat) (b0 : Nat) (hw : oa_W ad b0) (n : Nat) (x0 : Int32) (M : oa_M) (r : Int32) (M' : oa_M) (hf : FJ6_bitCount_0f7a4 n x0 M = some (r, M')) : oa_Mi l yJ6_bitCount_0f7a4 (oa_w yJ6_bitCount_0f7a4 cJ6_bitCount_0f7a4 1 (some .int)) ({ frames := 0, cells := 0, slots := 0, locals := 0 } : Room) D ca ad b0 [.int x0] M r M' := cJ6_bitCount_0f7a4_k l D ca ad b0 hw n x0 M (r, M') hf
def BX2_lowest_20 (n : Nat) (n0 : Nat) (z0 : Int32) (M : oa_M) : Option (Int32 × oa_M) := (some (z0, M))
def FX2_lowest (n : Nat) (n0 : Nat) (M : oa_M) : Option (Int32 × oa_M) := (if (M 7 n0 2) = 0 then (BX2_lowest_20 n n0 (0 : Int32) M) else (BX2_lowest_20 n n0 (-(((1 : Int32) <<< ((M 7 n0 1) &&& 31)) >>> ((1 : Int32) &&& 31))) M))
set_option maxHeartbeats 4000000 in
set_option maxRecDepth 100000 in
theorem bX2_lowest_20 {p : Program} {l : Launch} {e : Env} {s : State} {m : MethodId} {args : Array Value} {below : List Frame} {meth : Method} {c : Code} {D : va_G} {ca : Nat → ClassId} {ad : Nat → Nat → Nat} {b0 : Nat} {o : Int32 × oa_M} (C : oa_Cx p s m args meth c cX2_lowest 1 (some .int) RX2 D ca b0 ad) : ∀ (n : Nat), ∀ (n0 : Nat) (hn0 : n0 < oa_n 7) (z0 : Int32) (M : oa_M), BX2_lowest_20 n n0 z0 M = some o → ∀ (H : Heap) (locs : List Loc), oa_H D ca ad M H → va_S (fun q => b0 ≤ q) s.heap H locs → ∀ (ls : Array Slot), lv_has ls 1 [(0, .ref (ad 7 n0))] → W p l e ({ frames := 0, cells := 0, slots := 0, locals := 0 } : Room) s m args below meth c H locs 0 0 (MQ below (va_Qi (fun (r' : Int32) (u : oa_M) => r' = o.1 ∧ u = o.2) (fun u t => oa_H D ca ad u t.heap) (fun q => b0 ≤ q)) args s 0 0 (fun q => b0 ≤ q)) (F0 m 20 ls [.int z0]) := by
  obtain ⟨hx, hb, hml, hr, hlocks, hown, hts, hE, hw⟩ := id C
  intro n n0 hn0 z0 M hf H locs hH hS ls hl
  unfold BX2_lowest_20 at hf
  cases hf
  exact oa_reti hx hb hr hlocks rfl hS hH dX2_lowest_20
set_option maxHeartbeats 4000000 in
set_option maxRecDepth 100000 in
theorem cX2_lowest_k (l : Launch) (D : va_G) (ca : Nat → ClassId) (ad : Nat → Nat → Nat) (b0 : Nat) (hw : oa_W ad b0) (n : Nat) (n0 : Nat) (hn0 : n0 < oa_n 7) (M : oa_M) (o : Int32 × oa_M) (hf : FX2_lowest n n0 M = some o) : oa_Mi l yX2_lowest (oa_w yX2_lowest cX2_lowest 1 (some .int)) ({ frames := 0, cells := 0, slots := 0, locals := 0 } : Room) D ca ad b0 [.ref (ad 7 n0)] M o.1 o.2 := by
  refine oa_ofW (cc := cX2_lowest) (maxL := 1) (ret := some .int) (by decide) rfl (Nat.le_of_ble_eq_true rfl) ?_
  intro p e s m below meth c hx hb hml hr hlocks hown hts0 hP ls hl
  obtain ⟨hH, hE⟩ := hP
  have hts : ∀ w ∈ oa_T, w.before _ s = true := fun w h => hts0 w (List.mem_cons_of_mem _ h)
  have hS : va_S (fun q => b0 ≤ q) s.heap s.heap [] := va_S.rf
  have C : oa_Cx p s m _ meth c cX2_lowest 1 (some .int) RX2 D ca b0 ad := ⟨hx, hb, hml, hr, hlocks, hown, hts, hE, hw⟩
  have hl : lv_has ls 1 [(0, .ref (ad 7 n0))] := hl
  unfold FX2_lowest at hf
  refine lv_aload_n hx hb dX2_lowest_0 rfl (lv_at hl 0 rfl) ?_
  refine oa_get (ci := 2) (C := RX2) (T := TX2) (N := 5) (v := .int (M 7 n0 2)) hx hb hts inX2 hown hE hH 7 n0 hn0 rfl rfl 2 (by decide) (hts _ tw_103) rfl dX2_lowest_1 ?_
  refine lv_if_ne (tgt := 11) hx hb dX2_lowest_4 (by decide) (fun hq1 => ?_) (fun hq1 => ?_)
  · rw [if_neg hq1] at hf
    refine lv_iconst (v := (1 : Int32)) hx hb dX2_lowest_11 (by decide) ?_
    refine lv_aload_n hx hb dX2_lowest_12 rfl (lv_at hl 0 rfl) ?_
    refine oa_get (ci := 2) (C := RX2) (T := TX2) (N := 5) (v := .int (M 7 n0 1)) hx hb hts inX2 hown hE hH 7 n0 hn0 rfl rfl 1 (by decide) (hts _ tw_101) rfl dX2_lowest_13 ?_
    refine lv_ishl hx hb dX2_lowest_16 ?_
    refine lv_iconst (v := (1 : Int32)) hx hb dX2_lowest_17 (by decide) ?_
    refine lv_ishr hx hb dX2_lowest_18 ?_
    refine lv_ineg hx hb dX2_lowest_19 ?_
    exact bX2_lowest_20 C n n0 hn0 (-(((1 : Int32) <<< ((M 7 n0 1) &&& 31)) >>> ((1 : Int32) &&& 31))) _ hf _ _ hH hS _ (lv_sub hl [0] rfl)
  · rw [if_pos hq1] at hf
    refine lv_iconst (v := (0 : Int32)) hx hb dX2_lowest_7 (by decide) ?_
    refine lv_goto (tgt := 20) hx hb dX2_lowest_8 (by decide) ?_
    exact bX2_lowest_20 C n n0 hn0 (0 : Int32) _ hf _ _ hH hS _ (lv_sub hl [0] rfl)
theorem cX2_lowest_ok (l : Launch) (D : va_G) (ca : Nat → ClassId) (ad : Nat → Nat → Nat) (b0 : Nat) (hw : oa_W ad b0) (n : Nat) (n0 : Nat) (hn0 : n0 < oa_n 7) (M : oa_M) (r : Int32) (M' : oa_M) (hf : FX2_lowest n n0 M = some (r, M')) : oa_Mi l yX2_lowest (oa_w yX2_lowest cX2_lowest 1 (some .int)) ({ frames := 0, cells := 0, slots := 0, locals := 0 } : Room) D ca ad b0 [.ref (ad 7 n0)] M r M' := cX2_lowest_k l D ca ad b0 hw n n0 hn0 M (r, M') hf
def FX2_highest (n : Nat) (n0 : Nat) (M : oa_M) : Option (Int32 × oa_M) := (oa_bd (FX2_lowest n n0 M) (fun r1 M2 => (some (((r1 + ((1 : Int32) <<< ((M2 7 n0 1) &&& 31))) - (1 : Int32)), M2))))
set_option maxHeartbeats 4000000 in
set_option maxRecDepth 100000 in
theorem cX2_highest_k (l : Launch) (D : va_G) (ca : Nat → ClassId) (ad : Nat → Nat → Nat) (b0 : Nat) (hw : oa_W ad b0) (n : Nat) (n0 : Nat) (hn0 : n0 < oa_n 7) (M : oa_M) (o : Int32 × oa_M) (hf : FX2_highest n n0 M = some o) : oa_Mi l yX2_highest (oa_w yX2_highest cX2_highest 1 (some .int)) ({ frames := 1, cells := 0, slots := 0, locals := 20 } : Room) D ca ad b0 [.ref (ad 7 n0)] M o.1 o.2 := by
  refine oa_ofW (cc := cX2_highest) (maxL := 1) (ret := some .int) (by decide) rfl (Nat.le_of_ble_eq_true rfl) ?_
  intro p e s m below meth c hx hb hml hr hlocks hown hts0 hP ls hl
  obtain ⟨hH, hE⟩ := hP
  have hts : ∀ w ∈ oa_T, w.before _ s = true := fun w h => hts0 w (List.mem_cons_of_mem _ h)
  have hS : va_S (fun q => b0 ≤ q) s.heap s.heap [] := va_S.rf
  have C : oa_Cx p s m _ meth c cX2_highest 1 (some .int) RX2 D ca b0 ad := ⟨hx, hb, hml, hr, hlocks, hown, hts, hE, hw⟩
  have hl : lv_has ls 1 [(0, .ref (ad 7 n0))] := hl
  unfold FX2_highest at hf
  refine lv_aload_n hx hb dX2_highest_0 rfl (lv_at hl 0 rfl) ?_
  obtain ⟨r1, M2, hc3, hf⟩ := oa_bdE hf
  refine oa_cvi (As := []) (rest := []) ⟨hx, hb, hml, hown, hts⟩ (cX2_lowest_ok l D ca ad b0 hw n n0 hn0 _ _ _ hc3) (cwV 0 hts (oa_gV tw_484 tw_485 tw_486 tw_47 tw_487) rfl rfl rfl (by decide +kernel) ⟨Nat.le_of_ble_eq_true rfl, Nat.le_of_ble_eq_true rfl⟩) hE hH hS (oa_recv (k := 7) (ci := 2) hE hH hn0 rfl rfl) rfl hl.1 rfl (Nat.le_of_ble_eq_true rfl) dX2_highest_1 ⟨by decide, by decide⟩ (fun H locs hH hS => ?_)
  refine lv_iconst (v := (1 : Int32)) hx hb dX2_highest_4 (by decide) ?_
  refine lv_aload_n hx hb dX2_highest_5 rfl (lv_at hl 0 rfl) ?_
  refine oa_get (ci := 2) (C := RX2) (T := TX2) (N := 5) (v := .int (M2 7 n0 1)) hx hb hts inX2 hown hE hH 7 n0 hn0 rfl rfl 1 (by decide) (hts _ tw_101) rfl dX2_highest_6 ?_
  refine lv_ishl hx hb dX2_highest_9 ?_
  refine lv_iadd hx hb dX2_highest_10 ?_
  refine lv_iconst (v := (1 : Int32)) hx hb dX2_highest_11 (by decide) ?_
  refine lv_isub hx hb dX2_highest_12 ?_
  cases hf
  exact oa_reti hx hb hr hlocks rfl hS hH dX2_highest_13
theorem cX2_highest_ok (l : Launch) (D : va_G) (ca : Nat → ClassId) (ad : Nat → Nat → Nat) (b0 : Nat) (hw : oa_W ad b0) (n : Nat) (n0 : Nat) (hn0 : n0 < oa_n 7) (M : oa_M) (r : Int32) (M' : oa_M) (hf : FX2_highest n n0 M = some (r, M')) : oa_Mi l yX2_highest (oa_w yX2_highest cX2_highest 1 (some .int)) ({ frames := 1, cells := 0, slots := 0, locals := 20 } : Room) D ca ad b0 [.ref (ad 7 n0)] M r M' := cX2_highest_k l D ca ad b0 hw n n0 hn0 M (r, M') hf
def BX2_base_21 (n : Nat) (n0 : Nat) (x1 : Int32) (z0 : Int32) (M : oa_M) : Option (Int32 × oa_M) := (some (z0, M))
def FX2_base (n : Nat) (n0 : Nat) (x1 : Int32) (M : oa_M) : Option (Int32 × oa_M) := (if (M 7 n0 2) = (2 : Int32) then (BX2_base_21 n n0 x1 ((M 7 n0 4) + x1) M) else (BX2_base_21 n n0 x1 (M 7 n0 4) M))
set_option maxHeartbeats 4000000 in
set_option maxRecDepth 100000 in
theorem bX2_base_21 {p : Program} {l : Launch} {e : Env} {s : State} {m : MethodId} {args : Array Value} {below : List Frame} {meth : Method} {c : Code} {D : va_G} {ca : Nat → ClassId} {ad : Nat → Nat → Nat} {b0 : Nat} {o : Int32 × oa_M} (C : oa_Cx p s m args meth c cX2_base 2 (some .int) RX2 D ca b0 ad) : ∀ (n : Nat), ∀ (n0 : Nat) (hn0 : n0 < oa_n 7) (x1 : Int32) (z0 : Int32) (M : oa_M), BX2_base_21 n n0 x1 z0 M = some o → ∀ (H : Heap) (locs : List Loc), oa_H D ca ad M H → va_S (fun q => b0 ≤ q) s.heap H locs → ∀ (ls : Array Slot), lv_has ls 2 [(0, .ref (ad 7 n0)), (1, .int x1)] → W p l e ({ frames := 0, cells := 0, slots := 0, locals := 0 } : Room) s m args below meth c H locs 0 0 (MQ below (va_Qi (fun (r' : Int32) (u : oa_M) => r' = o.1 ∧ u = o.2) (fun u t => oa_H D ca ad u t.heap) (fun q => b0 ≤ q)) args s 0 0 (fun q => b0 ≤ q)) (F0 m 21 ls [.int z0]) := by
  obtain ⟨hx, hb, hml, hr, hlocks, hown, hts, hE, hw⟩ := id C
  intro n n0 hn0 x1 z0 M hf H locs hH hS ls hl
  unfold BX2_base_21 at hf
  cases hf
  exact oa_reti hx hb hr hlocks rfl hS hH dX2_base_21
set_option maxHeartbeats 4000000 in
set_option maxRecDepth 100000 in
theorem cX2_base_k (l : Launch) (D : va_G) (ca : Nat → ClassId) (ad : Nat → Nat → Nat) (b0 : Nat) (hw : oa_W ad b0) (n : Nat) (n0 : Nat) (hn0 : n0 < oa_n 7) (x1 : Int32) (M : oa_M) (o : Int32 × oa_M) (hf : FX2_base n n0 x1 M = some o) : oa_Mi l yX2_base (oa_w yX2_base cX2_base 2 (some .int)) ({ frames := 0, cells := 0, slots := 0, locals := 0 } : Room) D ca ad b0 [.ref (ad 7 n0), .int x1] M o.1 o.2 := by
  refine oa_ofW (cc := cX2_base) (maxL := 2) (ret := some .int) (by decide) rfl (Nat.le_of_ble_eq_true rfl) ?_
  intro p e s m below meth c hx hb hml hr hlocks hown hts0 hP ls hl
  obtain ⟨hH, hE⟩ := hP
  have hts : ∀ w ∈ oa_T, w.before _ s = true := fun w h => hts0 w (List.mem_cons_of_mem _ h)
  have hS : va_S (fun q => b0 ≤ q) s.heap s.heap [] := va_S.rf
  have C : oa_Cx p s m _ meth c cX2_base 2 (some .int) RX2 D ca b0 ad := ⟨hx, hb, hml, hr, hlocks, hown, hts, hE, hw⟩
  have hl : lv_has ls 2 [(0, .ref (ad 7 n0)), (1, .int x1)] := hl
  unfold FX2_base at hf
  refine lv_aload_n hx hb dX2_base_0 rfl (lv_at hl 0 rfl) ?_
  refine oa_get (ci := 2) (C := RX2) (T := TX2) (N := 5) (v := .int (M 7 n0 2)) hx hb hts inX2 hown hE hH 7 n0 hn0 rfl rfl 2 (by decide) (hts _ tw_103) rfl dX2_base_1 ?_
  refine lv_iconst (v := (2 : Int32)) hx hb dX2_base_4 (by decide) ?_
  refine lv_icmp_ne (tgt := 17) hx hb dX2_base_5 (by decide) (fun hq1 => ?_) (fun hq1 => ?_)
  · rw [if_neg hq1] at hf
    refine lv_aload_n hx hb dX2_base_17 rfl (lv_at hl 0 rfl) ?_
    refine oa_get (ci := 2) (C := RX2) (T := TX2) (N := 5) (v := .int (M 7 n0 4)) hx hb hts inX2 hown hE hH 7 n0 hn0 rfl rfl 4 (by decide) (hts _ tw_107) rfl dX2_base_18 ?_
    exact bX2_base_21 C n n0 hn0 x1 (M 7 n0 4) _ hf _ _ hH hS _ (lv_sub hl [0, 1] rfl)
  · rw [if_pos hq1] at hf
    refine lv_aload_n hx hb dX2_base_8 rfl (lv_at hl 0 rfl) ?_
    refine oa_get (ci := 2) (C := RX2) (T := TX2) (N := 5) (v := .int (M 7 n0 4)) hx hb hts inX2 hown hE hH 7 n0 hn0 rfl rfl 4 (by decide) (hts _ tw_107) rfl dX2_base_9 ?_
    refine lv_iload_n hx hb dX2_base_12 rfl (lv_at hl 1 rfl) ?_
    refine lv_iadd hx hb dX2_base_13 ?_
    refine lv_goto (tgt := 21) hx hb dX2_base_14 (by decide) ?_
    exact bX2_base_21 C n n0 hn0 x1 ((M 7 n0 4) + x1) _ hf _ _ hH hS _ (lv_sub hl [0, 1] rfl)
theorem cX2_base_ok (l : Launch) (D : va_G) (ca : Nat → ClassId) (ad : Nat → Nat → Nat) (b0 : Nat) (hw : oa_W ad b0) (n : Nat) (n0 : Nat) (hn0 : n0 < oa_n 7) (x1 : Int32) (M : oa_M) (r : Int32) (M' : oa_M) (hf : FX2_base n n0 x1 M = some (r, M')) : oa_Mi l yX2_base (oa_w yX2_base cX2_base 2 (some .int)) ({ frames := 0, cells := 0, slots := 0, locals := 0 } : Room) D ca ad b0 [.ref (ad 7 n0), .int x1] M r M' := cX2_base_k l D ca ad b0 hw n n0 hn0 x1 M (r, M') hf
def BX2_valueIn_58 (n : Nat) (n0 : Nat) (x1 : Int32) (x2 : Int32) (x3 : Int32) (x4 : Int32) (M : oa_M) : Option (Int32 × oa_M) := (oa_bd (FX2_base n n0 x2 M) (fun r1 M2 => (some (((x3 * (M 7 n0 3)) + r1), M2))))
def BX2_valueIn_35 (rec6 : Nat → Int32 → Int32 → Int32 → Int32 → oa_M → Option (Int32 × oa_M)) (n : Nat) (n0 : Nat) (x1 : Int32) (x2 : Int32) (x3 : Int32) (x4 : Int32) (M : oa_M) : Option (Int32 × oa_M) := (rec6 n0 x1 x2 x3 (x4 + (-1 : Int32)) M)
def BX2_valueIn_6 : Nat → Nat → Int32 → Int32 → Int32 → Int32 → oa_M → Option (Int32 × oa_M)
  | 0, _, _, _, _, _, _ => none
  | n + 1, n0, x1, x2, x3, x4, M => (if x4 < 0 then (oa_bd (FX2_highest n n0 M) (fun r2 M3 => (if x3 ≤ r2 then (BX2_valueIn_58 n n0 x1 x2 x3 x4 M3) else (BX2_valueIn_58 n n0 x1 x2 (x3 - ((1 : Int32) <<< ((M3 7 n0 1) &&& 31))) x4 M3)))) else (if (((M 7 n0 0) >>> (x4 &&& 31)) &&& (1 : Int32)) = (1 : Int32) then (BX2_valueIn_35 (BX2_valueIn_6 n) n n0 x1 x2 ((x3 <<< ((1 : Int32) &&& 31)) ||| ((x1 >>> (x4 &&& 31)) &&& (1 : Int32))) x4 M) else (BX2_valueIn_35 (BX2_valueIn_6 n) n n0 x1 x2 x3 x4 M)))
def FX2_valueIn (n : Nat) (n0 : Nat) (x1 : Int32) (x2 : Int32) (M : oa_M) : Option (Int32 × oa_M) := (BX2_valueIn_6 n n0 x1 x2 (0 : Int32) (23 : Int32) M)
set_option maxHeartbeats 4000000 in
set_option maxRecDepth 100000 in
theorem bX2_valueIn_58 {p : Program} {l : Launch} {e : Env} {s : State} {m : MethodId} {args : Array Value} {below : List Frame} {meth : Method} {c : Code} {D : va_G} {ca : Nat → ClassId} {ad : Nat → Nat → Nat} {b0 : Nat} {o : Int32 × oa_M} (C : oa_Cx p s m args meth c cX2_valueIn 5 (some .int) RX2 D ca b0 ad) : ∀ (n : Nat), ∀ (n0 : Nat) (hn0 : n0 < oa_n 7) (x1 : Int32) (x2 : Int32) (x3 : Int32) (x4 : Int32) (M : oa_M), BX2_valueIn_58 n n0 x1 x2 x3 x4 M = some o → ∀ (H : Heap) (locs : List Loc), oa_H D ca ad M H → va_S (fun q => b0 ≤ q) s.heap H locs → ∀ (ls : Array Slot), lv_has ls 5 [(0, .ref (ad 7 n0)), (1, .int x1), (2, .int x2), (3, .int x3), (4, .int x4)] → W p l e ({ frames := 2, cells := 0, slots := 0, locals := 40 } : Room) s m args below meth c H locs 0 0 (MQ below (va_Qi (fun (r' : Int32) (u : oa_M) => r' = o.1 ∧ u = o.2) (fun u t => oa_H D ca ad u t.heap) (fun q => b0 ≤ q)) args s 0 0 (fun q => b0 ≤ q)) (F0 m 58 ls []) := by
  obtain ⟨hx, hb, hml, hr, hlocks, hown, hts, hE, hw⟩ := id C
  intro n n0 hn0 x1 x2 x3 x4 M hf H locs hH hS ls hl
  unfold BX2_valueIn_58 at hf
  refine lv_iload_n hx hb dX2_valueIn_58 rfl (lv_at hl 3 rfl) ?_
  refine lv_aload_n hx hb dX2_valueIn_59 rfl (lv_at hl 0 rfl) ?_
  refine oa_get (ci := 2) (C := RX2) (T := TX2) (N := 5) (v := .int (M 7 n0 3)) hx hb hts inX2 hown hE hH 7 n0 hn0 rfl rfl 3 (by decide) (hts _ tw_105) rfl dX2_valueIn_60 ?_
  refine lv_imul hx hb dX2_valueIn_63 ?_
  refine lv_aload_n hx hb dX2_valueIn_64 rfl (lv_at hl 0 rfl) ?_
  refine lv_iload_n hx hb dX2_valueIn_65 rfl (lv_at hl 2 rfl) ?_
  obtain ⟨r1, M2, hc3, hf⟩ := oa_bdE hf
  refine oa_cvi (As := [.int x2]) (rest := [.int (x3 * (M 7 n0 3))]) ⟨hx, hb, hml, hown, hts⟩ (cX2_base_ok l D ca ad b0 hw n n0 hn0 x2 _ _ _ hc3) (cwV 1 hts (oa_gV tw_488 tw_489 tw_490 tw_47 tw_491) rfl rfl rfl (by decide +kernel) ⟨Nat.le_of_ble_eq_true rfl, Nat.le_of_ble_eq_true rfl⟩) hE hH hS (oa_recv (k := 7) (ci := 2) hE hH hn0 rfl rfl) rfl hl.1 rfl (Nat.le_of_ble_eq_true rfl) dX2_valueIn_66 ⟨by decide, by decide⟩ (fun H locs hH hS => ?_)
  refine lv_iadd hx hb dX2_valueIn_69 ?_
  cases hf
  exact oa_reti hx hb hr hlocks rfl hS hH dX2_valueIn_70
set_option maxHeartbeats 4000000 in
set_option maxRecDepth 100000 in
theorem bX2_valueIn_35 {p : Program} {l : Launch} {e : Env} {s : State} {m : MethodId} {args : Array Value} {below : List Frame} {meth : Method} {c : Code} {D : va_G} {ca : Nat → ClassId} {ad : Nat → Nat → Nat} {b0 : Nat} {o : Int32 × oa_M} (C : oa_Cx p s m args meth c cX2_valueIn 5 (some .int) RX2 D ca b0 ad) (rec6 : Nat → Int32 → Int32 → Int32 → Int32 → oa_M → Option (Int32 × oa_M)) (hrec6 : ∀ (n0 : Nat) (hn0 : n0 < oa_n 7) (x1 : Int32) (x2 : Int32) (x3 : Int32) (x4 : Int32) (M : oa_M), rec6 n0 x1 x2 x3 x4 M = some o → ∀ (H : Heap) (locs : List Loc), oa_H D ca ad M H → va_S (fun q => b0 ≤ q) s.heap H locs → ∀ (ls : Array Slot), lv_has ls 5 [(0, .ref (ad 7 n0)), (1, .int x1), (2, .int x2), (3, .int x3), (4, .int x4)] → W p l e ({ frames := 2, cells := 0, slots := 0, locals := 40 } : Room) s m args below meth c H locs 0 0 (MQ below (va_Qi (fun (r' : Int32) (u : oa_M) => r' = o.1 ∧ u = o.2) (fun u t => oa_H D ca ad u t.heap) (fun q => b0 ≤ q)) args s 0 0 (fun q => b0 ≤ q)) (F0 m 6 ls [])) : ∀ (n : Nat), ∀ (n0 : Nat) (hn0 : n0 < oa_n 7) (x1 : Int32) (x2 : Int32) (x3 : Int32) (x4 : Int32) (M : oa_M), BX2_valueIn_35 rec6 n n0 x1 x2 x3 x4 M = some o → ∀ (H : Heap) (locs : List Loc), oa_H D ca ad M H → va_S (fun q => b0 ≤ q) s.heap H locs → ∀ (ls : Array Slot), lv_has ls 5 [(0, .ref (ad 7 n0)), (1, .int x1), (2, .int x2), (3, .int x3), (4, .int x4)] → W p l e ({ frames := 2, cells := 0, slots := 0, locals := 40 } : Room) s m args below meth c H locs 0 0 (MQ below (va_Qi (fun (r' : Int32) (u : oa_M) => r' = o.1 ∧ u = o.2) (fun u t => oa_H D ca ad u t.heap) (fun q => b0 ≤ q)) args s 0 0 (fun q => b0 ≤ q)) (F0 m 35 ls []) := by
  obtain ⟨hx, hb, hml, hr, hlocks, hown, hts, hE, hw⟩ := id C
  intro n n0 hn0 x1 x2 x3 x4 M hf H locs hH hS ls hl
  unfold BX2_valueIn_35 at hf
  refine lv_iinc (v := (x4 + (-1 : Int32))) (lv' := [(4, .int (x4 + (-1 : Int32))), (0, .ref (ad 7 n0)), (1, .int x1), (2, .int x2), (3, .int x3)]) hx hb dX2_valueIn_35 hl (k := 4) rfl rfl (by decide) rfl (fun ls hl => ?_)
  refine lv_goto (tgt := 6) hx hb dX2_valueIn_38 (by decide) ?_
  exact hrec6 n0 hn0 x1 x2 x3 (x4 + (-1 : Int32)) _ hf _ _ hH hS _ (lv_sub hl [1, 2, 3, 4, 0] rfl)
set_option maxHeartbeats 4000000 in
set_option maxRecDepth 100000 in
theorem bX2_valueIn_6 {p : Program} {l : Launch} {e : Env} {s : State} {m : MethodId} {args : Array Value} {below : List Frame} {meth : Method} {c : Code} {D : va_G} {ca : Nat → ClassId} {ad : Nat → Nat → Nat} {b0 : Nat} {o : Int32 × oa_M} (C : oa_Cx p s m args meth c cX2_valueIn 5 (some .int) RX2 D ca b0 ad) : ∀ (n : Nat), ∀ (n0 : Nat) (hn0 : n0 < oa_n 7) (x1 : Int32) (x2 : Int32) (x3 : Int32) (x4 : Int32) (M : oa_M), BX2_valueIn_6 n n0 x1 x2 x3 x4 M = some o → ∀ (H : Heap) (locs : List Loc), oa_H D ca ad M H → va_S (fun q => b0 ≤ q) s.heap H locs → ∀ (ls : Array Slot), lv_has ls 5 [(0, .ref (ad 7 n0)), (1, .int x1), (2, .int x2), (3, .int x3), (4, .int x4)] → W p l e ({ frames := 2, cells := 0, slots := 0, locals := 40 } : Room) s m args below meth c H locs 0 0 (MQ below (va_Qi (fun (r' : Int32) (u : oa_M) => r' = o.1 ∧ u = o.2) (fun u t => oa_H D ca ad u t.heap) (fun q => b0 ≤ q)) args s 0 0 (fun q => b0 ≤ q)) (F0 m 6 ls []) := by
  obtain ⟨hx, hb, hml, hr, hlocks, hown, hts, hE, hw⟩ := id C
  intro n
  induction n with
  | zero => intro n0 hn0 x1 x2 x3 x4 M hf; cases hf
  | succ n ih =>
    intro n0 hn0 x1 x2 x3 x4 M hf H locs hH hS ls hl
    have hrec6 := ih
    unfold BX2_valueIn_6 at hf
    refine lv_iload hx hb dX2_valueIn_6 (lv_at hl 4 rfl) ?_
    refine lv_if_lt (tgt := 41) hx hb dX2_valueIn_8 (by decide) (fun hq1 => ?_) (fun hq1 => ?_)
    · rw [if_pos hq1] at hf
      refine lv_iload_n hx hb dX2_valueIn_41 rfl (lv_at hl 3 rfl) ?_
      refine lv_aload_n hx hb dX2_valueIn_42 rfl (lv_at hl 0 rfl) ?_
      obtain ⟨r2, M3, hc4, hf⟩ := oa_bdE hf
      refine oa_cvi (As := []) (rest := [.int x3]) ⟨hx, hb, hml, hown, hts⟩ (cX2_highest_ok l D ca ad b0 hw n n0 hn0 _ _ _ hc4) (cwV 0 hts (oa_gV tw_480 tw_481 tw_482 tw_47 tw_483) rfl rfl rfl (by decide +kernel) ⟨Nat.le_of_ble_eq_true rfl, Nat.le_of_ble_eq_true rfl⟩) hE hH hS (oa_recv (k := 7) (ci := 2) hE hH hn0 rfl rfl) rfl hl.1 rfl (Nat.le_of_ble_eq_true rfl) dX2_valueIn_43 ⟨by decide, by decide⟩ (fun H locs hH hS => ?_)
      refine lv_icmp_le (tgt := 58) hx hb dX2_valueIn_46 (by decide) (fun hq5 => ?_) (fun hq5 => ?_)
      · rw [if_pos hq5] at hf
        exact bX2_valueIn_58 C n n0 hn0 x1 x2 x3 x4 _ hf _ _ hH hS _ (lv_sub hl [0, 1, 2, 3, 4] rfl)
      · rw [if_neg hq5] at hf
        refine lv_iload_n hx hb dX2_valueIn_49 rfl (lv_at hl 3 rfl) ?_
        refine lv_iconst (v := (1 : Int32)) hx hb dX2_valueIn_50 (by decide) ?_
        refine lv_aload_n hx hb dX2_valueIn_51 rfl (lv_at hl 0 rfl) ?_
        refine oa_get (ci := 2) (C := RX2) (T := TX2) (N := 5) (v := .int (M3 7 n0 1)) hx hb hts inX2 hown hE hH 7 n0 hn0 rfl rfl 1 (by decide) (hts _ tw_101) rfl dX2_valueIn_52 ?_
        refine lv_ishl hx hb dX2_valueIn_55 ?_
        refine lv_isub hx hb dX2_valueIn_56 ?_
        refine lv_istore_n (lv' := [(3, .int (x3 - ((1 : Int32) <<< ((M3 7 n0 1) &&& 31)))), (0, .ref (ad 7 n0)), (1, .int x1), (2, .int x2), (4, .int x4)]) hx hb dX2_valueIn_57 rfl hl (by decide) rfl (fun ls hl => ?_)
        exact bX2_valueIn_58 C n n0 hn0 x1 x2 (x3 - ((1 : Int32) <<< ((M3 7 n0 1) &&& 31))) x4 _ hf _ _ hH hS _ (lv_sub hl [1, 2, 3, 0, 4] rfl)
    · rw [if_neg hq1] at hf
      refine lv_aload_n hx hb dX2_valueIn_11 rfl (lv_at hl 0 rfl) ?_
      refine oa_get (ci := 2) (C := RX2) (T := TX2) (N := 5) (v := .int (M 7 n0 0)) hx hb hts inX2 hown hE hH 7 n0 hn0 rfl rfl 0 (by decide) (hts _ tw_99) rfl dX2_valueIn_12 ?_
      refine lv_iload hx hb dX2_valueIn_15 (lv_at hl 4 rfl) ?_
      refine lv_ishr hx hb dX2_valueIn_17 ?_
      refine lv_iconst (v := (1 : Int32)) hx hb dX2_valueIn_18 (by decide) ?_
      refine lv_iand hx hb dX2_valueIn_19 ?_
      refine lv_iconst (v := (1 : Int32)) hx hb dX2_valueIn_20 (by decide) ?_
      refine lv_icmp_ne (tgt := 35) hx hb dX2_valueIn_21 (by decide) (fun hq6 => ?_) (fun hq6 => ?_)
      · rw [if_neg hq6] at hf
        exact bX2_valueIn_35 C _ hrec6 n n0 hn0 x1 x2 x3 x4 _ hf _ _ hH hS _ (lv_sub hl [0, 1, 2, 3, 4] rfl)
      · rw [if_pos hq6] at hf
        refine lv_iload_n hx hb dX2_valueIn_24 rfl (lv_at hl 3 rfl) ?_
        refine lv_iconst (v := (1 : Int32)) hx hb dX2_valueIn_25 (by decide) ?_
        refine lv_ishl hx hb dX2_valueIn_26 ?_
        refine lv_iload_n hx hb dX2_valueIn_27 rfl (lv_at hl 1 rfl) ?_
        refine lv_iload hx hb dX2_valueIn_28 (lv_at hl 4 rfl) ?_
        refine lv_ishr hx hb dX2_valueIn_30 ?_
        refine lv_iconst (v := (1 : Int32)) hx hb dX2_valueIn_31 (by decide) ?_
        refine lv_iand hx hb dX2_valueIn_32 ?_
        refine lv_ior hx hb dX2_valueIn_33 ?_
        refine lv_istore_n (lv' := [(3, .int ((x3 <<< ((1 : Int32) &&& 31)) ||| ((x1 >>> (x4 &&& 31)) &&& (1 : Int32)))), (0, .ref (ad 7 n0)), (1, .int x1), (2, .int x2), (4, .int x4)]) hx hb dX2_valueIn_34 rfl hl (by decide) rfl (fun ls hl => ?_)
        exact bX2_valueIn_35 C _ hrec6 n n0 hn0 x1 x2 ((x3 <<< ((1 : Int32) &&& 31)) ||| ((x1 >>> (x4 &&& 31)) &&& (1 : Int32))) x4 _ hf _ _ hH hS _ (lv_sub hl [1, 2, 3, 0, 4] rfl)
set_option maxHeartbeats 4000000 in
set_option maxRecDepth 100000 in
theorem cX2_valueIn_k (l : Launch) (D : va_G) (ca : Nat → ClassId) (ad : Nat → Nat → Nat) (b0 : Nat) (hw : oa_W ad b0) (n : Nat) (n0 : Nat) (hn0 : n0 < oa_n 7) (x1 : Int32) (x2 : Int32) (M : oa_M) (o : Int32 × oa_M) (hf : FX2_valueIn n n0 x1 x2 M = some o) : oa_Mi l yX2_valueIn (oa_w yX2_valueIn cX2_valueIn 5 (some .int)) ({ frames := 2, cells := 0, slots := 0, locals := 40 } : Room) D ca ad b0 [.ref (ad 7 n0), .int x1, .int x2] M o.1 o.2 := by
  refine oa_ofW (cc := cX2_valueIn) (maxL := 5) (ret := some .int) (by decide) rfl (Nat.le_of_ble_eq_true rfl) ?_
  intro p e s m below meth c hx hb hml hr hlocks hown hts0 hP ls hl
  obtain ⟨hH, hE⟩ := hP
  have hts : ∀ w ∈ oa_T, w.before _ s = true := fun w h => hts0 w (List.mem_cons_of_mem _ h)
  have hS : va_S (fun q => b0 ≤ q) s.heap s.heap [] := va_S.rf
  have C : oa_Cx p s m _ meth c cX2_valueIn 5 (some .int) RX2 D ca b0 ad := ⟨hx, hb, hml, hr, hlocks, hown, hts, hE, hw⟩
  have hl : lv_has ls 5 [(0, .ref (ad 7 n0)), (1, .int x1), (2, .int x2)] := hl
  unfold FX2_valueIn at hf
  refine lv_iconst (v := (0 : Int32)) hx hb dX2_valueIn_0 (by decide) ?_
  refine lv_istore_n (lv' := [(3, .int (0 : Int32)), (0, .ref (ad 7 n0)), (1, .int x1), (2, .int x2)]) hx hb dX2_valueIn_1 rfl hl (by decide) rfl (fun ls hl => ?_)
  refine lv_bipush (v := (23 : Int32)) hx hb dX2_valueIn_2 (by decide) ?_
  refine lv_istore (lv' := [(4, .int (23 : Int32)), (3, .int (0 : Int32)), (0, .ref (ad 7 n0)), (1, .int x1), (2, .int x2)]) hx hb dX2_valueIn_4 hl (by decide) rfl (fun ls hl => ?_)
  exact bX2_valueIn_6 C n n0 hn0 x1 x2 (0 : Int32) (23 : Int32) _ hf _ _ hH hS _ (lv_sub hl [2, 3, 4, 1, 0] rfl)
theorem cX2_valueIn_ok (l : Launch) (D : va_G) (ca : Nat → ClassId) (ad : Nat → Nat → Nat) (b0 : Nat) (hw : oa_W ad b0) (n : Nat) (n0 : Nat) (hn0 : n0 < oa_n 7) (x1 : Int32) (x2 : Int32) (M : oa_M) (r : Int32) (M' : oa_M) (hf : FX2_valueIn n n0 x1 x2 M = some (r, M')) : oa_Mi l yX2_valueIn (oa_w yX2_valueIn cX2_valueIn 5 (some .int)) ({ frames := 2, cells := 0, slots := 0, locals := 40 } : Room) D ca ad b0 [.ref (ad 7 n0), .int x1, .int x2] M r M' := cX2_valueIn_k l D ca ad b0 hw n n0 hn0 x1 x2 M (r, M') hf
def BX2_reaches_58 (n : Nat) (n0 : Nat) (x1 : Int32) (x2 : Int32) (x3 : Int32) (x4 : Int32) (z0 : Int32) (M : oa_M) : Option (Int32 × oa_M) := (some (oa_nz z0, M))
def BX2_reaches_57 (n : Nat) (n0 : Nat) (x1 : Int32) (x2 : Int32) (x3 : Int32) (x4 : Int32) (M : oa_M) : Option (Int32 × oa_M) := (BX2_reaches_58 n n0 x1 x2 x3 x4 (0 : Int32) M)
def BX2_reaches_25 (n : Nat) (n0 : Nat) (x1 : Int32) (x2 : Int32) (x3 : Int32) (M : oa_M) : Option (Int32 × oa_M) := (some ((0 : Int32), M))
def FX2_reaches (n : Nat) (n0 : Nat) (x1 : Int32) (x2 : Int32) (M : oa_M) : Option (Int32 × oa_M) := (oa_bd (FX2_base n n0 x2 M) (fun r1 M2 => (if (M2 7 n0 3) < (1 : Int32) then (BX2_reaches_25 n n0 x1 x2 (x1 - r1) M2) else (if ¬ (M2 7 n0 3) = 0 then (if (oa_rem (x1 - r1) (M2 7 n0 3)) = 0 then (if ¬ (M2 7 n0 3) = 0 then (oa_bd (FX2_lowest n n0 M2) (fun r8 M9 => (if ((x1 - r1) / (M2 7 n0 3)) < r8 then (BX2_reaches_57 n n0 x1 x2 (x1 - r1) ((x1 - r1) / (M2 7 n0 3)) M9) else (oa_bd (FX2_highest n n0 M9) (fun r12 M13 => (if r12 < ((x1 - r1) / (M2 7 n0 3)) then (BX2_reaches_57 n n0 x1 x2 (x1 - r1) ((x1 - r1) / (M2 7 n0 3)) M13) else (BX2_reaches_58 n n0 x1 x2 (x1 - r1) ((x1 - r1) / (M2 7 n0 3)) (1 : Int32) M13))))))) else none) else (BX2_reaches_25 n n0 x1 x2 (x1 - r1) M2)) else none))))
set_option maxHeartbeats 4000000 in
set_option maxRecDepth 100000 in
theorem bX2_reaches_58 {p : Program} {l : Launch} {e : Env} {s : State} {m : MethodId} {args : Array Value} {below : List Frame} {meth : Method} {c : Code} {D : va_G} {ca : Nat → ClassId} {ad : Nat → Nat → Nat} {b0 : Nat} {o : Int32 × oa_M} (C : oa_Cx p s m args meth c cX2_reaches 5 (some .boolean) RX2 D ca b0 ad) : ∀ (n : Nat), ∀ (n0 : Nat) (hn0 : n0 < oa_n 7) (x1 : Int32) (x2 : Int32) (x3 : Int32) (x4 : Int32) (z0 : Int32) (M : oa_M), BX2_reaches_58 n n0 x1 x2 x3 x4 z0 M = some o → ∀ (H : Heap) (locs : List Loc), oa_H D ca ad M H → va_S (fun q => b0 ≤ q) s.heap H locs → ∀ (ls : Array Slot), lv_has ls 5 [(0, .ref (ad 7 n0)), (1, .int x1), (2, .int x2), (3, .int x3), (4, .int x4)] → W p l e ({ frames := 2, cells := 0, slots := 0, locals := 40 } : Room) s m args below meth c H locs 0 0 (MQ below (va_Qi (fun (r' : Int32) (u : oa_M) => r' = o.1 ∧ u = o.2) (fun u t => oa_H D ca ad u t.heap) (fun q => b0 ≤ q)) args s 0 0 (fun q => b0 ≤ q)) (F0 m 58 ls [.int z0]) := by
  obtain ⟨hx, hb, hml, hr, hlocks, hown, hts, hE, hw⟩ := id C
  intro n n0 hn0 x1 x2 x3 x4 z0 M hf H locs hH hS ls hl
  unfold BX2_reaches_58 at hf
  cases hf
  exact oa_reti hx hb hr hlocks rfl hS hH dX2_reaches_58
set_option maxHeartbeats 4000000 in
set_option maxRecDepth 100000 in
theorem bX2_reaches_57 {p : Program} {l : Launch} {e : Env} {s : State} {m : MethodId} {args : Array Value} {below : List Frame} {meth : Method} {c : Code} {D : va_G} {ca : Nat → ClassId} {ad : Nat → Nat → Nat} {b0 : Nat} {o : Int32 × oa_M} (C : oa_Cx p s m args meth c cX2_reaches 5 (some .boolean) RX2 D ca b0 ad) : ∀ (n : Nat), ∀ (n0 : Nat) (hn0 : n0 < oa_n 7) (x1 : Int32) (x2 : Int32) (x3 : Int32) (x4 : Int32) (M : oa_M), BX2_reaches_57 n n0 x1 x2 x3 x4 M = some o → ∀ (H : Heap) (locs : List Loc), oa_H D ca ad M H → va_S (fun q => b0 ≤ q) s.heap H locs → ∀ (ls : Array Slot), lv_has ls 5 [(0, .ref (ad 7 n0)), (1, .int x1), (2, .int x2), (3, .int x3), (4, .int x4)] → W p l e ({ frames := 2, cells := 0, slots := 0, locals := 40 } : Room) s m args below meth c H locs 0 0 (MQ below (va_Qi (fun (r' : Int32) (u : oa_M) => r' = o.1 ∧ u = o.2) (fun u t => oa_H D ca ad u t.heap) (fun q => b0 ≤ q)) args s 0 0 (fun q => b0 ≤ q)) (F0 m 57 ls []) := by
  obtain ⟨hx, hb, hml, hr, hlocks, hown, hts, hE, hw⟩ := id C
  intro n n0 hn0 x1 x2 x3 x4 M hf H locs hH hS ls hl
  unfold BX2_reaches_57 at hf
  refine lv_iconst (v := (0 : Int32)) hx hb dX2_reaches_57 (by decide) ?_
  exact bX2_reaches_58 C n n0 hn0 x1 x2 x3 x4 (0 : Int32) _ hf _ _ hH hS _ (lv_sub hl [0, 1, 2, 3, 4] rfl)
set_option maxHeartbeats 4000000 in
set_option maxRecDepth 100000 in
theorem bX2_reaches_25 {p : Program} {l : Launch} {e : Env} {s : State} {m : MethodId} {args : Array Value} {below : List Frame} {meth : Method} {c : Code} {D : va_G} {ca : Nat → ClassId} {ad : Nat → Nat → Nat} {b0 : Nat} {o : Int32 × oa_M} (C : oa_Cx p s m args meth c cX2_reaches 5 (some .boolean) RX2 D ca b0 ad) : ∀ (n : Nat), ∀ (n0 : Nat) (hn0 : n0 < oa_n 7) (x1 : Int32) (x2 : Int32) (x3 : Int32) (M : oa_M), BX2_reaches_25 n n0 x1 x2 x3 M = some o → ∀ (H : Heap) (locs : List Loc), oa_H D ca ad M H → va_S (fun q => b0 ≤ q) s.heap H locs → ∀ (ls : Array Slot), lv_has ls 5 [(0, .ref (ad 7 n0)), (1, .int x1), (2, .int x2), (3, .int x3)] → W p l e ({ frames := 2, cells := 0, slots := 0, locals := 40 } : Room) s m args below meth c H locs 0 0 (MQ below (va_Qi (fun (r' : Int32) (u : oa_M) => r' = o.1 ∧ u = o.2) (fun u t => oa_H D ca ad u t.heap) (fun q => b0 ≤ q)) args s 0 0 (fun q => b0 ≤ q)) (F0 m 25 ls []) := by
  obtain ⟨hx, hb, hml, hr, hlocks, hown, hts, hE, hw⟩ := id C
  intro n n0 hn0 x1 x2 x3 M hf H locs hH hS ls hl
  unfold BX2_reaches_25 at hf
  refine lv_iconst (v := (0 : Int32)) hx hb dX2_reaches_25 (by decide) ?_
  cases hf
  exact oa_reti hx hb hr hlocks rfl hS hH dX2_reaches_26
set_option maxHeartbeats 4000000 in
set_option maxRecDepth 100000 in
theorem cX2_reaches_k (l : Launch) (D : va_G) (ca : Nat → ClassId) (ad : Nat → Nat → Nat) (b0 : Nat) (hw : oa_W ad b0) (n : Nat) (n0 : Nat) (hn0 : n0 < oa_n 7) (x1 : Int32) (x2 : Int32) (M : oa_M) (o : Int32 × oa_M) (hf : FX2_reaches n n0 x1 x2 M = some o) : oa_Mi l yX2_reaches (oa_w yX2_reaches cX2_reaches 5 (some .boolean)) ({ frames := 2, cells := 0, slots := 0, locals := 40 } : Room) D ca ad b0 [.ref (ad 7 n0), .int x1, .int x2] M o.1 o.2 := by
  refine oa_ofW (cc := cX2_reaches) (maxL := 5) (ret := some .boolean) (by decide) rfl (Nat.le_of_ble_eq_true rfl) ?_
  intro p e s m below meth c hx hb hml hr hlocks hown hts0 hP ls hl
  obtain ⟨hH, hE⟩ := hP
  have hts : ∀ w ∈ oa_T, w.before _ s = true := fun w h => hts0 w (List.mem_cons_of_mem _ h)
  have hS : va_S (fun q => b0 ≤ q) s.heap s.heap [] := va_S.rf
  have C : oa_Cx p s m _ meth c cX2_reaches 5 (some .boolean) RX2 D ca b0 ad := ⟨hx, hb, hml, hr, hlocks, hown, hts, hE, hw⟩
  have hl : lv_has ls 5 [(0, .ref (ad 7 n0)), (1, .int x1), (2, .int x2)] := hl
  unfold FX2_reaches at hf
  refine lv_iload_n hx hb dX2_reaches_0 rfl (lv_at hl 1 rfl) ?_
  refine lv_aload_n hx hb dX2_reaches_1 rfl (lv_at hl 0 rfl) ?_
  refine lv_iload_n hx hb dX2_reaches_2 rfl (lv_at hl 2 rfl) ?_
  obtain ⟨r1, M2, hc3, hf⟩ := oa_bdE hf
  refine oa_cvi (As := [.int x2]) (rest := [.int x1]) ⟨hx, hb, hml, hown, hts⟩ (cX2_base_ok l D ca ad b0 hw n n0 hn0 x2 _ _ _ hc3) (cwV 1 hts (oa_gV tw_488 tw_489 tw_490 tw_47 tw_491) rfl rfl rfl (by decide +kernel) ⟨Nat.le_of_ble_eq_true rfl, Nat.le_of_ble_eq_true rfl⟩) hE hH hS (oa_recv (k := 7) (ci := 2) hE hH hn0 rfl rfl) rfl hl.1 rfl (Nat.le_of_ble_eq_true rfl) dX2_reaches_3 ⟨by decide, by decide⟩ (fun H locs hH hS => ?_)
  refine lv_isub hx hb dX2_reaches_6 ?_
  refine lv_istore_n (lv' := [(3, .int (x1 - r1)), (0, .ref (ad 7 n0)), (1, .int x1), (2, .int x2)]) hx hb dX2_reaches_7 rfl hl (by decide) rfl (fun ls hl => ?_)
  refine lv_aload_n hx hb dX2_reaches_8 rfl (lv_at hl 1 rfl) ?_
  refine oa_get (ci := 2) (C := RX2) (T := TX2) (N := 5) (v := .int (M2 7 n0 3)) hx hb hts inX2 hown hE hH 7 n0 hn0 rfl rfl 3 (by decide) (hts _ tw_105) rfl dX2_reaches_9 ?_
  refine lv_iconst (v := (1 : Int32)) hx hb dX2_reaches_12 (by decide) ?_
  refine lv_icmp_lt (tgt := 25) hx hb dX2_reaches_13 (by decide) (fun hq4 => ?_) (fun hq4 => ?_)
  · rw [if_pos hq4] at hf
    exact bX2_reaches_25 C n n0 hn0 x1 x2 (x1 - r1) _ hf _ _ hH hS _ (lv_sub hl [1, 2, 3, 0] rfl)
  · rw [if_neg hq4] at hf
    refine lv_iload_n hx hb dX2_reaches_16 rfl (lv_at hl 0 rfl) ?_
    refine lv_aload_n hx hb dX2_reaches_17 rfl (lv_at hl 1 rfl) ?_
    refine oa_get (ci := 2) (C := RX2) (T := TX2) (N := 5) (v := .int (M2 7 n0 3)) hx hb hts inX2 hown hE hH 7 n0 hn0 rfl rfl 3 (by decide) (hts _ tw_105) rfl dX2_reaches_18 ?_
    obtain ⟨hk5, hf⟩ := oa_ck hf
    refine lv_irem hx hb dX2_reaches_21 hk5 ?_
    refine lv_if_eq (tgt := 27) hx hb dX2_reaches_22 (by decide) (fun hq6 => ?_) (fun hq6 => ?_)
    · rw [if_pos hq6] at hf
      refine lv_iload_n hx hb dX2_reaches_27 rfl (lv_at hl 0 rfl) ?_
      refine lv_aload_n hx hb dX2_reaches_28 rfl (lv_at hl 1 rfl) ?_
      refine oa_get (ci := 2) (C := RX2) (T := TX2) (N := 5) (v := .int (M2 7 n0 3)) hx hb hts inX2 hown hE hH 7 n0 hn0 rfl rfl 3 (by decide) (hts _ tw_105) rfl dX2_reaches_29 ?_
      obtain ⟨hk7, hf⟩ := oa_ck hf
      refine lv_idiv hx hb dX2_reaches_32 hk7 ?_
      refine lv_istore (lv' := [(4, .int ((x1 - r1) / (M2 7 n0 3))), (3, .int (x1 - r1)), (0, .ref (ad 7 n0)), (1, .int x1), (2, .int x2)]) hx hb dX2_reaches_33 hl (by decide) rfl (fun ls hl => ?_)
      refine lv_iload hx hb dX2_reaches_35 (lv_at hl 0 rfl) ?_
      refine lv_aload_n hx hb dX2_reaches_37 rfl (lv_at hl 2 rfl) ?_
      obtain ⟨r8, M9, hc10, hf⟩ := oa_bdE hf
      refine oa_cvi (As := []) (rest := [.int ((x1 - r1) / (M2 7 n0 3))]) ⟨hx, hb, hml, hown, hts⟩ (cX2_lowest_ok l D ca ad b0 hw n n0 hn0 _ _ _ hc10) (cwV 0 hts (oa_gV tw_484 tw_485 tw_486 tw_47 tw_487) rfl rfl rfl (by decide +kernel) ⟨Nat.le_of_ble_eq_true rfl, Nat.le_of_ble_eq_true rfl⟩) hE hH hS (oa_recv (k := 7) (ci := 2) hE hH hn0 rfl rfl) rfl hl.1 rfl (Nat.le_of_ble_eq_true rfl) dX2_reaches_38 ⟨by decide, by decide⟩ (fun H locs hH hS => ?_)
      refine lv_icmp_lt (tgt := 57) hx hb dX2_reaches_41 (by decide) (fun hq11 => ?_) (fun hq11 => ?_)
      · rw [if_pos hq11] at hf
        exact bX2_reaches_57 C n n0 hn0 x1 x2 (x1 - r1) ((x1 - r1) / (M2 7 n0 3)) _ hf _ _ hH hS _ (lv_sub hl [2, 3, 4, 1, 0] rfl)
      · rw [if_neg hq11] at hf
        refine lv_iload hx hb dX2_reaches_44 (lv_at hl 0 rfl) ?_
        refine lv_aload_n hx hb dX2_reaches_46 rfl (lv_at hl 2 rfl) ?_
        obtain ⟨r12, M13, hc14, hf⟩ := oa_bdE hf
        refine oa_cvi (As := []) (rest := [.int ((x1 - r1) / (M2 7 n0 3))]) ⟨hx, hb, hml, hown, hts⟩ (cX2_highest_ok l D ca ad b0 hw n n0 hn0 _ _ _ hc14) (cwV 0 hts (oa_gV tw_480 tw_481 tw_482 tw_47 tw_483) rfl rfl rfl (by decide +kernel) ⟨Nat.le_of_ble_eq_true rfl, Nat.le_of_ble_eq_true rfl⟩) hE hH hS (oa_recv (k := 7) (ci := 2) hE hH hn0 rfl rfl) rfl hl.1 rfl (Nat.le_of_ble_eq_true rfl) dX2_reaches_47 ⟨by decide, by decide⟩ (fun H locs hH hS => ?_)
        refine lv_icmp_gt (tgt := 57) hx hb dX2_reaches_50 (by decide) (fun hq15 => ?_) (fun hq15 => ?_)
        · rw [if_pos hq15] at hf
          exact bX2_reaches_57 C n n0 hn0 x1 x2 (x1 - r1) ((x1 - r1) / (M2 7 n0 3)) _ hf _ _ hH hS _ (lv_sub hl [2, 3, 4, 1, 0] rfl)
        · rw [if_neg hq15] at hf
          refine lv_iconst (v := (1 : Int32)) hx hb dX2_reaches_53 (by decide) ?_
          refine lv_goto (tgt := 58) hx hb dX2_reaches_54 (by decide) ?_
          exact bX2_reaches_58 C n n0 hn0 x1 x2 (x1 - r1) ((x1 - r1) / (M2 7 n0 3)) (1 : Int32) _ hf _ _ hH hS _ (lv_sub hl [2, 3, 4, 1, 0] rfl)
    · rw [if_neg hq6] at hf
      exact bX2_reaches_25 C n n0 hn0 x1 x2 (x1 - r1) _ hf _ _ hH hS _ (lv_sub hl [1, 2, 3, 0] rfl)
theorem cX2_reaches_ok (l : Launch) (D : va_G) (ca : Nat → ClassId) (ad : Nat → Nat → Nat) (b0 : Nat) (hw : oa_W ad b0) (n : Nat) (n0 : Nat) (hn0 : n0 < oa_n 7) (x1 : Int32) (x2 : Int32) (M : oa_M) (r : Int32) (M' : oa_M) (hf : FX2_reaches n n0 x1 x2 M = some (r, M')) : oa_Mi l yX2_reaches (oa_w yX2_reaches cX2_reaches 5 (some .boolean)) ({ frames := 2, cells := 0, slots := 0, locals := 40 } : Room) D ca ad b0 [.ref (ad 7 n0), .int x1, .int x2] M r M' := cX2_reaches_k l D ca ad b0 hw n n0 hn0 x1 x2 M (r, M') hf
def BX2_bitsFor_66 (rec31 : Nat → Int32 → Int32 → Int32 → Int32 → Int32 → oa_M → Option (Int32 × oa_M)) (n : Nat) (n0 : Nat) (x1 : Int32) (x2 : Int32) (x3 : Int32) (x4 : Int32) (x5 : Int32) (M : oa_M) : Option (Int32 × oa_M) := (rec31 n0 x1 x2 x3 x4 (x5 + (1 : Int32)) M)
def BX2_bitsFor_31 : Nat → Nat → Int32 → Int32 → Int32 → Int32 → Int32 → oa_M → Option (Int32 × oa_M)
  | 0, _, _, _, _, _, _, _ => none
  | n + 1, n0, x1, x2, x3, x4, x5, M => (if (24 : Int32) ≤ x5 then (some (x4, M)) else (if (((M 7 n0 0) >>> (x5 &&& 31)) &&& (1 : Int32)) = (1 : Int32) then (BX2_bitsFor_66 (BX2_bitsFor_31 n) n n0 x1 x2 (x3 >>> ((1 : Int32) &&& 31)) (x4 ||| ((x3 &&& (1 : Int32)) <<< (x5 &&& 31))) x5 M) else (BX2_bitsFor_66 (BX2_bitsFor_31 n) n n0 x1 x2 x3 x4 x5 M)))
def BX2_bitsFor_24 (n : Nat) (n0 : Nat) (x1 : Int32) (x2 : Int32) (z0 : Int32) (M : oa_M) : Option (Int32 × oa_M) := (BX2_bitsFor_31 n n0 x1 x2 z0 (0 : Int32) (0 : Int32) M)
def FX2_bitsFor (n : Nat) (n0 : Nat) (x1 : Int32) (x2 : Int32) (M : oa_M) : Option (Int32 × oa_M) := (if (1 : Int32) ≤ (M 7 n0 3) then (oa_bd (FX2_base n n0 x2 M) (fun r2 M3 => (if ¬ (M3 7 n0 3) = 0 then (BX2_bitsFor_24 n n0 x1 x2 ((x1 - r2) / (M3 7 n0 3)) M3) else none))) else (BX2_bitsFor_24 n n0 x1 x2 (0 : Int32) M))
set_option maxHeartbeats 4000000 in
set_option maxRecDepth 100000 in
theorem bX2_bitsFor_66 {p : Program} {l : Launch} {e : Env} {s : State} {m : MethodId} {args : Array Value} {below : List Frame} {meth : Method} {c : Code} {D : va_G} {ca : Nat → ClassId} {ad : Nat → Nat → Nat} {b0 : Nat} {o : Int32 × oa_M} (C : oa_Cx p s m args meth c cX2_bitsFor 6 (some .int) RX2 D ca b0 ad) (rec31 : Nat → Int32 → Int32 → Int32 → Int32 → Int32 → oa_M → Option (Int32 × oa_M)) (hrec31 : ∀ (n0 : Nat) (hn0 : n0 < oa_n 7) (x1 : Int32) (x2 : Int32) (x3 : Int32) (x4 : Int32) (x5 : Int32) (M : oa_M), rec31 n0 x1 x2 x3 x4 x5 M = some o → ∀ (H : Heap) (locs : List Loc), oa_H D ca ad M H → va_S (fun q => b0 ≤ q) s.heap H locs → ∀ (ls : Array Slot), lv_has ls 6 [(0, .ref (ad 7 n0)), (1, .int x1), (2, .int x2), (3, .int x3), (4, .int x4), (5, .int x5)] → W p l e ({ frames := 1, cells := 0, slots := 0, locals := 21 } : Room) s m args below meth c H locs 0 0 (MQ below (va_Qi (fun (r' : Int32) (u : oa_M) => r' = o.1 ∧ u = o.2) (fun u t => oa_H D ca ad u t.heap) (fun q => b0 ≤ q)) args s 0 0 (fun q => b0 ≤ q)) (F0 m 31 ls [])) : ∀ (n : Nat), ∀ (n0 : Nat) (hn0 : n0 < oa_n 7) (x1 : Int32) (x2 : Int32) (x3 : Int32) (x4 : Int32) (x5 : Int32) (M : oa_M), BX2_bitsFor_66 rec31 n n0 x1 x2 x3 x4 x5 M = some o → ∀ (H : Heap) (locs : List Loc), oa_H D ca ad M H → va_S (fun q => b0 ≤ q) s.heap H locs → ∀ (ls : Array Slot), lv_has ls 6 [(0, .ref (ad 7 n0)), (1, .int x1), (2, .int x2), (3, .int x3), (4, .int x4), (5, .int x5)] → W p l e ({ frames := 1, cells := 0, slots := 0, locals := 21 } : Room) s m args below meth c H locs 0 0 (MQ below (va_Qi (fun (r' : Int32) (u : oa_M) => r' = o.1 ∧ u = o.2) (fun u t => oa_H D ca ad u t.heap) (fun q => b0 ≤ q)) args s 0 0 (fun q => b0 ≤ q)) (F0 m 66 ls []) := by
  obtain ⟨hx, hb, hml, hr, hlocks, hown, hts, hE, hw⟩ := id C
  intro n n0 hn0 x1 x2 x3 x4 x5 M hf H locs hH hS ls hl
  unfold BX2_bitsFor_66 at hf
  refine lv_iinc (v := (x5 + (1 : Int32))) (lv' := [(5, .int (x5 + (1 : Int32))), (0, .ref (ad 7 n0)), (1, .int x1), (2, .int x2), (3, .int x3), (4, .int x4)]) hx hb dX2_bitsFor_66 hl (k := 5) rfl rfl (by decide) rfl (fun ls hl => ?_)
  refine lv_goto (tgt := 31) hx hb dX2_bitsFor_69 (by decide) ?_
  exact hrec31 n0 hn0 x1 x2 x3 x4 (x5 + (1 : Int32)) _ hf _ _ hH hS _ (lv_sub hl [1, 2, 3, 4, 5, 0] rfl)
set_option maxHeartbeats 4000000 in
set_option maxRecDepth 100000 in
theorem bX2_bitsFor_31 {p : Program} {l : Launch} {e : Env} {s : State} {m : MethodId} {args : Array Value} {below : List Frame} {meth : Method} {c : Code} {D : va_G} {ca : Nat → ClassId} {ad : Nat → Nat → Nat} {b0 : Nat} {o : Int32 × oa_M} (C : oa_Cx p s m args meth c cX2_bitsFor 6 (some .int) RX2 D ca b0 ad) : ∀ (n : Nat), ∀ (n0 : Nat) (hn0 : n0 < oa_n 7) (x1 : Int32) (x2 : Int32) (x3 : Int32) (x4 : Int32) (x5 : Int32) (M : oa_M), BX2_bitsFor_31 n n0 x1 x2 x3 x4 x5 M = some o → ∀ (H : Heap) (locs : List Loc), oa_H D ca ad M H → va_S (fun q => b0 ≤ q) s.heap H locs → ∀ (ls : Array Slot), lv_has ls 6 [(0, .ref (ad 7 n0)), (1, .int x1), (2, .int x2), (3, .int x3), (4, .int x4), (5, .int x5)] → W p l e ({ frames := 1, cells := 0, slots := 0, locals := 21 } : Room) s m args below meth c H locs 0 0 (MQ below (va_Qi (fun (r' : Int32) (u : oa_M) => r' = o.1 ∧ u = o.2) (fun u t => oa_H D ca ad u t.heap) (fun q => b0 ≤ q)) args s 0 0 (fun q => b0 ≤ q)) (F0 m 31 ls []) := by
  obtain ⟨hx, hb, hml, hr, hlocks, hown, hts, hE, hw⟩ := id C
  intro n
  induction n with
  | zero => intro n0 hn0 x1 x2 x3 x4 x5 M hf; cases hf
  | succ n ih =>
    intro n0 hn0 x1 x2 x3 x4 x5 M hf H locs hH hS ls hl
    have hrec31 := ih
    unfold BX2_bitsFor_31 at hf
    refine lv_iload hx hb dX2_bitsFor_31 (lv_at hl 5 rfl) ?_
    refine lv_bipush (v := (24 : Int32)) hx hb dX2_bitsFor_33 (by decide) ?_
    refine lv_icmp_ge (tgt := 72) hx hb dX2_bitsFor_35 (by decide) (fun hq1 => ?_) (fun hq1 => ?_)
    · rw [if_pos hq1] at hf
      refine lv_iload hx hb dX2_bitsFor_72 (lv_at hl 4 rfl) ?_
      cases hf
      exact oa_reti hx hb hr hlocks rfl hS hH dX2_bitsFor_74
    · rw [if_neg hq1] at hf
      refine lv_aload_n hx hb dX2_bitsFor_38 rfl (lv_at hl 0 rfl) ?_
      refine oa_get (ci := 2) (C := RX2) (T := TX2) (N := 5) (v := .int (M 7 n0 0)) hx hb hts inX2 hown hE hH 7 n0 hn0 rfl rfl 0 (by decide) (hts _ tw_99) rfl dX2_bitsFor_39 ?_
      refine lv_iload hx hb dX2_bitsFor_42 (lv_at hl 5 rfl) ?_
      refine lv_ishr hx hb dX2_bitsFor_44 ?_
      refine lv_iconst (v := (1 : Int32)) hx hb dX2_bitsFor_45 (by decide) ?_
      refine lv_iand hx hb dX2_bitsFor_46 ?_
      refine lv_iconst (v := (1 : Int32)) hx hb dX2_bitsFor_47 (by decide) ?_
      refine lv_icmp_ne (tgt := 66) hx hb dX2_bitsFor_48 (by decide) (fun hq2 => ?_) (fun hq2 => ?_)
      · rw [if_neg hq2] at hf
        exact bX2_bitsFor_66 C _ hrec31 n n0 hn0 x1 x2 x3 x4 x5 _ hf _ _ hH hS _ (lv_sub hl [0, 1, 2, 3, 4, 5] rfl)
      · rw [if_pos hq2] at hf
        refine lv_iload hx hb dX2_bitsFor_51 (lv_at hl 4 rfl) ?_
        refine lv_iload_n hx hb dX2_bitsFor_53 rfl (lv_at hl 3 rfl) ?_
        refine lv_iconst (v := (1 : Int32)) hx hb dX2_bitsFor_54 (by decide) ?_
        refine lv_iand hx hb dX2_bitsFor_55 ?_
        refine lv_iload hx hb dX2_bitsFor_56 (lv_at hl 5 rfl) ?_
        refine lv_ishl hx hb dX2_bitsFor_58 ?_
        refine lv_ior hx hb dX2_bitsFor_59 ?_
        refine lv_istore (lv' := [(4, .int (x4 ||| ((x3 &&& (1 : Int32)) <<< (x5 &&& 31)))), (0, .ref (ad 7 n0)), (1, .int x1), (2, .int x2), (3, .int x3), (5, .int x5)]) hx hb dX2_bitsFor_60 hl (by decide) rfl (fun ls hl => ?_)
        refine lv_iload_n hx hb dX2_bitsFor_62 rfl (lv_at hl 4 rfl) ?_
        refine lv_iconst (v := (1 : Int32)) hx hb dX2_bitsFor_63 (by decide) ?_
        refine lv_ishr hx hb dX2_bitsFor_64 ?_
        refine lv_istore_n (lv' := [(3, .int (x3 >>> ((1 : Int32) &&& 31))), (4, .int (x4 ||| ((x3 &&& (1 : Int32)) <<< (x5 &&& 31)))), (0, .ref (ad 7 n0)), (1, .int x1), (2, .int x2), (5, .int x5)]) hx hb dX2_bitsFor_65 rfl hl (by decide) rfl (fun ls hl => ?_)
        exact bX2_bitsFor_66 C _ hrec31 n n0 hn0 x1 x2 (x3 >>> ((1 : Int32) &&& 31)) (x4 ||| ((x3 &&& (1 : Int32)) <<< (x5 &&& 31))) x5 _ hf _ _ hH hS _ (lv_sub hl [2, 3, 4, 0, 1, 5] rfl)
set_option maxHeartbeats 4000000 in
set_option maxRecDepth 100000 in
theorem bX2_bitsFor_24 {p : Program} {l : Launch} {e : Env} {s : State} {m : MethodId} {args : Array Value} {below : List Frame} {meth : Method} {c : Code} {D : va_G} {ca : Nat → ClassId} {ad : Nat → Nat → Nat} {b0 : Nat} {o : Int32 × oa_M} (C : oa_Cx p s m args meth c cX2_bitsFor 6 (some .int) RX2 D ca b0 ad) : ∀ (n : Nat), ∀ (n0 : Nat) (hn0 : n0 < oa_n 7) (x1 : Int32) (x2 : Int32) (z0 : Int32) (M : oa_M), BX2_bitsFor_24 n n0 x1 x2 z0 M = some o → ∀ (H : Heap) (locs : List Loc), oa_H D ca ad M H → va_S (fun q => b0 ≤ q) s.heap H locs → ∀ (ls : Array Slot), lv_has ls 6 [(0, .ref (ad 7 n0)), (1, .int x1), (2, .int x2)] → W p l e ({ frames := 1, cells := 0, slots := 0, locals := 21 } : Room) s m args below meth c H locs 0 0 (MQ below (va_Qi (fun (r' : Int32) (u : oa_M) => r' = o.1 ∧ u = o.2) (fun u t => oa_H D ca ad u t.heap) (fun q => b0 ≤ q)) args s 0 0 (fun q => b0 ≤ q)) (F0 m 24 ls [.int z0]) := by
  obtain ⟨hx, hb, hml, hr, hlocks, hown, hts, hE, hw⟩ := id C
  intro n n0 hn0 x1 x2 z0 M hf H locs hH hS ls hl
  unfold BX2_bitsFor_24 at hf
  refine lv_istore_n (lv' := [(3, .int z0), (0, .ref (ad 7 n0)), (1, .int x1), (2, .int x2)]) hx hb dX2_bitsFor_24 rfl hl (by decide) rfl (fun ls hl => ?_)
  refine lv_iconst (v := (0 : Int32)) hx hb dX2_bitsFor_25 (by decide) ?_
  refine lv_istore (lv' := [(4, .int (0 : Int32)), (3, .int z0), (0, .ref (ad 7 n0)), (1, .int x1), (2, .int x2)]) hx hb dX2_bitsFor_26 hl (by decide) rfl (fun ls hl => ?_)
  refine lv_iconst (v := (0 : Int32)) hx hb dX2_bitsFor_28 (by decide) ?_
  refine lv_istore (lv' := [(5, .int (0 : Int32)), (4, .int (0 : Int32)), (3, .int z0), (0, .ref (ad 7 n0)), (1, .int x1), (2, .int x2)]) hx hb dX2_bitsFor_29 hl (by decide) rfl (fun ls hl => ?_)
  exact bX2_bitsFor_31 C n n0 hn0 x1 x2 z0 (0 : Int32) (0 : Int32) _ hf _ _ hH hS _ (lv_sub hl [3, 4, 5, 2, 1, 0] rfl)
set_option maxHeartbeats 4000000 in
set_option maxRecDepth 100000 in
theorem cX2_bitsFor_k (l : Launch) (D : va_G) (ca : Nat → ClassId) (ad : Nat → Nat → Nat) (b0 : Nat) (hw : oa_W ad b0) (n : Nat) (n0 : Nat) (hn0 : n0 < oa_n 7) (x1 : Int32) (x2 : Int32) (M : oa_M) (o : Int32 × oa_M) (hf : FX2_bitsFor n n0 x1 x2 M = some o) : oa_Mi l yX2_bitsFor (oa_w yX2_bitsFor cX2_bitsFor 6 (some .int)) ({ frames := 1, cells := 0, slots := 0, locals := 21 } : Room) D ca ad b0 [.ref (ad 7 n0), .int x1, .int x2] M o.1 o.2 := by
  refine oa_ofW (cc := cX2_bitsFor) (maxL := 6) (ret := some .int) (by decide) rfl (Nat.le_of_ble_eq_true rfl) ?_
  intro p e s m below meth c hx hb hml hr hlocks hown hts0 hP ls hl
  obtain ⟨hH, hE⟩ := hP
  have hts : ∀ w ∈ oa_T, w.before _ s = true := fun w h => hts0 w (List.mem_cons_of_mem _ h)
  have hS : va_S (fun q => b0 ≤ q) s.heap s.heap [] := va_S.rf
  have C : oa_Cx p s m _ meth c cX2_bitsFor 6 (some .int) RX2 D ca b0 ad := ⟨hx, hb, hml, hr, hlocks, hown, hts, hE, hw⟩
  have hl : lv_has ls 6 [(0, .ref (ad 7 n0)), (1, .int x1), (2, .int x2)] := hl
  unfold FX2_bitsFor at hf
  refine lv_aload_n hx hb dX2_bitsFor_0 rfl (lv_at hl 0 rfl) ?_
  refine oa_get (ci := 2) (C := RX2) (T := TX2) (N := 5) (v := .int (M 7 n0 3)) hx hb hts inX2 hown hE hH 7 n0 hn0 rfl rfl 3 (by decide) (hts _ tw_105) rfl dX2_bitsFor_1 ?_
  refine lv_iconst (v := (1 : Int32)) hx hb dX2_bitsFor_4 (by decide) ?_
  refine lv_icmp_ge (tgt := 12) hx hb dX2_bitsFor_5 (by decide) (fun hq1 => ?_) (fun hq1 => ?_)
  · rw [if_pos hq1] at hf
    refine lv_iload_n hx hb dX2_bitsFor_12 rfl (lv_at hl 1 rfl) ?_
    refine lv_aload_n hx hb dX2_bitsFor_13 rfl (lv_at hl 0 rfl) ?_
    refine lv_iload_n hx hb dX2_bitsFor_14 rfl (lv_at hl 2 rfl) ?_
    obtain ⟨r2, M3, hc4, hf⟩ := oa_bdE hf
    refine oa_cvi (As := [.int x2]) (rest := [.int x1]) ⟨hx, hb, hml, hown, hts⟩ (cX2_base_ok l D ca ad b0 hw n n0 hn0 x2 _ _ _ hc4) (cwV 1 hts (oa_gV tw_488 tw_489 tw_490 tw_47 tw_491) rfl rfl rfl (by decide +kernel) ⟨Nat.le_of_ble_eq_true rfl, Nat.le_of_ble_eq_true rfl⟩) hE hH hS (oa_recv (k := 7) (ci := 2) hE hH hn0 rfl rfl) rfl hl.1 rfl (Nat.le_of_ble_eq_true rfl) dX2_bitsFor_15 ⟨by decide, by decide⟩ (fun H locs hH hS => ?_)
    refine lv_isub hx hb dX2_bitsFor_18 ?_
    refine lv_aload_n hx hb dX2_bitsFor_19 rfl (lv_at hl 0 rfl) ?_
    refine oa_get (ci := 2) (C := RX2) (T := TX2) (N := 5) (v := .int (M3 7 n0 3)) hx hb hts inX2 hown hE hH 7 n0 hn0 rfl rfl 3 (by decide) (hts _ tw_105) rfl dX2_bitsFor_20 ?_
    obtain ⟨hk5, hf⟩ := oa_ck hf
    refine lv_idiv hx hb dX2_bitsFor_23 hk5 ?_
    exact bX2_bitsFor_24 C n n0 hn0 x1 x2 ((x1 - r2) / (M3 7 n0 3)) _ hf _ _ hH hS _ (lv_sub hl [0, 1, 2] rfl)
  · rw [if_neg hq1] at hf
    refine lv_iconst (v := (0 : Int32)) hx hb dX2_bitsFor_8 (by decide) ?_
    refine lv_goto (tgt := 24) hx hb dX2_bitsFor_9 (by decide) ?_
    exact bX2_bitsFor_24 C n n0 hn0 x1 x2 (0 : Int32) _ hf _ _ hH hS _ (lv_sub hl [0, 1, 2] rfl)
theorem cX2_bitsFor_ok (l : Launch) (D : va_G) (ca : Nat → ClassId) (ad : Nat → Nat → Nat) (b0 : Nat) (hw : oa_W ad b0) (n : Nat) (n0 : Nat) (hn0 : n0 < oa_n 7) (x1 : Int32) (x2 : Int32) (M : oa_M) (r : Int32) (M' : oa_M) (hf : FX2_bitsFor n n0 x1 x2 M = some (r, M')) : oa_Mi l yX2_bitsFor (oa_w yX2_bitsFor cX2_bitsFor 6 (some .int)) ({ frames := 1, cells := 0, slots := 0, locals := 21 } : Room) D ca ad b0 [.ref (ad 7 n0), .int x1, .int x2] M r M' := cX2_bitsFor_k l D ca ad b0 hw n n0 hn0 x1 x2 M (r, M') hf

def FX3_add (n : Nat) (n0 : Nat) (x1 : Int32) (M : oa_M) : Option (Int32 × oa_M) := (if (M 1 n0 1) < (40 : Int32) then (if oa_in (M 1 n0 1) 40 = true then (some ((1 : Int32), (oa_up (oa_up M 2 n0 (M 1 n0 1).toNatClampNeg (vp_nar .char x1)) 1 n0 1 ((M 1 n0 1) + (1 : Int32))))) else none) else (some ((0 : Int32), M)))
set_option maxHeartbeats 4000000 in
set_option maxRecDepth 100000 in
theorem cX3_add_k (l : Launch) (D : va_G) (ca : Nat → ClassId) (ad : Nat → Nat → Nat) (b0 : Nat) (hw : oa_W ad b0) (n : Nat) (n0 : Nat) (hn0 : n0 < oa_n 1) (x1 : Int32) (M : oa_M) (o : Int32 × oa_M) (hf : FX3_add n n0 x1 M = some o) : oa_Mi l yX3_add (oa_w yX3_add cX3_add 2 (some .boolean)) ({ frames := 0, cells := 0, slots := 0, locals := 0 } : Room) D ca ad b0 [.ref (ad 1 n0), .int x1] M o.1 o.2 := by
  refine oa_ofW (cc := cX3_add) (maxL := 2) (ret := some .boolean) (by decide) rfl (Nat.le_of_ble_eq_true rfl) ?_
  intro p e s m below meth c hx hb hml hr hlocks hown hts0 hP ls hl
  obtain ⟨hH, hE⟩ := hP
  have hts : ∀ w ∈ oa_T, w.before _ s = true := fun w h => hts0 w (List.mem_cons_of_mem _ h)
  have hS : va_S (fun q => b0 ≤ q) s.heap s.heap [] := va_S.rf
  have C : oa_Cx p s m _ meth c cX3_add 2 (some .boolean) RX3 D ca b0 ad := ⟨hx, hb, hml, hr, hlocks, hown, hts, hE, hw⟩
  have hl : lv_has ls 2 [(0, .ref (ad 1 n0)), (1, .int x1)] := hl
  unfold FX3_add at hf
  refine lv_aload_n hx hb dX3_add_0 rfl (lv_at hl 0 rfl) ?_
  refine oa_get (ci := 3) (C := RX3) (T := TX3) (N := 3) (v := .int (M 1 n0 1)) hx hb hts inX3 hown hE hH 1 n0 hn0 rfl rfl 1 (by decide) (hts _ tw_73) rfl dX3_add_1 ?_
  refine lv_aload_n hx hb dX3_add_4 rfl (lv_at hl 0 rfl) ?_
  refine oa_get (ci := 3) (C := RX3) (T := TX3) (N := 3) (v := .ref (ad 2 n0)) hx hb hts inX3 hown hE hH 1 n0 hn0 rfl rfl 0 (by decide) (hts _ tw_72) rfl dX3_add_5 ?_
  refine oa_len (v := (40 : Int32)) hx hb hE hH 2 n0 hn0 0 rfl rfl rfl dX3_add_8 ?_
  refine lv_icmp_lt (tgt := 14) hx hb dX3_add_9 (by decide) (fun hq1 => ?_) (fun hq1 => ?_)
  · rw [if_pos hq1] at hf
    refine lv_aload_n hx hb dX3_add_14 rfl (lv_at hl 0 rfl) ?_
    refine oa_get (ci := 3) (C := RX3) (T := TX3) (N := 3) (v := .ref (ad 2 n0)) hx hb hts inX3 hown hE hH 1 n0 hn0 rfl rfl 0 (by decide) (hts _ tw_72) rfl dX3_add_15 ?_
    refine lv_aload_n hx hb dX3_add_18 rfl (lv_at hl 0 rfl) ?_
    refine oa_get (ci := 3) (C := RX3) (T := TX3) (N := 3) (v := .int (M 1 n0 1)) hx hb hts inX3 hown hE hH 1 n0 hn0 rfl rfl 1 (by decide) (hts _ tw_73) rfl dX3_add_19 ?_
    refine lv_iload_n hx hb dX3_add_22 rfl (lv_at hl 1 rfl) ?_
    obtain ⟨hk2, hf⟩ := oa_ck hf
    refine oa_cst hx hb hE hw hH hS 2 n0 hn0 40 (fun _ => rfl) (oa_in_vp hk2) dX3_add_23 (fun H locs hH hS => ?_)
    refine lv_aload_n hx hb dX3_add_24 rfl (lv_at hl 0 rfl) ?_
    refine lv_dup hx hb dX3_add_25 rfl ?_
    refine oa_get (ci := 3) (C := RX3) (T := TX3) (N := 3) (v := .int (M 1 n0 1)) hx hb hts inX3 hown hE hH 1 n0 hn0 rfl rfl 1 (by decide) (hts _ tw_73) rfl dX3_add_26 ?_
    refine lv_iconst (v := (1 : Int32)) hx hb dX3_add_29 (by decide) ?_
    refine lv_iadd hx hb dX3_add_30 ?_
    refine oa_put (ci := 3) (C := RX3) (T := TX3) (N := 3) (v := .int ((M 1 n0 1) + (1 : Int32))) (x := ((M 1 n0 1) + (1 : Int32))) hx hb hts inX3 tyX3 tyX3_ok nmX3 hown hE hw hH hS 1 n0 hn0 rfl rfl 1 (by decide) (hts _ tw_73) rfl rfl rfl (Nat.le_of_ble_eq_true rfl) rfl dX3_add_31 (fun H locs hH hS => ?_)
    refine lv_iconst (v := (1 : Int32)) hx hb dX3_add_34 (by decide) ?_
    cases hf
    exact oa_reti hx hb hr hlocks rfl hS hH dX3_add_35
  · rw [if_neg hq1] at hf
    refine lv_iconst (v := (0 : Int32)) hx hb dX3_add_12 (by decide) ?_
    cases hf
    exact oa_reti hx hb hr hlocks rfl hS hH dX3_add_13
theorem cX3_add_ok (l : Launch) (D : va_G) (ca : Nat → ClassId) (ad : Nat → Nat → Nat) (b0 : Nat) (hw : oa_W ad b0) (n : Nat) (n0 : Nat) (hn0 : n0 < oa_n 1) (x1 : Int32) (M : oa_M) (r : Int32) (M' : oa_M) (hf : FX3_add n n0 x1 M = some (r, M')) : oa_Mi l yX3_add (oa_w yX3_add cX3_add 2 (some .boolean)) ({ frames := 0, cells := 0, slots := 0, locals := 0 } : Room) D ca ad b0 [.ref (ad 1 n0), .int x1] M r M' := cX3_add_k l D ca ad b0 hw n n0 hn0 x1 M (r, M') hf
def BX3_nextIsWithin_42 (n : Nat) (n0 : Nat) (x1 : Int32) (x2 : Int32) (z0 : Int32) (M : oa_M) : Option (Int32 × oa_M) := (some (oa_nz z0, M))
def BX3_nextIsWithin_41 (n : Nat) (n0 : Nat) (x1 : Int32) (x2 : Int32) (M : oa_M) : Option (Int32 × oa_M) := (BX3_nextIsWithin_42 n n0 x1 x2 (0 : Int32) M)
def FX3_nextIsWithin (n : Nat) (n0 : Nat) (x1 : Int32) (x2 : Int32) (M : oa_M) : Option (Int32 × oa_M) := (if (M 1 n0 1) ≤ (M 1 n0 2) then (BX3_nextIsWithin_41 n n0 x1 x2 M) else (if oa_in (M 1 n0 2) 40 = true then (if (M 2 n0 (M 1 n0 2).toNatClampNeg) < x1 then (BX3_nextIsWithin_41 n n0 x1 x2 M) else (if oa_in (M 1 n0 2) 40 = true then (if x2 < (M 2 n0 (M 1 n0 2).toNatClampNeg) then (BX3_nextIsWithin_41 n n0 x1 x2 M) else (BX3_nextIsWithin_42 n n0 x1 x2 (1 : Int32) M)) else none)) else none))
set_option maxHeartbeats 4000000 in
set_option maxRecDepth 100000 in
theorem bX3_nextIsWithin_42 {p : Program} {l : Launch} {e : Env} {s : State} {m : MethodId} {args : Array Value} {below : List Frame} {meth : Method} {c : Code} {D : va_G} {ca : Nat → ClassId} {ad : Nat → Nat → Nat} {b0 : Nat} {o : Int32 × oa_M} (C : oa_Cx p s m args meth c cX3_nextIsWithin 3 (some .boolean) RX3 D ca b0 ad) : ∀ (n : Nat), ∀ (n0 : Nat) (hn0 : n0 < oa_n 1) (x1 : Int32) (x2 : Int32) (z0 : Int32) (M : oa_M), BX3_nextIsWithin_42 n n0 x1 x2 z0 M = some o → ∀ (H : Heap) (locs : List Loc), oa_H D ca ad M H → va_S (fun q => b0 ≤ q) s.heap H locs → ∀ (ls : Array Slot), lv_has ls 3 [(0, .ref (ad 1 n0)), (1, .int x1), (2, .int x2)] → W p l e ({ frames := 0, cells := 0, slots := 0, locals := 0 } : Room) s m args below meth c H locs 0 0 (MQ below (va_Qi (fun (r' : Int32) (u : oa_M) => r' = o.1 ∧ u = o.2) (fun u t => oa_H D ca ad u t.heap) (fun q => b0 ≤ q)) args s 0 0 (fun q => b0 ≤ q)) (F0 m 42 ls [.int z0]) := by
  obtain ⟨hx, hb, hml, hr, hlocks, hown, hts, hE, hw⟩ := id C
  intro n n0 hn0 x1 x2 z0 M hf H locs hH hS ls hl
  unfold BX3_nextIsWithin_42 at hf
  cases hf
  exact oa_reti hx hb hr hlocks rfl hS hH dX3_nextIsWithin_42
set_option maxHeartbeats 4000000 in
set_option maxRecDepth 100000 in
theorem bX3_nextIsWithin_41 {p : Program} {l : Launch} {e : Env} {s : State} {m : MethodId} {args : Array Value} {below : List Frame} {meth : Method} {c : Code} {D : va_G} {ca : Nat → ClassId} {ad : Nat → Nat → Nat} {b0 : Nat} {o : Int32 × oa_M} (C : oa_Cx p s m args meth c cX3_nextIsWithin 3 (some .boolean) RX3 D ca b0 ad) : ∀ (n : Nat), ∀ (n0 : Nat) (hn0 : n0 < oa_n 1) (x1 : Int32) (x2 : Int32) (M : oa_M), BX3_nextIsWithin_41 n n0 x1 x2 M = some o → ∀ (H : Heap) (locs : List Loc), oa_H D ca ad M H → va_S (fun q => b0 ≤ q) s.heap H locs → ∀ (ls : Array Slot), lv_has ls 3 [(0, .ref (ad 1 n0)), (1, .int x1), (2, .int x2)] → W p l e ({ frames := 0, cells := 0, slots := 0, locals := 0 } : Room) s m args below meth c H locs 0 0 (MQ below (va_Qi (fun (r' : Int32) (u : oa_M) => r' = o.1 ∧ u = o.2) (fun u t => oa_H D ca ad u t.heap) (fun q => b0 ≤ q)) args s 0 0 (fun q => b0 ≤ q)) (F0 m 41 ls []) := by
  obtain ⟨hx, hb, hml, hr, hlocks, hown, hts, hE, hw⟩ := id C
  intro n n0 hn0 x1 x2 M hf H locs hH hS ls hl
  unfold BX3_nextIsWithin_41 at hf
  refine lv_iconst (v := (0 : Int32)) hx hb dX3_nextIsWithin_41 (by decide) ?_
  exact bX3_nextIsWithin_42 C n n0 hn0 x1 x2 (0 : Int32) _ hf _ _ hH hS _ (lv_sub hl [0, 1, 2] rfl)
set_option maxHeartbeats 4000000 in
set_option maxRecDepth 100000 in
theorem cX3_nextIsWithin_k (l : Launch) (D : va_G) (ca : Nat → ClassId) (ad : Nat → Nat → Nat) (b0 : Nat) (hw : oa_W ad b0) (n : Nat) (n0 : Nat) (hn0 : n0 < oa_n 1) (x1 : Int32) (x2 : Int32) (M : oa_M) (o : Int32 × oa_M) (hf : FX3_nextIsWithin n n0 x1 x2 M = some o) : oa_Mi l yX3_nextIsWithin (oa_w yX3_nextIsWithin cX3_nextIsWithin 3 (some .boolean)) ({ frames := 0, cells := 0, slots := 0, locals := 0 } : Room) D ca ad b0 [.ref (ad 1 n0), .int x1, .int x2] M o.1 o.2 := by
  refine oa_ofW (cc := cX3_nextIsWithin) (maxL := 3) (ret := some .boolean) (by decide) rfl (Nat.le_of_ble_eq_true rfl) ?_
  intro p e s m below meth c hx hb hml hr hlocks hown hts0 hP ls hl
  obtain ⟨hH, hE⟩ := hP
  have hts : ∀ w ∈ oa_T, w.before _ s = true := fun w h => hts0 w (List.mem_cons_of_mem _ h)
  have hS : va_S (fun q => b0 ≤ q) s.heap s.heap [] := va_S.rf
  have C : oa_Cx p s m _ meth c cX3_nextIsWithin 3 (some .boolean) RX3 D ca b0 ad := ⟨hx, hb, hml, hr, hlocks, hown, hts, hE, hw⟩
  have hl : lv_has ls 3 [(0, .ref (ad 1 n0)), (1, .int x1), (2, .int x2)] := hl
  unfold FX3_nextIsWithin at hf
  refine lv_aload_n hx hb dX3_nextIsWithin_0 rfl (lv_at hl 0 rfl) ?_
  refine oa_get (ci := 3) (C := RX3) (T := TX3) (N := 3) (v := .int (M 1 n0 2)) hx hb hts inX3 hown hE hH 1 n0 hn0 rfl rfl 2 (by decide) (hts _ tw_75) rfl dX3_nextIsWithin_1 ?_
  refine lv_aload_n hx hb dX3_nextIsWithin_4 rfl (lv_at hl 0 rfl) ?_
  refine oa_get (ci := 3) (C := RX3) (T := TX3) (N := 3) (v := .int (M 1 n0 1)) hx hb hts inX3 hown hE hH 1 n0 hn0 rfl rfl 1 (by decide) (hts _ tw_73) rfl dX3_nextIsWithin_5 ?_
  refine lv_icmp_ge (tgt := 41) hx hb dX3_nextIsWithin_8 (by decide) (fun hq1 => ?_) (fun hq1 => ?_)
  · rw [if_pos hq1] at hf
    exact bX3_nextIsWithin_41 C n n0 hn0 x1 x2 _ hf _ _ hH hS _ (lv_sub hl [0, 1, 2] rfl)
  · rw [if_neg hq1] at hf
    refine lv_aload_n hx hb dX3_nextIsWithin_11 rfl (lv_at hl 0 rfl) ?_
    refine oa_get (ci := 3) (C := RX3) (T := TX3) (N := 3) (v := .ref (ad 2 n0)) hx hb hts inX3 hown hE hH 1 n0 hn0 rfl rfl 0 (by decide) (hts _ tw_72) rfl dX3_nextIsWithin_12 ?_
    refine lv_aload_n hx hb dX3_nextIsWithin_15 rfl (lv_at hl 0 rfl) ?_
    refine oa_get (ci := 3) (C := RX3) (T := TX3) (N := 3) (v := .int (M 1 n0 2)) hx hb hts inX3 hown hE hH 1 n0 hn0 rfl rfl 2 (by decide) (hts _ tw_75) rfl dX3_nextIsWithin_16 ?_
    obtain ⟨hk2, hf⟩ := oa_ck hf
    refine oa_cld (v := (M 2 n0 (M 1 n0 2).toNatClampNeg)) hx hb hE hH 2 n0 hn0 40 rfl rfl (oa_in_vp hk2) dX3_nextIsWithin_19 ?_
    refine lv_iload_n hx hb dX3_nextIsWithin_20 rfl (lv_at hl 1 rfl) ?_
    refine lv_icmp_lt (tgt := 41) hx hb dX3_nextIsWithin_21 (by decide) (fun hq3 => ?_) (fun hq3 => ?_)
    · rw [if_pos hq3] at hf
      exact bX3_nextIsWithin_41 C n n0 hn0 x1 x2 _ hf _ _ hH hS _ (lv_sub hl [0, 1, 2] rfl)
    · rw [if_neg hq3] at hf
      refine lv_aload_n hx hb dX3_nextIsWithin_24 rfl (lv_at hl 0 rfl) ?_
      refine oa_get (ci := 3) (C := RX3) (T := TX3) (N := 3) (v := .ref (ad 2 n0)) hx hb hts inX3 hown hE hH 1 n0 hn0 rfl rfl 0 (by decide) (hts _ tw_72) rfl dX3_nextIsWithin_25 ?_
      refine lv_aload_n hx hb dX3_nextIsWithin_28 rfl (lv_at hl 0 rfl) ?_
      refine oa_get (ci := 3) (C := RX3) (T := TX3) (N := 3) (v := .int (M 1 n0 2)) hx hb hts inX3 hown hE hH 1 n0 hn0 rfl rfl 2 (by decide) (hts _ tw_75) rfl dX3_nextIsWithin_29 ?_
      obtain ⟨hk4, hf⟩ := oa_ck hf
      refine oa_cld (v := (M 2 n0 (M 1 n0 2).toNatClampNeg)) hx hb hE hH 2 n0 hn0 40 rfl rfl (oa_in_vp hk4) dX3_nextIsWithin_32 ?_
      refine lv_iload_n hx hb dX3_nextIsWithin_33 rfl (lv_at hl 2 rfl) ?_
      refine lv_icmp_gt (tgt := 41) hx hb dX3_nextIsWithin_34 (by decide) (fun hq5 => ?_) (fun hq5 => ?_)
      · rw [if_pos hq5] at hf
        exact bX3_nextIsWithin_41 C n n0 hn0 x1 x2 _ hf _ _ hH hS _ (lv_sub hl [0, 1, 2] rfl)
      · rw [if_neg hq5] at hf
        refine lv_iconst (v := (1 : Int32)) hx hb dX3_nextIsWithin_37 (by decide) ?_
        refine lv_goto (tgt := 42) hx hb dX3_nextIsWithin_38 (by decide) ?_
        exact bX3_nextIsWithin_42 C n n0 hn0 x1 x2 (1 : Int32) _ hf _ _ hH hS _ (lv_sub hl [0, 1, 2] rfl)
theorem cX3_nextIsWithin_ok (l : Launch) (D : va_G) (ca : Nat → ClassId) (ad : Nat → Nat → Nat) (b0 : Nat) (hw : oa_W ad b0) (n : Nat) (n0 : Nat) (hn0 : n0 < oa_n 1) (x1 : Int32) (x2 : Int32) (M : oa_M) (r : Int32) (M' : oa_M) (hf : FX3_nextIsWithin n n0 x1 x2 M = some (r, M')) : oa_Mi l yX3_nextIsWithin (oa_w yX3_nextIsWithin cX3_nextIsWithin 3 (some .boolean)) ({ frames := 0, cells := 0, slots := 0, locals := 0 } : Room) D ca ad b0 [.ref (ad 1 n0), .int x1, .int x2] M r M' := cX3_nextIsWithin_k l D ca ad b0 hw n n0 hn0 x1 x2 M (r, M') hf
def BX3_at_22 (n : Nat) (n0 : Nat) (x1 : Int32) (z0 : Int32) (M : oa_M) : Option (Int32 × oa_M) := (some (oa_nc z0, M))
def BX3_at_21 (n : Nat) (n0 : Nat) (x1 : Int32) (M : oa_M) : Option (Int32 × oa_M) := (BX3_at_22 n n0 x1 (0 : Int32) M)
def FX3_at (n : Nat) (n0 : Nat) (x1 : Int32) (M : oa_M) : Option (Int32 × oa_M) := (if x1 < 0 then (BX3_at_21 n n0 x1 M) else (if (M 1 n0 1) ≤ x1 then (BX3_at_21 n n0 x1 M) else (if oa_in x1 40 = true then (BX3_at_22 n n0 x1 (M 2 n0 x1.toNatClampNeg) M) else none)))
set_option maxHeartbeats 4000000 in
set_option maxRecDepth 100000 in
theorem bX3_at_22 {p : Program} {l : Launch} {e : Env} {s : State} {m : MethodId} {args : Array Value} {below : List Frame} {meth : Method} {c : Code} {D : va_G} {ca : Nat → ClassId} {ad : Nat → Nat → Nat} {b0 : Nat} {o : Int32 × oa_M} (C : oa_Cx p s m args meth c cX3_at 2 (some .char) RX3 D ca b0 ad) : ∀ (n : Nat), ∀ (n0 : Nat) (hn0 : n0 < oa_n 1) (x1 : Int32) (z0 : Int32) (M : oa_M), BX3_at_22 n n0 x1 z0 M = some o → ∀ (H : Heap) (locs : List Loc), oa_H D ca ad M H → va_S (fun q => b0 ≤ q) s.heap H locs → ∀ (ls : Array Slot), lv_has ls 2 [(0, .ref (ad 1 n0)), (1, .int x1)] → W p l e ({ frames := 0, cells := 0, slots := 0, locals := 0 } : Room) s m args below meth c H locs 0 0 (MQ below (va_Qi (fun (r' : Int32) (u : oa_M) => r' = o.1 ∧ u = o.2) (fun u t => oa_H D ca ad u t.heap) (fun q => b0 ≤ q)) args s 0 0 (fun q => b0 ≤ q)) (F0 m 22 ls [.int z0]) := by
  obtain ⟨hx, hb, hml, hr, hlocks, hown, hts, hE, hw⟩ := id C
  intro n n0 hn0 x1 z0 M hf H locs hH hS ls hl
  unfold BX3_at_22 at hf
  cases hf
  exact oa_reti hx hb hr hlocks rfl hS hH dX3_at_22
set_option maxHeartbeats 4000000 in
set_option maxRecDepth 100000 in
theorem bX3_at_21 {p : Program} {l : Launch} {e : Env} {s : State} {m : MethodId} {args : Array Value} {below : List Frame} {meth : Method} {c : Code} {D : va_G} {ca : Nat → ClassId} {ad : Nat → Nat → Nat} {b0 : Nat} {o : Int32 × oa_M} (C : oa_Cx p s m args meth c cX3_at 2 (some .char) RX3 D ca b0 ad) : ∀ (n : Nat), ∀ (n0 : Nat) (hn0 : n0 < oa_n 1) (x1 : Int32) (M : oa_M), BX3_at_21 n n0 x1 M = some o → ∀ (H : Heap) (locs : List Loc), oa_H D ca ad M H → va_S (fun q => b0 ≤ q) s.heap H locs → ∀ (ls : Array Slot), lv_has ls 2 [(0, .ref (ad 1 n0)), (1, .int x1)] → W p l e ({ frames := 0, cells := 0, slots := 0, locals := 0 } : Room) s m args below meth c H locs 0 0 (MQ below (va_Qi (fun (r' : Int32) (u : oa_M) => r' = o.1 ∧ u = o.2) (fun u t => oa_H D ca ad u t.heap) (fun q => b0 ≤ q)) args s 0 0 (fun q => b0 ≤ q)) (F0 m 21 ls []) := by
  obtain ⟨hx, hb, hml, hr, hlocks, hown, hts, hE, hw⟩ := id C
  intro n n0 hn0 x1 M hf H locs hH hS ls hl
  unfold BX3_at_21 at hf
  refine lv_iconst (v := (0 : Int32)) hx hb dX3_at_21 (by decide) ?_
  exact bX3_at_22 C n n0 hn0 x1 (0 : Int32) _ hf _ _ hH hS _ (lv_sub hl [0, 1] rfl)
set_option maxHeartbeats 4000000 in
set_option maxRecDepth 100000 in
theorem cX3_at_k (l : Launch) (D : va_G) (ca : Nat → ClassId) (ad : Nat → Nat → Nat) (b0 : Nat) (hw : oa_W ad b0) (n : Nat) (n0 : Nat) (hn0 : n0 < oa_n 1) (x1 : Int32) (M : oa_M) (o : Int32 × oa_M) (hf : FX3_at n n0 x1 M = some o) : oa_Mi l yX3_at (oa_w yX3_at cX3_at 2 (some .char)) ({ frames := 0, cells := 0, slots := 0, locals := 0 } : Room) D ca ad b0 [.ref (ad 1 n0), .int x1] M o.1 o.2 := by
  refine oa_ofW (cc := cX3_at) (maxL := 2) (ret := some .char) (by decide) rfl (Nat.le_of_ble_eq_true rfl) ?_
  intro p e s m below meth c hx hb hml hr hlocks hown hts0 hP ls hl
  obtain ⟨hH, hE⟩ := hP
  have hts : ∀ w ∈ oa_T, w.before _ s = true := fun w h => hts0 w (List.mem_cons_of_mem _ h)
  have hS : va_S (fun q => b0 ≤ q) s.heap s.heap [] := va_S.rf
  have C : oa_Cx p s m _ meth c cX3_at 2 (some .char) RX3 D ca b0 ad := ⟨hx, hb, hml, hr, hlocks, hown, hts, hE, hw⟩
  have hl : lv_has ls 2 [(0, .ref (ad 1 n0)), (1, .int x1)] := hl
  unfold FX3_at at hf
  refine lv_iload_n hx hb dX3_at_0 rfl (lv_at hl 1 rfl) ?_
  refine lv_if_lt (tgt := 21) hx hb dX3_at_1 (by decide) (fun hq1 => ?_) (fun hq1 => ?_)
  · rw [if_pos hq1] at hf
    exact bX3_at_21 C n n0 hn0 x1 _ hf _ _ hH hS _ (lv_sub hl [0, 1] rfl)
  · rw [if_neg hq1] at hf
    refine lv_iload_n hx hb dX3_at_4 rfl (lv_at hl 1 rfl) ?_
    refine lv_aload_n hx hb dX3_at_5 rfl (lv_at hl 0 rfl) ?_
    refine oa_get (ci := 3) (C := RX3) (T := TX3) (N := 3) (v := .int (M 1 n0 1)) hx hb hts inX3 hown hE hH 1 n0 hn0 rfl rfl 1 (by decide) (hts _ tw_73) rfl dX3_at_6 ?_
    refine lv_icmp_ge (tgt := 21) hx hb dX3_at_9 (by decide) (fun hq2 => ?_) (fun hq2 => ?_)
    · rw [if_pos hq2] at hf
      exact bX3_at_21 C n n0 hn0 x1 _ hf _ _ hH hS _ (lv_sub hl [0, 1] rfl)
    · rw [if_neg hq2] at hf
      refine lv_aload_n hx hb dX3_at_12 rfl (lv_at hl 0 rfl) ?_
      refine oa_get (ci := 3) (C := RX3) (T := TX3) (N := 3) (v := .ref (ad 2 n0)) hx hb hts inX3 hown hE hH 1 n0 hn0 rfl rfl 0 (by decide) (hts _ tw_72) rfl dX3_at_13 ?_
      refine lv_iload_n hx hb dX3_at_16 rfl (lv_at hl 1 rfl) ?_
      obtain ⟨hk3, hf⟩ := oa_ck hf
      refine oa_cld (v := (M 2 n0 x1.toNatClampNeg)) hx hb hE hH 2 n0 hn0 40 rfl rfl (oa_in_vp hk3) dX3_at_17 ?_
      refine lv_goto (tgt := 22) hx hb dX3_at_18 (by decide) ?_
      exact bX3_at_22 C n n0 hn0 x1 (M 2 n0 x1.toNatClampNeg) _ hf _ _ hH hS _ (lv_sub hl [0, 1] rfl)
theorem cX3_at_ok (l : Launch) (D : va_G) (ca : Nat → ClassId) (ad : Nat → Nat → Nat) (b0 : Nat) (hw : oa_W ad b0) (n : Nat) (n0 : Nat) (hn0 : n0 < oa_n 1) (x1 : Int32) (M : oa_M) (r : Int32) (M' : oa_M) (hf : FX3_at n n0 x1 M = some (r, M')) : oa_Mi l yX3_at (oa_w yX3_at cX3_at 2 (some .char)) ({ frames := 0, cells := 0, slots := 0, locals := 0 } : Room) D ca ad b0 [.ref (ad 1 n0), .int x1] M r M' := cX3_at_k l D ca ad b0 hw n n0 hn0 x1 M (r, M') hf
def FX3_takeAny (n : Nat) (n0 : Nat) (M : oa_M) : Option (Int32 × oa_M) := (oa_bd (FX3_at n n0 (M 1 n0 2) M) (fun r1 M2 => (some (oa_nc r1, (oa_up M2 1 n0 2 ((M2 1 n0 2) + (1 : Int32)))))))
set_option maxHeartbeats 4000000 in
set_option maxRecDepth 100000 in
theorem cX3_takeAny_k (l : Launch) (D : va_G) (ca : Nat → ClassId) (ad : Nat → Nat → Nat) (b0 : Nat) (hw : oa_W ad b0) (n : Nat) (n0 : Nat) (hn0 : n0 < oa_n 1) (M : oa_M) (o : Int32 × oa_M) (hf : FX3_takeAny n n0 M = some o) : oa_Mi l yX3_takeAny (oa_w yX3_takeAny cX3_takeAny 2 (some .char)) ({ frames := 1, cells := 0, slots := 0, locals := 21 } : Room) D ca ad b0 [.ref (ad 1 n0)] M o.1 o.2 := by
  refine oa_ofW (cc := cX3_takeAny) (maxL := 2) (ret := some .char) (by decide) rfl (Nat.le_of_ble_eq_true rfl) ?_
  intro p e s m below meth c hx hb hml hr hlocks hown hts0 hP ls hl
  obtain ⟨hH, hE⟩ := hP
  have hts : ∀ w ∈ oa_T, w.before _ s = true := fun w h => hts0 w (List.mem_cons_of_mem _ h)
  have hS : va_S (fun q => b0 ≤ q) s.heap s.heap [] := va_S.rf
  have C : oa_Cx p s m _ meth c cX3_takeAny 2 (some .char) RX3 D ca b0 ad := ⟨hx, hb, hml, hr, hlocks, hown, hts, hE, hw⟩
  have hl : lv_has ls 2 [(0, .ref (ad 1 n0))] := hl
  unfold FX3_takeAny at hf
  refine lv_aload_n hx hb dX3_takeAny_0 rfl (lv_at hl 0 rfl) ?_
  refine lv_aload_n hx hb dX3_takeAny_1 rfl (lv_at hl 0 rfl) ?_
  refine oa_get (ci := 3) (C := RX3) (T := TX3) (N := 3) (v := .int (M 1 n0 2)) hx hb hts inX3 hown hE hH 1 n0 hn0 rfl rfl 2 (by decide) (hts _ tw_75) rfl dX3_takeAny_2 ?_
  obtain ⟨r1, M2, hc3, hf⟩ := oa_bdE hf
  refine oa_cvi (As := [.int (M 1 n0 2)]) (rest := []) ⟨hx, hb, hml, hown, hts⟩ (cX3_at_ok l D ca ad b0 hw n n0 hn0 (M 1 n0 2) _ _ _ hc3) (cwV 1 hts (oa_gV tw_279 tw_239 tw_240 tw_45 tw_241) rfl rfl rfl (by decide +kernel) ⟨Nat.le_of_ble_eq_true rfl, Nat.le_of_ble_eq_true rfl⟩) hE hH hS (oa_recv (k := 1) (ci := 3) hE hH hn0 rfl rfl) rfl hl.1 rfl (Nat.le_of_ble_eq_true rfl) dX3_takeAny_5 ⟨by decide, by decide⟩ (fun H locs hH hS => ?_)
  refine lv_istore_n (lv' := [(1, .int r1), (0, .ref (ad 1 n0))]) hx hb dX3_takeAny_8 rfl hl (by decide) rfl (fun ls hl => ?_)
  refine lv_aload_n hx hb dX3_takeAny_9 rfl (lv_at hl 1 rfl) ?_
  refine lv_dup hx hb dX3_takeAny_10 rfl ?_
  refine oa_get (ci := 3) (C := RX3) (T := TX3) (N := 3) (v := .int (M2 1 n0 2)) hx hb hts inX3 hown hE hH 1 n0 hn0 rfl rfl 2 (by decide) (hts _ tw_75) rfl dX3_takeAny_11 ?_
  refine lv_iconst (v := (1 : Int32)) hx hb dX3_takeAny_14 (by decide) ?_
  refine lv_iadd hx hb dX3_takeAny_15 ?_
  refine oa_put (ci := 3) (C := RX3) (T := TX3) (N := 3) (v := .int ((M2 1 n0 2) + (1 : Int32))) (x := ((M2 1 n0 2) + (1 : Int32))) hx hb hts inX3 tyX3 tyX3_ok nmX3 hown hE hw hH hS 1 n0 hn0 rfl rfl 2 (by decide) (hts _ tw_75) rfl rfl rfl (Nat.le_of_ble_eq_true rfl) rfl dX3_takeAny_16 (fun H locs hH hS => ?_)
  refine lv_iload_n hx hb dX3_takeAny_19 rfl (lv_at hl 0 rfl) ?_
  cases hf
  exact oa_reti hx hb hr hlocks rfl hS hH dX3_takeAny_20
theorem cX3_takeAny_ok (l : Launch) (D : va_G) (ca : Nat → ClassId) (ad : Nat → Nat → Nat) (b0 : Nat) (hw : oa_W ad b0) (n : Nat) (n0 : Nat) (hn0 : n0 < oa_n 1) (M : oa_M) (r : Int32) (M' : oa_M) (hf : FX3_takeAny n n0 M = some (r, M')) : oa_Mi l yX3_takeAny (oa_w yX3_takeAny cX3_takeAny 2 (some .char)) ({ frames := 1, cells := 0, slots := 0, locals := 21 } : Room) D ca ad b0 [.ref (ad 1 n0)] M r M' := cX3_takeAny_k l D ca ad b0 hw n n0 hn0 M (r, M') hf
def BX3_takeName_36 (n : Nat) (n0 : Nat) (x1 : Int32) (x2 : Int32) (M : oa_M) : Option (Int32 × oa_M) := (some (x1, M))
def BX3_takeName_4 : Nat → Nat → Int32 → Int32 → oa_M → Option (Int32 × oa_M)
  | 0, _, _, _, _ => none
  | n + 1, n0, x1, x2, M => (if (4 : Int32) ≤ x2 then (BX3_takeName_36 n n0 x1 x2 M) else (oa_bd (FX3_nextIsWithin n n0 (97 : Int32) (122 : Int32) M) (fun r2 M3 => (if r2 = 0 then (BX3_takeName_36 n n0 x1 x2 M3) else (oa_bd (FX3_takeAny n n0 M3) (fun r6 M7 => (BX3_takeName_4 n n0 ((x1 <<< ((8 : Int32) &&& 31)) ||| r6) (x2 + (1 : Int32)) M7)))))))
def FX3_takeName (n : Nat) (n0 : Nat) (M : oa_M) : Option (Int32 × oa_M) := (BX3_takeName_4 n n0 (0 : Int32) (0 : Int32) M)
set_option maxHeartbeats 4000000 in
set_option maxRecDepth 100000 in
theorem bX3_takeName_36 {p : Program} {l : Launch} {e : Env} {s : State} {m : MethodId} {args : Array Value} {below : List Frame} {meth : Method} {c : Code} {D : va_G} {ca : Nat → ClassId} {ad : Nat → Nat → Nat} {b0 : Nat} {o : Int32 × oa_M} (C : oa_Cx p s m args meth c cX3_takeName 3 (some .int) RX3 D ca b0 ad) : ∀ (n : Nat), ∀ (n0 : Nat) (hn0 : n0 < oa_n 1) (x1 : Int32) (x2 : Int32) (M : oa_M), BX3_takeName_36 n n0 x1 x2 M = some o → ∀ (H : Heap) (locs : List Loc), oa_H D ca ad M H → va_S (fun q => b0 ≤ q) s.heap H locs → ∀ (ls : Array Slot), lv_has ls 3 [(0, .ref (ad 1 n0)), (1, .int x1), (2, .int x2)] → W p l e ({ frames := 2, cells := 0, slots := 0, locals := 42 } : Room) s m args below meth c H locs 0 0 (MQ below (va_Qi (fun (r' : Int32) (u : oa_M) => r' = o.1 ∧ u = o.2) (fun u t => oa_H D ca ad u t.heap) (fun q => b0 ≤ q)) args s 0 0 (fun q => b0 ≤ q)) (F0 m 36 ls []) := by
  obtain ⟨hx, hb, hml, hr, hlocks, hown, hts, hE, hw⟩ := id C
  intro n n0 hn0 x1 x2 M hf H locs hH hS ls hl
  unfold BX3_takeName_36 at hf
  refine lv_iload_n hx hb dX3_takeName_36 rfl (lv_at hl 1 rfl) ?_
  cases hf
  exact oa_reti hx hb hr hlocks rfl hS hH dX3_takeName_37
set_option maxHeartbeats 4000000 in
set_option maxRecDepth 100000 in
theorem bX3_takeName_4 {p : Program} {l : Launch} {e : Env} {s : State} {m : MethodId} {args : Array Value} {below : List Frame} {meth : Method} {c : Code} {D : va_G} {ca : Nat → ClassId} {ad : Nat → Nat → Nat} {b0 : Nat} {o : Int32 × oa_M} (C : oa_Cx p s m args meth c cX3_takeName 3 (some .int) RX3 D ca b0 ad) : ∀ (n : Nat), ∀ (n0 : Nat) (hn0 : n0 < oa_n 1) (x1 : Int32) (x2 : Int32) (M : oa_M), BX3_takeName_4 n n0 x1 x2 M = some o → ∀ (H : Heap) (locs : List Loc), oa_H D ca ad M H → va_S (fun q => b0 ≤ q) s.heap H locs → ∀ (ls : Array Slot), lv_has ls 3 [(0, .ref (ad 1 n0)), (1, .int x1), (2, .int x2)] → W p l e ({ frames := 2, cells := 0, slots := 0, locals := 42 } : Room) s m args below meth c H locs 0 0 (MQ below (va_Qi (fun (r' : Int32) (u : oa_M) => r' = o.1 ∧ u = o.2) (fun u t => oa_H D ca ad u t.heap) (fun q => b0 ≤ q)) args s 0 0 (fun q => b0 ≤ q)) (F0 m 4 ls []) := by
  obtain ⟨hx, hb, hml, hr, hlocks, hown, hts, hE, hw⟩ := id C
  intro n
  induction n with
  | zero => intro n0 hn0 x1 x2 M hf; cases hf
  | succ n ih =>
    intro n0 hn0 x1 x2 M hf H locs hH hS ls hl
    have hrec4 := ih
    unfold BX3_takeName_4 at hf
    refine lv_iload_n hx hb dX3_takeName_4 rfl (lv_at hl 2 rfl) ?_
    refine lv_iconst (v := (4 : Int32)) hx hb dX3_takeName_5 (by decide) ?_
    refine lv_icmp_ge (tgt := 36) hx hb dX3_takeName_6 (by decide) (fun hq1 => ?_) (fun hq1 => ?_)
    · rw [if_pos hq1] at hf
      exact bX3_takeName_36 C n n0 hn0 x1 x2 _ hf _ _ hH hS _ (lv_sub hl [0, 1, 2] rfl)
    · rw [if_neg hq1] at hf
      refine lv_aload_n hx hb dX3_takeName_9 rfl (lv_at hl 0 rfl) ?_
      refine lv_bipush (v := (97 : Int32)) hx hb dX3_takeName_10 (by decide) ?_
      refine lv_bipush (v := (122 : Int32)) hx hb dX3_takeName_12 (by decide) ?_
      obtain ⟨r2, M3, hc4, hf⟩ := oa_bdE hf
      refine oa_cvi (As := [.int (97 : Int32), .int (122 : Int32)]) (rest := []) ⟨hx, hb, hml, hown, hts⟩ (cX3_nextIsWithin_ok l D ca ad b0 hw n n0 hn0 (97 : Int32) (122 : Int32) _ _ _ hc4) (cwV 2 hts (oa_gV tw_271 tw_272 tw_273 tw_45 tw_274) rfl rfl rfl (by decide +kernel) ⟨Nat.le_of_ble_eq_true rfl, Nat.le_of_ble_eq_true rfl⟩) hE hH hS (oa_recv (k := 1) (ci := 3) hE hH hn0 rfl rfl) rfl hl.1 rfl (Nat.le_of_ble_eq_true rfl) dX3_takeName_14 ⟨by decide, by decide⟩ (fun H locs hH hS => ?_)
      refine lv_if_eq (tgt := 36) hx hb dX3_takeName_17 (by decide) (fun hq5 => ?_) (fun hq5 => ?_)
      · rw [if_pos hq5] at hf
        exact bX3_takeName_36 C n n0 hn0 x1 x2 _ hf _ _ hH hS _ (lv_sub hl [0, 1, 2] rfl)
      · rw [if_neg hq5] at hf
        refine lv_iload_n hx hb dX3_takeName_20 rfl (lv_at hl 1 rfl) ?_
        refine lv_bipush (v := (8 : Int32)) hx hb dX3_takeName_21 (by decide) ?_
        refine lv_ishl hx hb dX3_takeName_23 ?_
        refine lv_aload_n hx hb dX3_takeName_24 rfl (lv_at hl 0 rfl) ?_
        obtain ⟨r6, M7, hc8, hf⟩ := oa_bdE hf
        refine oa_cvi (As := []) (rest := [.int (x1 <<< ((8 : Int32) &&& 31))]) ⟨hx, hb, hml, hown, hts⟩ (cX3_takeAny_ok l D ca ad b0 hw n n0 hn0 _ _ _ hc8) (cwV 0 hts (oa_gV tw_275 tw_276 tw_277 tw_45 tw_278) rfl rfl rfl (by decide +kernel) ⟨Nat.le_of_ble_eq_true rfl, Nat.le_of_ble_eq_true rfl⟩) hE hH hS (oa_recv (k := 1) (ci := 3) hE hH hn0 rfl rfl) rfl hl.1 rfl (Nat.le_of_ble_eq_true rfl) dX3_takeName_25 ⟨by decide, by decide⟩ (fun H locs hH hS => ?_)
        refine lv_ior hx hb dX3_takeName_28 ?_
        refine lv_istore_n (lv' := [(1, .int ((x1 <<< ((8 : Int32) &&& 31)) ||| r6)), (0, .ref (ad 1 n0)), (2, .int x2)]) hx hb dX3_takeName_29 rfl hl (by decide) rfl (fun ls hl => ?_)
        refine lv_iinc (v := (x2 + (1 : Int32))) (lv' := [(2, .int (x2 + (1 : Int32))), (1, .int ((x1 <<< ((8 : Int32) &&& 31)) ||| r6)), (0, .ref (ad 1 n0))]) hx hb dX3_takeName_30 hl (k := 2) rfl rfl (by decide) rfl (fun ls hl => ?_)
        refine lv_goto (tgt := 4) hx hb dX3_takeName_33 (by decide) ?_
        exact hrec4 n0 hn0 ((x1 <<< ((8 : Int32) &&& 31)) ||| r6) (x2 + (1 : Int32)) _ hf _ _ hH hS _ (lv_sub hl [2, 1, 0] rfl)
set_option maxHeartbeats 4000000 in
set_option maxRecDepth 100000 in
theorem cX3_takeName_k (l : Launch) (D : va_G) (ca : Nat → ClassId) (ad : Nat → Nat → Nat) (b0 : Nat) (hw : oa_W ad b0) (n : Nat) (n0 : Nat) (hn0 : n0 < oa_n 1) (M : oa_M) (o : Int32 × oa_M) (hf : FX3_takeName n n0 M = some o) : oa_Mi l yX3_takeName (oa_w yX3_takeName cX3_takeName 3 (some .int)) ({ frames := 2, cells := 0, slots := 0, locals := 42 } : Room) D ca ad b0 [.ref (ad 1 n0)] M o.1 o.2 := by
  refine oa_ofW (cc := cX3_takeName) (maxL := 3) (ret := some .int) (by decide) rfl (Nat.le_of_ble_eq_true rfl) ?_
  intro p e s m below meth c hx hb hml hr hlocks hown hts0 hP ls hl
  obtain ⟨hH, hE⟩ := hP
  have hts : ∀ w ∈ oa_T, w.before _ s = true := fun w h => hts0 w (List.mem_cons_of_mem _ h)
  have hS : va_S (fun q => b0 ≤ q) s.heap s.heap [] := va_S.rf
  have C : oa_Cx p s m _ meth c cX3_takeName 3 (some .int) RX3 D ca b0 ad := ⟨hx, hb, hml, hr, hlocks, hown, hts, hE, hw⟩
  have hl : lv_has ls 3 [(0, .ref (ad 1 n0))] := hl
  unfold FX3_takeName at hf
  refine lv_iconst (v := (0 : Int32)) hx hb dX3_takeName_0 (by decide) ?_
  refine lv_istore_n (lv' := [(1, .int (0 : Int32)), (0, .ref (ad 1 n0))]) hx hb dX3_takeName_1 rfl hl (by decide) rfl (fun ls hl => ?_)
  refine lv_iconst (v := (0 : Int32)) hx hb dX3_takeName_2 (by decide) ?_
  refine lv_istore_n (lv' := [(2, .int (0 : Int32)), (1, .int (0 : Int32)), (0, .ref (ad 1 n0))]) hx hb dX3_takeName_3 rfl hl (by decide) rfl (fun ls hl => ?_)
  exact bX3_takeName_4 C n n0 hn0 (0 : Int32) (0 : Int32) _ hf _ _ hH hS _ (lv_sub hl [2, 1, 0] rfl)
theorem cX3_takeName_ok (l : Launch) (D : va_G) (ca : Nat → ClassId) (ad : Nat → Nat → Nat) (b0 : Nat) (hw : oa_W ad b0) (n : Nat) (n0 : Nat) (hn0 : n0 < oa_n 1) (M : oa_M) (r : Int32) (M' : oa_M) (hf : FX3_takeName n n0 M = some (r, M')) : oa_Mi l yX3_takeName (oa_w yX3_takeName cX3_takeName 3 (some .int)) ({ frames := 2, cells := 0, slots := 0, locals := 42 } : Room) D ca ad b0 [.ref (ad 1 n0)] M r M' := cX3_takeName_k l D ca ad b0 hw n n0 hn0 M (r, M') hf
def FX3_take (n : Nat) (n0 : Nat) (x1 : Int32) (M : oa_M) : Option (Int32 × oa_M) := (oa_bd (FX3_nextIsWithin n n0 x1 x1 M) (fun r1 M2 => (if r1 = 0 then (some ((0 : Int32), M2)) else (some ((1 : Int32), (oa_up M2 1 n0 2 ((M2 1 n0 2) + (1 : Int32))))))))
set_option maxHeartbeats 4000000 in
set_option maxRecDepth 100000 in
theorem cX3_take_k (l : Launch) (D : va_G) (ca : Nat → ClassId) (ad : Nat → Nat → Nat) (b0 : Nat) (hw : oa_W ad b0) (n : Nat) (n0 : Nat) (hn0 : n0 < oa_n 1) (x1 : Int32) (M : oa_M) (o : Int32 × oa_M) (hf : FX3_take n n0 x1 M = some o) : oa_Mi l yX3_take (oa_w yX3_take cX3_take 2 (some .boolean)) ({ frames := 1, cells := 0, slots := 0, locals := 22 } : Room) D ca ad b0 [.ref (ad 1 n0), .int x1] M o.1 o.2 := by
  refine oa_ofW (cc := cX3_take) (maxL := 2) (ret := some .boolean) (by decide) rfl (Nat.le_of_ble_eq_true rfl) ?_
  intro p e s m below meth c hx hb hml hr hlocks hown hts0 hP ls hl
  obtain ⟨hH, hE⟩ := hP
  have hts : ∀ w ∈ oa_T, w.before _ s = true := fun w h => hts0 w (List.mem_cons_of_mem _ h)
  have hS : va_S (fun q => b0 ≤ q) s.heap s.heap [] := va_S.rf
  have C : oa_Cx p s m _ meth c cX3_take 2 (some .boolean) RX3 D ca b0 ad := ⟨hx, hb, hml, hr, hlocks, hown, hts, hE, hw⟩
  have hl : lv_has ls 2 [(0, .ref (ad 1 n0)), (1, .int x1)] := hl
  unfold FX3_take at hf
  refine lv_aload_n hx hb dX3_take_0 rfl (lv_at hl 0 rfl) ?_
  refine lv_iload_n hx hb dX3_take_1 rfl (lv_at hl 1 rfl) ?_
  refine lv_iload_n hx hb dX3_take_2 rfl (lv_at hl 1 rfl) ?_
  obtain ⟨r1, M2, hc3, hf⟩ := oa_bdE hf
  refine oa_cvi (As := [.int x1, .int x1]) (rest := []) ⟨hx, hb, hml, hown, hts⟩ (cX3_nextIsWithin_ok l D ca ad b0 hw n n0 hn0 x1 x1 _ _ _ hc3) (cwV 2 hts (oa_gV tw_271 tw_272 tw_273 tw_45 tw_274) rfl rfl rfl (by decide +kernel) ⟨Nat.le_of_ble_eq_true rfl, Nat.le_of_ble_eq_true rfl⟩) hE hH hS (oa_recv (k := 1) (ci := 3) hE hH hn0 rfl rfl) rfl hl.1 rfl (Nat.le_of_ble_eq_true rfl) dX3_take_3 ⟨by decide, by decide⟩ (fun H locs hH hS => ?_)
  refine lv_if_ne (tgt := 11) hx hb dX3_take_6 (by decide) (fun hq4 => ?_) (fun hq4 => ?_)
  · rw [if_neg hq4] at hf
    refine lv_aload_n hx hb dX3_take_11 rfl (lv_at hl 0 rfl) ?_
    refine lv_dup hx hb dX3_take_12 rfl ?_
    refine oa_get (ci := 3) (C := RX3) (T := TX3) (N := 3) (v := .int (M2 1 n0 2)) hx hb hts inX3 hown hE hH 1 n0 hn0 rfl rfl 2 (by decide) (hts _ tw_75) rfl dX3_take_13 ?_
    refine lv_iconst (v := (1 : Int32)) hx hb dX3_take_16 (by decide) ?_
    refine lv_iadd hx hb dX3_take_17 ?_
    refine oa_put (ci := 3) (C := RX3) (T := TX3) (N := 3) (v := .int ((M2 1 n0 2) + (1 : Int32))) (x := ((M2 1 n0 2) + (1 : Int32))) hx hb hts inX3 tyX3 tyX3_ok nmX3 hown hE hw hH hS 1 n0 hn0 rfl rfl 2 (by decide) (hts _ tw_75) rfl rfl rfl (Nat.le_of_ble_eq_true rfl) rfl dX3_take_18 (fun H locs hH hS => ?_)
    refine lv_iconst (v := (1 : Int32)) hx hb dX3_take_21 (by decide) ?_
    cases hf
    exact oa_reti hx hb hr hlocks rfl hS hH dX3_take_22
  · rw [if_pos hq4] at hf
    refine lv_iconst (v := (0 : Int32)) hx hb dX3_take_9 (by decide) ?_
    cases hf
    exact oa_reti hx hb hr hlocks rfl hS hH dX3_take_10
theorem cX3_take_ok (l : Launch) (D : va_G) (ca : Nat → ClassId) (ad : Nat → Nat → Nat) (b0 : Nat) (hw : oa_W ad b0) (n : Nat) (n0 : Nat) (hn0 : n0 < oa_n 1) (x1 : Int32) (M : oa_M) (r : Int32) (M' : oa_M) (hf : FX3_take n n0 x1 M = some (r, M')) : oa_Mi l yX3_take (oa_w yX3_take cX3_take 2 (some .boolean)) ({ frames := 1, cells := 0, slots := 0, locals := 22 } : Room) D ca ad b0 [.ref (ad 1 n0), .int x1] M r M' := cX3_take_k l D ca ad b0 hw n n0 hn0 x1 M (r, M') hf
def FX3_left (n : Nat) (n0 : Nat) (M : oa_M) : Option (Int32 × oa_M) := (some (((M 1 n0 1) - (M 1 n0 2)), M))
set_option maxHeartbeats 4000000 in
set_option maxRecDepth 100000 in
theorem cX3_left_k (l : Launch) (D : va_G) (ca : Nat → ClassId) (ad : Nat → Nat → Nat) (b0 : Nat) (hw : oa_W ad b0) (n : Nat) (n0 : Nat) (hn0 : n0 < oa_n 1) (M : oa_M) (o : Int32 × oa_M) (hf : FX3_left n n0 M = some o) : oa_Mi l yX3_left (oa_w yX3_left cX3_left 1 (some .int)) ({ frames := 0, cells := 0, slots := 0, locals := 0 } : Room) D ca ad b0 [.ref (ad 1 n0)] M o.1 o.2 := by
  refine oa_ofW (cc := cX3_left) (maxL := 1) (ret := some .int) (by decide) rfl (Nat.le_of_ble_eq_true rfl) ?_
  intro p e s m below meth c hx hb hml hr hlocks hown hts0 hP ls hl
  obtain ⟨hH, hE⟩ := hP
  have hts : ∀ w ∈ oa_T, w.before _ s = true := fun w h => hts0 w (List.mem_cons_of_mem _ h)
  have hS : va_S (fun q => b0 ≤ q) s.heap s.heap [] := va_S.rf
  have C : oa_Cx p s m _ meth c cX3_left 1 (some .int) RX3 D ca b0 ad := ⟨hx, hb, hml, hr, hlocks, hown, hts, hE, hw⟩
  have hl : lv_has ls 1 [(0, .ref (ad 1 n0))] := hl
  unfold FX3_left at hf
  refine lv_aload_n hx hb dX3_left_0 rfl (lv_at hl 0 rfl) ?_
  refine oa_get (ci := 3) (C := RX3) (T := TX3) (N := 3) (v := .int (M 1 n0 1)) hx hb hts inX3 hown hE hH 1 n0 hn0 rfl rfl 1 (by decide) (hts _ tw_73) rfl dX3_left_1 ?_
  refine lv_aload_n hx hb dX3_left_4 rfl (lv_at hl 0 rfl) ?_
  refine oa_get (ci := 3) (C := RX3) (T := TX3) (N := 3) (v := .int (M 1 n0 2)) hx hb hts inX3 hown hE hH 1 n0 hn0 rfl rfl 2 (by decide) (hts _ tw_75) rfl dX3_left_5 ?_
  refine lv_isub hx hb dX3_left_8 ?_
  cases hf
  exact oa_reti hx hb hr hlocks rfl hS hH dX3_left_9
theorem cX3_left_ok (l : Launch) (D : va_G) (ca : Nat → ClassId) (ad : Nat → Nat → Nat) (b0 : Nat) (hw : oa_W ad b0) (n : Nat) (n0 : Nat) (hn0 : n0 < oa_n 1) (M : oa_M) (r : Int32) (M' : oa_M) (hf : FX3_left n n0 M = some (r, M')) : oa_Mi l yX3_left (oa_w yX3_left cX3_left 1 (some .int)) ({ frames := 0, cells := 0, slots := 0, locals := 0 } : Room) D ca ad b0 [.ref (ad 1 n0)] M r M' := cX3_left_k l D ca ad b0 hw n n0 hn0 M (r, M') hf
def FX3_clear (n : Nat) (n0 : Nat) (M : oa_M) : Option (oa_M) := (some (oa_up (oa_up M 1 n0 1 (0 : Int32)) 1 n0 2 (0 : Int32)))
set_option maxHeartbeats 4000000 in
set_option maxRecDepth 100000 in
theorem cX3_clear_k (l : Launch) (D : va_G) (ca : Nat → ClassId) (ad : Nat → Nat → Nat) (b0 : Nat) (hw : oa_W ad b0) (n : Nat) (n0 : Nat) (hn0 : n0 < oa_n 1) (M : oa_M) (o : oa_M) (hf : FX3_clear n n0 M = some o) : oa_Mv l yX3_clear (oa_w yX3_clear cX3_clear 1 none) ({ frames := 0, cells := 0, slots := 0, locals := 0 } : Room) D ca ad b0 [.ref (ad 1 n0)] M o := by
  refine oa_ofW (cc := cX3_clear) (maxL := 1) (ret := none) (by decide) rfl (Nat.le_of_ble_eq_true rfl) ?_
  intro p e s m below meth c hx hb hml hr hlocks hown hts0 hP ls hl
  obtain ⟨hH, hE⟩ := hP
  have hts : ∀ w ∈ oa_T, w.before _ s = true := fun w h => hts0 w (List.mem_cons_of_mem _ h)
  have hS : va_S (fun q => b0 ≤ q) s.heap s.heap [] := va_S.rf
  have C : oa_Cx p s m _ meth c cX3_clear 1 (none) RX3 D ca b0 ad := ⟨hx, hb, hml, hr, hlocks, hown, hts, hE, hw⟩
  have hl : lv_has ls 1 [(0, .ref (ad 1 n0))] := hl
  unfold FX3_clear at hf
  refine lv_aload_n hx hb dX3_clear_0 rfl (lv_at hl 0 rfl) ?_
  refine lv_iconst (v := (0 : Int32)) hx hb dX3_clear_1 (by decide) ?_
  refine oa_put (ci := 3) (C := RX3) (T := TX3) (N := 3) (v := .int (0 : Int32)) (x := (0 : Int32)) hx hb hts inX3 tyX3 tyX3_ok nmX3 hown hE hw hH hS 1 n0 hn0 rfl rfl 1 (by decide) (hts _ tw_73) rfl rfl rfl (Nat.le_of_ble_eq_true rfl) rfl dX3_clear_2 (fun H locs hH hS => ?_)
  refine lv_aload_n hx hb dX3_clear_5 rfl (lv_at hl 0 rfl) ?_
  refine lv_iconst (v := (0 : Int32)) hx hb dX3_clear_6 (by decide) ?_
  refine oa_put (ci := 3) (C := RX3) (T := TX3) (N := 3) (v := .int (0 : Int32)) (x := (0 : Int32)) hx hb hts inX3 tyX3 tyX3_ok nmX3 hown hE hw hH hS 1 n0 hn0 rfl rfl 2 (by decide) (hts _ tw_75) rfl rfl rfl (Nat.le_of_ble_eq_true rfl) rfl dX3_clear_7 (fun H locs hH hS => ?_)
  cases hf
  exact oa_retv hx hb hr hlocks hS hH dX3_clear_10
theorem cX3_clear_ok (l : Launch) (D : va_G) (ca : Nat → ClassId) (ad : Nat → Nat → Nat) (b0 : Nat) (hw : oa_W ad b0) (n : Nat) (n0 : Nat) (hn0 : n0 < oa_n 1) (M : oa_M) (o : oa_M) (hf : FX3_clear n n0 M = some o) : oa_Mv l yX3_clear (oa_w yX3_clear cX3_clear 1 none) ({ frames := 0, cells := 0, slots := 0, locals := 0 } : Room) D ca ad b0 [.ref (ad 1 n0)] M o := cX3_clear_k l D ca ad b0 hw n n0 hn0 M o hf
def BX3_addName_26 (rec3 : Nat → Int32 → Int32 → oa_M → Option (oa_M)) (n : Nat) (n0 : Nat) (x1 : Int32) (x2 : Int32) (x3 : Int32) (M : oa_M) : Option (oa_M) := (rec3 n0 x1 (x2 + (-8 : Int32)) M)
def BX3_addName_3 : Nat → Nat → Int32 → Int32 → oa_M → Option (oa_M)
  | 0, _, _, _, _ => none
  | n + 1, n0, x1, x2, M => (if x2 < 0 then (some M) else (if ((x1 >>> (x2 &&& 31)) &&& (255 : Int32)) = 0 then (BX3_addName_26 (BX3_addName_3 n) n n0 x1 x2 ((x1 >>> (x2 &&& 31)) &&& (255 : Int32)) M) else (oa_bd (FX3_add n n0 (oa_i2c ((x1 >>> (x2 &&& 31)) &&& (255 : Int32))) M) (fun r3 M4 => (BX3_addName_26 (BX3_addName_3 n) n n0 x1 x2 ((x1 >>> (x2 &&& 31)) &&& (255 : Int32)) M4)))))
def FX3_addName (n : Nat) (n0 : Nat) (x1 : Int32) (M : oa_M) : Option (oa_M) := (BX3_addName_3 n n0 x1 (24 : Int32) M)
set_option maxHeartbeats 4000000 in
set_option maxRecDepth 100000 in
theorem bX3_addName_26 {p : Program} {l : Launch} {e : Env} {s : State} {m : MethodId} {args : Array Value} {below : List Frame} {meth : Method} {c : Code} {D : va_G} {ca : Nat → ClassId} {ad : Nat → Nat → Nat} {b0 : Nat} {o : oa_M} (C : oa_Cx p s m args meth c cX3_addName 4 (none) RX3 D ca b0 ad) (rec3 : Nat → Int32 → Int32 → oa_M → Option (oa_M)) (hrec3 : ∀ (n0 : Nat) (hn0 : n0 < oa_n 1) (x1 : Int32) (x2 : Int32) (M : oa_M), rec3 n0 x1 x2 M = some o → ∀ (H : Heap) (locs : List Loc), oa_H D ca ad M H → va_S (fun q => b0 ≤ q) s.heap H locs → ∀ (ls : Array Slot), lv_has ls 4 [(0, .ref (ad 1 n0)), (1, .int x1), (2, .int x2)] → W p l e ({ frames := 1, cells := 0, slots := 0, locals := 21 } : Room) s m args below meth c H locs 0 0 (MQ below (va_Qv (fun (u : oa_M) => u = o) (fun u t => oa_H D ca ad u t.heap) (fun q => b0 ≤ q)) args s 0 0 (fun q => b0 ≤ q)) (F0 m 3 ls [])) : ∀ (n : Nat), ∀ (n0 : Nat) (hn0 : n0 < oa_n 1) (x1 : Int32) (x2 : Int32) (x3 : Int32) (M : oa_M), BX3_addName_26 rec3 n n0 x1 x2 x3 M = some o → ∀ (H : Heap) (locs : List Loc), oa_H D ca ad M H → va_S (fun q => b0 ≤ q) s.heap H locs → ∀ (ls : Array Slot), lv_has ls 4 [(0, .ref (ad 1 n0)), (1, .int x1), (2, .int x2), (3, .int x3)] → W p l e ({ frames := 1, cells := 0, slots := 0, locals := 21 } : Room) s m args below meth c H locs 0 0 (MQ below (va_Qv (fun (u : oa_M) => u = o) (fun u t => oa_H D ca ad u t.heap) (fun q => b0 ≤ q)) args s 0 0 (fun q => b0 ≤ q)) (F0 m 26 ls []) := by
  obtain ⟨hx, hb, hml, hr, hlocks, hown, hts, hE, hw⟩ := id C
  intro n n0 hn0 x1 x2 x3 M hf H locs hH hS ls hl
  unfold BX3_addName_26 at hf
  refine lv_iinc (v := (x2 + (-8 : Int32))) (lv' := [(2, .int (x2 + (-8 : Int32))), (0, .ref (ad 1 n0)), (1, .int x1), (3, .int x3)]) hx hb dX3_addName_26 hl (k := 2) rfl rfl (by decide) rfl (fun ls hl => ?_)
  refine lv_goto (tgt := 3) hx hb dX3_addName_29 (by decide) ?_
  exact hrec3 n0 hn0 x1 (x2 + (-8 : Int32)) _ hf _ _ hH hS _ (lv_sub hl [1, 2, 0] rfl)
set_option maxHeartbeats 4000000 in
set_option maxRecDepth 100000 in
theorem bX3_addName_3 {p : Program} {l : Launch} {e : Env} {s : State} {m : MethodId} {args : Array Value} {below : List Frame} {meth : Method} {c : Code} {D : va_G} {ca : Nat → ClassId} {ad : Nat → Nat → Nat} {b0 : Nat} {o : oa_M} (C : oa_Cx p s m args meth c cX3_addName 4 (none) RX3 D ca b0 ad) : ∀ (n : Nat), ∀ (n0 : Nat) (hn0 : n0 < oa_n 1) (x1 : Int32) (x2 : Int32) (M : oa_M), BX3_addName_3 n n0 x1 x2 M = some o → ∀ (H : Heap) (locs : List Loc), oa_H D ca ad M H → va_S (fun q => b0 ≤ q) s.heap H locs → ∀ (ls : Array Slot), lv_has ls 4 [(0, .ref (ad 1 n0)), (1, .int x1), (2, .int x2)] → W p l e ({ frames := 1, cells := 0, slots := 0, locals := 21 } : Room) s m args below meth c H locs 0 0 (MQ below (va_Qv (fun (u : oa_M) => u = o) (fun u t => oa_H D ca ad u t.heap) (fun q => b0 ≤ q)) args s 0 0 (fun q => b0 ≤ q)) (F0 m 3 ls []) := by
  obtain ⟨hx, hb, hml, hr, hlocks, hown, hts, hE, hw⟩ := id C
  intro n
  induction n with
  | zero => intro n0 hn0 x1 x2 M hf; cases hf
  | succ n ih =>
    intro n0 hn0 x1 x2 M hf H locs hH hS ls hl
    have hrec3 := ih
    unfold BX3_addName_3 at hf
    refine lv_iload_n hx hb dX3_addName_3 rfl (lv_at hl 2 rfl) ?_
    refine lv_if_lt (tgt := 32) hx hb dX3_addName_4 (by decide) (fun hq1 => ?_) (fun hq1 => ?_)
    · rw [if_pos hq1] at hf
      cases hf
      exact oa_retv hx hb hr hlocks hS hH dX3_addName_32
    · rw [if_neg hq1] at hf
      refine lv_iload_n hx hb dX3_addName_7 rfl (lv_at hl 1 rfl) ?_
      refine lv_iload_n hx hb dX3_addName_8 rfl (lv_at hl 2 rfl) ?_
      refine lv_ishr hx hb dX3_addName_9 ?_
      refine lv_sipush (v := (255 : Int32)) hx hb dX3_addName_10 (by decide) ?_
      refine lv_iand hx hb dX3_addName_13 ?_
      refine lv_istore_n (lv' := [(3, .int ((x1 >>> (x2 &&& 31)) &&& (255 : Int32))), (0, .ref (ad 1 n0)), (1, .int x1), (2, .int x2)]) hx hb dX3_addName_14 rfl hl (by decide) rfl (fun ls hl => ?_)
      refine lv_iload_n hx hb dX3_addName_15 rfl (lv_at hl 0 rfl) ?_
      refine lv_if_eq (tgt := 26) hx hb dX3_addName_16 (by decide) (fun hq2 => ?_) (fun hq2 => ?_)
      · rw [if_pos hq2] at hf
        exact bX3_addName_26 C _ hrec3 n n0 hn0 x1 x2 ((x1 >>> (x2 &&& 31)) &&& (255 : Int32)) _ hf _ _ hH hS _ (lv_sub hl [1, 2, 3, 0] rfl)
      · rw [if_neg hq2] at hf
        refine lv_aload_n hx hb dX3_addName_19 rfl (lv_at hl 1 rfl) ?_
        refine lv_iload_n hx hb dX3_addName_20 rfl (lv_at hl 0 rfl) ?_
        refine lv_i2c (v := (oa_i2c ((x1 >>> (x2 &&& 31)) &&& (255 : Int32)))) hx hb dX3_addName_21 rfl ?_
        obtain ⟨r3, M4, hc5, hf⟩ := oa_bdE hf
        refine oa_cvi (As := [.int (oa_i2c ((x1 >>> (x2 &&& 31)) &&& (255 : Int32)))]) (rest := []) ⟨hx, hb, hml, hown, hts⟩ (cX3_add_ok l D ca ad b0 hw n n0 hn0 (oa_i2c ((x1 >>> (x2 &&& 31)) &&& (255 : Int32))) _ _ _ hc5) (cwV 1 hts (oa_gV tw_507 tw_209 tw_210 tw_45 tw_211) rfl rfl rfl (by decide +kernel) ⟨Nat.le_of_ble_eq_true rfl, Nat.le_of_ble_eq_true rfl⟩) hE hH hS (oa_recv (k := 1) (ci := 3) hE hH hn0 rfl rfl) rfl hl.1 rfl (Nat.le_of_ble_eq_true rfl) dX3_addName_22 ⟨by decide, by decide⟩ (fun H locs hH hS => ?_)
        refine lv_pop hx hb dX3_addName_25 rfl ?_
        exact bX3_addName_26 C _ hrec3 n n0 hn0 x1 x2 ((x1 >>> (x2 &&& 31)) &&& (255 : Int32)) _ hf _ _ hH hS _ (lv_sub hl [1, 2, 3, 0] rfl)
set_option maxHeartbeats 4000000 in
set_option maxRecDepth 100000 in
theorem cX3_addName_k (l : Launch) (D : va_G) (ca : Nat → ClassId) (ad : Nat → Nat → Nat) (b0 : Nat) (hw : oa_W ad b0) (n : Nat) (n0 : Nat) (hn0 : n0 < oa_n 1) (x1 : Int32) (M : oa_M) (o : oa_M) (hf : FX3_addName n n0 x1 M = some o) : oa_Mv l yX3_addName (oa_w yX3_addName cX3_addName 4 none) ({ frames := 1, cells := 0, slots := 0, locals := 21 } : Room) D ca ad b0 [.ref (ad 1 n0), .int x1] M o := by
  refine oa_ofW (cc := cX3_addName) (maxL := 4) (ret := none) (by decide) rfl (Nat.le_of_ble_eq_true rfl) ?_
  intro p e s m below meth c hx hb hml hr hlocks hown hts0 hP ls hl
  obtain ⟨hH, hE⟩ := hP
  have hts : ∀ w ∈ oa_T, w.before _ s = true := fun w h => hts0 w (List.mem_cons_of_mem _ h)
  have hS : va_S (fun q => b0 ≤ q) s.heap s.heap [] := va_S.rf
  have C : oa_Cx p s m _ meth c cX3_addName 4 (none) RX3 D ca b0 ad := ⟨hx, hb, hml, hr, hlocks, hown, hts, hE, hw⟩
  have hl : lv_has ls 4 [(0, .ref (ad 1 n0)), (1, .int x1)] := hl
  unfold FX3_addName at hf
  refine lv_bipush (v := (24 : Int32)) hx hb dX3_addName_0 (by decide) ?_
  refine lv_istore_n (lv' := [(2, .int (24 : Int32)), (0, .ref (ad 1 n0)), (1, .int x1)]) hx hb dX3_addName_2 rfl hl (by decide) rfl (fun ls hl => ?_)
  exact bX3_addName_3 C n n0 hn0 x1 (24 : Int32) _ hf _ _ hH hS _ (lv_sub hl [1, 2, 0] rfl)
theorem cX3_addName_ok (l : Launch) (D : va_G) (ca : Nat → ClassId) (ad : Nat → Nat → Nat) (b0 : Nat) (hw : oa_W ad b0) (n : Nat) (n0 : Nat) (hn0 : n0 < oa_n 1) (x1 : Int32) (M : oa_M) (o : oa_M) (hf : FX3_addName n n0 x1 M = some o) : oa_Mv l yX3_addName (oa_w yX3_addName cX3_addName 4 none) ({ frames := 1, cells := 0, slots := 0, locals := 21 } : Room) D ca ad b0 [.ref (ad 1 n0), .int x1] M o := cX3_addName_k l D ca ad b0 hw n n0 hn0 x1 M o hf
def BX3_addNumber_55 (rec25 : Nat → Int32 → Int32 → Int32 → oa_M → Option (oa_M)) (n : Nat) (n0 : Nat) (x1 : Int32) (x2 : Int32) (x3 : Int32) (M : oa_M) : Option (oa_M) := (rec25 n0 x1 x2 (x3 / (10 : Int32)) M)
def BX3_addNumber_40 (rec25 : Nat → Int32 → Int32 → Int32 → oa_M → Option (oa_M)) (n : Nat) (n0 : Nat) (x1 : Int32) (x2 : Int32) (x3 : Int32) (M : oa_M) : Option (oa_M) := (if ¬ x3 = 0 then (oa_bd (FX3_add n n0 (oa_i2c ((48 : Int32) + (oa_rem (x2 / x3) (10 : Int32)))) M) (fun r2 M3 => (BX3_addNumber_55 rec25 n n0 x1 x2 x3 M3))) else none)
def BX3_addNumber_25 : Nat → Nat → Int32 → Int32 → Int32 → oa_M → Option (oa_M)
  | 0, _, _, _, _, _ => none
  | n + 1, n0, x1, x2, x3, M => (if x3 < (1 : Int32) then (some M) else (if x3 ≤ x2 then (BX3_addNumber_40 (BX3_addNumber_25 n) n n0 x1 x2 x3 M) else (if x3 = (1 : Int32) then (BX3_addNumber_40 (BX3_addNumber_25 n) n n0 x1 x2 x3 M) else (BX3_addNumber_55 (BX3_addNumber_25 n) n n0 x1 x2 x3 M))))
def BX3_addNumber_21 (n : Nat) (n0 : Nat) (x1 : Int32) (z0 : Int32) (M : oa_M) : Option (oa_M) := (BX3_addNumber_25 n n0 x1 z0 (100000 : Int32) M)
def BX3_addNumber_11 (n : Nat) (n0 : Nat) (x1 : Int32) (M : oa_M) : Option (oa_M) := (if 0 ≤ x1 then (BX3_addNumber_21 n n0 x1 x1 M) else (BX3_addNumber_21 n n0 x1 (-x1) M))
def FX3_addNumber (n : Nat) (n0 : Nat) (x1 : Int32) (M : oa_M) : Option (oa_M) := (if 0 ≤ x1 then (BX3_addNumber_11 n n0 x1 M) else (oa_bd (FX3_add n n0 (45 : Int32) M) (fun r2 M3 => (BX3_addNumber_11 n n0 x1 M3))))
set_option maxHeartbeats 4000000 in
set_option maxRecDepth 100000 in
theorem bX3_addNumber_55 {p : Program} {l : Launch} {e : Env} {s : State} {m : MethodId} {args : Array Value} {below : List Frame} {meth : Method} {c : Code} {D : va_G} {ca : Nat → ClassId} {ad : Nat → Nat → Nat} {b0 : Nat} {o : oa_M} (C : oa_Cx p s m args meth c cX3_addNumber 4 (none) RX3 D ca b0 ad) (rec25 : Nat → Int32 → Int32 → Int32 → oa_M → Option (oa_M)) (hrec25 : ∀ (n0 : Nat) (hn0 : n0 < oa_n 1) (x1 : Int32) (x2 : Int32) (x3 : Int32) (M : oa_M), rec25 n0 x1 x2 x3 M = some o → ∀ (H : Heap) (locs : List Loc), oa_H D ca ad M H → va_S (fun q => b0 ≤ q) s.heap H locs → ∀ (ls : Array Slot), lv_has ls 4 [(0, .ref (ad 1 n0)), (1, .int x1), (2, .int x2), (3, .int x3)] → W p l e ({ frames := 1, cells := 0, slots := 0, locals := 21 } : Room) s m args below meth c H locs 0 0 (MQ below (va_Qv (fun (u : oa_M) => u = o) (fun u t => oa_H D ca ad u t.heap) (fun q => b0 ≤ q)) args s 0 0 (fun q => b0 ≤ q)) (F0 m 25 ls [])) : ∀ (n : Nat), ∀ (n0 : Nat) (hn0 : n0 < oa_n 1) (x1 : Int32) (x2 : Int32) (x3 : Int32) (M : oa_M), BX3_addNumber_55 rec25 n n0 x1 x2 x3 M = some o → ∀ (H : Heap) (locs : List Loc), oa_H D ca ad M H → va_S (fun q => b0 ≤ q) s.heap H locs → ∀ (ls : Array Slot), lv_has ls 4 [(0, .ref (ad 1 n0)), (1, .int x1), (2, .int x2), (3, .int x3)] → W p l e ({ frames := 1, cells := 0, slots := 0, locals := 21 } : Room) s m args below meth c H locs 0 0 (MQ below (va_Qv (fun (u : oa_M) => u = o) (fun u t => oa_H D ca ad u t.heap) (fun q => b0 ≤ q)) args s 0 0 (fun q => b0 ≤ q)) (F0 m 55 ls []) := by
  obtain ⟨hx, hb, hml, hr, hlocks, hown, hts, hE, hw⟩ := id C
  intro n n0 hn0 x1 x2 x3 M hf H locs hH hS ls hl
  unfold BX3_addNumber_55 at hf
  refine lv_iload_n hx hb dX3_addNumber_55 rfl (lv_at hl 3 rfl) ?_
  refine lv_bipush (v := (10 : Int32)) hx hb dX3_addNumber_56 (by decide) ?_
  refine lv_idiv hx hb dX3_addNumber_58 (by decide) ?_
  refine lv_istore_n (lv' := [(3, .int (x3 / (10 : Int32))), (0, .ref (ad 1 n0)), (1, .int x1), (2, .int x2)]) hx hb dX3_addNumber_59 rfl hl (by decide) rfl (fun ls hl => ?_)
  refine lv_goto (tgt := 25) hx hb dX3_addNumber_60 (by decide) ?_
  exact hrec25 n0 hn0 x1 x2 (x3 / (10 : Int32)) _ hf _ _ hH hS _ (lv_sub hl [1, 2, 3, 0] rfl)
set_option maxHeartbeats 4000000 in
set_option maxRecDepth 100000 in
theorem bX3_addNumber_40 {p : Program} {l : Launch} {e : Env} {s : State} {m : MethodId} {args : Array Value} {below : List Frame} {meth : Method} {c : Code} {D : va_G} {ca : Nat → ClassId} {ad : Nat → Nat → Nat} {b0 : Nat} {o : oa_M} (C : oa_Cx p s m args meth c cX3_addNumber 4 (none) RX3 D ca b0 ad) (rec25 : Nat → Int32 → Int32 → Int32 → oa_M → Option (oa_M)) (hrec25 : ∀ (n0 : Nat) (hn0 : n0 < oa_n 1) (x1 : Int32) (x2 : Int32) (x3 : Int32) (M : oa_M), rec25 n0 x1 x2 x3 M = some o → ∀ (H : Heap) (locs : List Loc), oa_H D ca ad M H → va_S (fun q => b0 ≤ q) s.heap H locs → ∀ (ls : Array Slot), lv_has ls 4 [(0, .ref (ad 1 n0)), (1, .int x1), (2, .int x2), (3, .int x3)] → W p l e ({ frames := 1, cells := 0, slots := 0, locals := 21 } : Room) s m args below meth c H locs 0 0 (MQ below (va_Qv (fun (u : oa_M) => u = o) (fun u t => oa_H D ca ad u t.heap) (fun q => b0 ≤ q)) args s 0 0 (fun q => b0 ≤ q)) (F0 m 25 ls [])) : ∀ (n : Nat), ∀ (n0 : Nat) (hn0 : n0 < oa_n 1) (x1 : Int32) (x2 : Int32) (x3 : Int32) (M : oa_M), BX3_addNumber_40 rec25 n n0 x1 x2 x3 M = some o → ∀ (H : Heap) (locs : List Loc), oa_H D ca ad M H → va_S (fun q => b0 ≤ q) s.heap H locs → ∀ (ls : Array Slot), lv_has ls 4 [(0, .ref (ad 1 n0)), (1, .int x1), (2, .int x2), (3, .int x3)] → W p l e ({ frames := 1, cells := 0, slots := 0, locals := 21 } : Room) s m args below meth c H locs 0 0 (MQ below (va_Qv (fun (u : oa_M) => u = o) (fun u t => oa_H D ca ad u t.heap) (fun q => b0 ≤ q)) args s 0 0 (fun q => b0 ≤ q)) (F0 m 40 ls []) := by
  obtain ⟨hx, hb, hml, hr, hlocks, hown, hts, hE, hw⟩ := id C
  intro n n0 hn0 x1 x2 x3 M hf H locs hH hS ls hl
  unfold BX3_addNumber_40 at hf
  refine lv_aload_n hx hb dX3_addNumber_40 rfl (lv_at hl 0 rfl) ?_
  refine lv_bipush (v := (48 : Int32)) hx hb dX3_addNumber_41 (by decide) ?_
  refine lv_iload_n hx hb dX3_addNumber_43 rfl (lv_at hl 2 rfl) ?_
  refine lv_iload_n hx hb dX3_addNumber_44 rfl (lv_at hl 3 rfl) ?_
  obtain ⟨hk1, hf⟩ := oa_ck hf
  refine lv_idiv hx hb dX3_addNumber_45 hk1 ?_
  refine lv_bipush (v := (10 : Int32)) hx hb dX3_addNumber_46 (by decide) ?_
  refine lv_irem hx hb dX3_addNumber_48 (by decide) ?_
  refine lv_iadd hx hb dX3_addNumber_49 ?_
  refine lv_i2c (v := (oa_i2c ((48 : Int32) + (oa_rem (x2 / x3) (10 : Int32))))) hx hb dX3_addNumber_50 rfl ?_
  obtain ⟨r2, M3, hc4, hf⟩ := oa_bdE hf
  refine oa_cvi (As := [.int (oa_i2c ((48 : Int32) + (oa_rem (x2 / x3) (10 : Int32))))]) (rest := []) ⟨hx, hb, hml, hown, hts⟩ (cX3_add_ok l D ca ad b0 hw n n0 hn0 (oa_i2c ((48 : Int32) + (oa_rem (x2 / x3) (10 : Int32)))) _ _ _ hc4) (cwV 1 hts (oa_gV tw_507 tw_209 tw_210 tw_45 tw_211) rfl rfl rfl (by decide +kernel) ⟨Nat.le_of_ble_eq_true rfl, Nat.le_of_ble_eq_true rfl⟩) hE hH hS (oa_recv (k := 1) (ci := 3) hE hH hn0 rfl rfl) rfl hl.1 rfl (Nat.le_of_ble_eq_true rfl) dX3_addNumber_51 ⟨by decide, by decide⟩ (fun H locs hH hS => ?_)
  refine lv_pop hx hb dX3_addNumber_54 rfl ?_
  exact bX3_addNumber_55 C _ hrec25 n n0 hn0 x1 x2 x3 _ hf _ _ hH hS _ (lv_sub hl [0, 1, 2, 3] rfl)
set_option maxHeartbeats 4000000 in
set_option maxRecDepth 100000 in
theorem bX3_addNumber_25 {p : Program} {l : Launch} {e : Env} {s : State} {m : MethodId} {args : Array Value} {below : List Frame} {meth : Method} {c : Code} {D : va_G} {ca : Nat → ClassId} {ad : Nat → Nat → Nat} {b0 : Nat} {o : oa_M} (C : oa_Cx p s m args meth c cX3_addNumber 4 (none) RX3 D ca b0 ad) : ∀ (n : Nat), ∀ (n0 : Nat) (hn0 : n0 < oa_n 1) (x1 : Int32) (x2 : Int32) (x3 : Int32) (M : oa_M), BX3_addNumber_25 n n0 x1 x2 x3 M = some o → ∀ (H : Heap) (locs : List Loc), oa_H D ca ad M H → va_S (fun q => b0 ≤ q) s.heap H locs → ∀ (ls : Array Slot), lv_has ls 4 [(0, .ref (ad 1 n0)), (1, .int x1), (2, .int x2), (3, .int x3)] → W p l e ({ frames := 1, cells := 0, slots := 0, locals := 21 } : Room) s m args below meth c H locs 0 0 (MQ below (va_Qv (fun (u : oa_M) => u = o) (fun u t => oa_H D ca ad u t.heap) (fun q => b0 ≤ q)) args s 0 0 (fun q => b0 ≤ q)) (F0 m 25 ls []) := by
  obtain ⟨hx, hb, hml, hr, hlocks, hown, hts, hE, hw⟩ := id C
  intro n
  induction n with
  | zero => intro n0 hn0 x1 x2 x3 M hf; cases hf
  | succ n ih =>
    intro n0 hn0 x1 x2 x3 M hf H locs hH hS ls hl
    have hrec25 := ih
    unfold BX3_addNumber_25 at hf
    refine lv_iload_n hx hb dX3_addNumber_25 rfl (lv_at hl 3 rfl) ?_
    refine lv_iconst (v := (1 : Int32)) hx hb dX3_addNumber_26 (by decide) ?_
    refine lv_icmp_lt (tgt := 63) hx hb dX3_addNumber_27 (by decide) (fun hq1 => ?_) (fun hq1 => ?_)
    · rw [if_pos hq1] at hf
      cases hf
      exact oa_retv hx hb hr hlocks hS hH dX3_addNumber_63
    · rw [if_neg hq1] at hf
      refine lv_iload_n hx hb dX3_addNumber_30 rfl (lv_at hl 2 rfl) ?_
      refine lv_iload_n hx hb dX3_addNumber_31 rfl (lv_at hl 3 rfl) ?_
      refine lv_icmp_ge (tgt := 40) hx hb dX3_addNumber_32 (by decide) (fun hq2 => ?_) (fun hq2 => ?_)
      · rw [if_pos hq2] at hf
        exact bX3_addNumber_40 C _ hrec25 n n0 hn0 x1 x2 x3 _ hf _ _ hH hS _ (lv_sub hl [0, 1, 2, 3] rfl)
      · rw [if_neg hq2] at hf
        refine lv_iload_n hx hb dX3_addNumber_35 rfl (lv_at hl 3 rfl) ?_
        refine lv_iconst (v := (1 : Int32)) hx hb dX3_addNumber_36 (by decide) ?_
        refine lv_icmp_ne (tgt := 55) hx hb dX3_addNumber_37 (by decide) (fun hq3 => ?_) (fun hq3 => ?_)
        · rw [if_neg hq3] at hf
          exact bX3_addNumber_55 C _ hrec25 n n0 hn0 x1 x2 x3 _ hf _ _ hH hS _ (lv_sub hl [0, 1, 2, 3] rfl)
        · rw [if_pos hq3] at hf
          exact bX3_addNumber_40 C _ hrec25 n n0 hn0 x1 x2 x3 _ hf _ _ hH hS _ (lv_sub hl [0, 1, 2, 3] rfl)
set_option maxHeartbeats 4000000 in
set_option maxRecDepth 100000 in
theorem bX3_addNumber_21 {p : Program} {l : Launch} {e : Env} {s : State} {m : MethodId} {args : Array Value} {below : List Frame} {meth : Method} {c : Code} {D : va_G} {ca : Nat → ClassId} {ad : Nat → Nat → Nat} {b0 : Nat} {o : oa_M} (C : oa_Cx p s m args meth c cX3_addNumber 4 (none) RX3 D ca b0 ad) : ∀ (n : Nat), ∀ (n0 : Nat) (hn0 : n0 < oa_n 1) (x1 : Int32) (z0 : Int32) (M : oa_M), BX3_addNumber_21 n n0 x1 z0 M = some o → ∀ (H : Heap) (locs : List Loc), oa_H D ca ad M H → va_S (fun q => b0 ≤ q) s.heap H locs → ∀ (ls : Array Slot), lv_has ls 4 [(0, .ref (ad 1 n0)), (1, .int x1)] → W p l e ({ frames := 1, cells := 0, slots := 0, locals := 21 } : Room) s m args below meth c H locs 0 0 (MQ below (va_Qv (fun (u : oa_M) => u = o) (fun u t => oa_H D ca ad u t.heap) (fun q => b0 ≤ q)) args s 0 0 (fun q => b0 ≤ q)) (F0 m 21 ls [.int z0]) := by
  obtain ⟨hx, hb, hml, hr, hlocks, hown, hts, hE, hw⟩ := id C
  intro n n0 hn0 x1 z0 M hf H locs hH hS ls hl
  unfold BX3_addNumber_21 at hf
  refine lv_istore_n (lv' := [(2, .int z0), (0, .ref (ad 1 n0)), (1, .int x1)]) hx hb dX3_addNumber_21 rfl hl (by decide) rfl (fun ls hl => ?_)
  refine lv_ldc (v := (100000 : Int32)) hx hb hown (hts _ tw_512) dX3_addNumber_22 ?_
  refine lv_istore_n (lv' := [(3, .int (100000 : Int32)), (2, .int z0), (0, .ref (ad 1 n0)), (1, .int x1)]) hx hb dX3_addNumber_24 rfl hl (by decide) rfl (fun ls hl => ?_)
  exact bX3_addNumber_25 C n n0 hn0 x1 z0 (100000 : Int32) _ hf _ _ hH hS _ (lv_sub hl [2, 3, 1, 0] rfl)
set_option maxHeartbeats 4000000 in
set_option maxRecDepth 100000 in
theorem bX3_addNumber_11 {p : Program} {l : Launch} {e : Env} {s : State} {m : MethodId} {args : Array Value} {below : List Frame} {meth : Method} {c : Code} {D : va_G} {ca : Nat → ClassId} {ad : Nat → Nat → Nat} {b0 : Nat} {o : oa_M} (C : oa_Cx p s m args meth c cX3_addNumber 4 (none) RX3 D ca b0 ad) : ∀ (n : Nat), ∀ (n0 : Nat) (hn0 : n0 < oa_n 1) (x1 : Int32) (M : oa_M), BX3_addNumber_11 n n0 x1 M = some o → ∀ (H : Heap) (locs : List Loc), oa_H D ca ad M H → va_S (fun q => b0 ≤ q) s.heap H locs → ∀ (ls : Array Slot), lv_has ls 4 [(0, .ref (ad 1 n0)), (1, .int x1)] → W p l e ({ frames := 1, cells := 0, slots := 0, locals := 21 } : Room) s m args below meth c H locs 0 0 (MQ below (va_Qv (fun (u : oa_M) => u = o) (fun u t => oa_H D ca ad u t.heap) (fun q => b0 ≤ q)) args s 0 0 (fun q => b0 ≤ q)) (F0 m 11 ls []) := by
  obtain ⟨hx, hb, hml, hr, hlocks, hown, hts, hE, hw⟩ := id C
  intro n n0 hn0 x1 M hf H locs hH hS ls hl
  unfold BX3_addNumber_11 at hf
  refine lv_iload_n hx hb dX3_addNumber_11 rfl (lv_at hl 1 rfl) ?_
  refine lv_if_ge (tgt := 20) hx hb dX3_addNumber_12 (by decide) (fun hq1 => ?_) (fun hq1 => ?_)
  · rw [if_pos hq1] at hf
    refine lv_iload_n hx hb dX3_addNumber_20 rfl (lv_at hl 1 rfl) ?_
    exact bX3_addNumber_21 C n n0 hn0 x1 x1 _ hf _ _ hH hS _ (lv_sub hl [0, 1] rfl)
  · rw [if_neg hq1] at hf
    refine lv_iload_n hx hb dX3_addNumber_15 rfl (lv_at hl 1 rfl) ?_
    refine lv_ineg hx hb dX3_addNumber_16 ?_
    refine lv_goto (tgt := 21) hx hb dX3_addNumber_17 (by decide) ?_
    exact bX3_addNumber_21 C n n0 hn0 x1 (-x1) _ hf _ _ hH hS _ (lv_sub hl [0, 1] rfl)
set_option maxHeartbeats 4000000 in
set_option maxRecDepth 100000 in
theorem cX3_addNumber_k (l : Launch) (D : va_G) (ca : Nat → ClassId) (ad : Nat → Nat → Nat) (b0 : Nat) (hw : oa_W ad b0) (n : Nat) (n0 : Nat) (hn0 : n0 < oa_n 1) (x1 : Int32) (M : oa_M) (o : oa_M) (hf : FX3_addNumber n n0 x1 M = some o) : oa_Mv l yX3_addNumber (oa_w yX3_addNumber cX3_addNumber 4 none) ({ frames := 1, cells := 0, slots := 0, locals := 21 } : Room) D ca ad b0 [.ref (ad 1 n0), .int x1] M o := by
  refine oa_ofW (cc := cX3_addNumber) (maxL := 4) (ret := none) (by decide) rfl (Nat.le_of_ble_eq_true rfl) ?_
  intro p e s m below meth c hx hb hml hr hlocks hown hts0 hP ls hl
  obtain ⟨hH, hE⟩ := hP
  have hts : ∀ w ∈ oa_T, w.before _ s = true := fun w h => hts0 w (List.mem_cons_of_mem _ h)
  have hS : va_S (fun q => b0 ≤ q) s.heap s.heap [] := va_S.rf
  have C : oa_Cx p s m _ meth c cX3_addNumber 4 (none) RX3 D ca b0 ad := ⟨hx, hb, hml, hr, hlocks, hown, hts, hE, hw⟩
  have hl : lv_has ls 4 [(0, .ref (ad 1 n0)), (1, .int x1)] := hl
  unfold FX3_addNumber at hf
  refine lv_iload_n hx hb dX3_addNumber_0 rfl (lv_at hl 1 rfl) ?_
  refine lv_if_ge (tgt := 11) hx hb dX3_addNumber_1 (by decide) (fun hq1 => ?_) (fun hq1 => ?_)
  · rw [if_pos hq1] at hf
    exact bX3_addNumber_11 C n n0 hn0 x1 _ hf _ _ hH hS _ (lv_sub hl [0, 1] rfl)
  · rw [if_neg hq1] at hf
    refine lv_aload_n hx hb dX3_addNumber_4 rfl (lv_at hl 0 rfl) ?_
    refine lv_bipush (v := (45 : Int32)) hx hb dX3_addNumber_5 (by decide) ?_
    obtain ⟨r2, M3, hc4, hf⟩ := oa_bdE hf
    refine oa_cvi (As := [.int (45 : Int32)]) (rest := []) ⟨hx, hb, hml, hown, hts⟩ (cX3_add_ok l D ca ad b0 hw n n0 hn0 (45 : Int32) _ _ _ hc4) (cwV 1 hts (oa_gV tw_507 tw_209 tw_210 tw_45 tw_211) rfl rfl rfl (by decide +kernel) ⟨Nat.le_of_ble_eq_true rfl, Nat.le_of_ble_eq_true rfl⟩) hE hH hS (oa_recv (k := 1) (ci := 3) hE hH hn0 rfl rfl) rfl hl.1 rfl (Nat.le_of_ble_eq_true rfl) dX3_addNumber_7 ⟨by decide, by decide⟩ (fun H locs hH hS => ?_)
    refine lv_pop hx hb dX3_addNumber_10 rfl ?_
    exact bX3_addNumber_11 C n n0 hn0 x1 _ hf _ _ hH hS _ (lv_sub hl [0, 1] rfl)
theorem cX3_addNumber_ok (l : Launch) (D : va_G) (ca : Nat → ClassId) (ad : Nat → Nat → Nat) (b0 : Nat) (hw : oa_W ad b0) (n : Nat) (n0 : Nat) (hn0 : n0 < oa_n 1) (x1 : Int32) (M : oa_M) (o : oa_M) (hf : FX3_addNumber n n0 x1 M = some o) : oa_Mv l yX3_addNumber (oa_w yX3_addNumber cX3_addNumber 4 none) ({ frames := 1, cells := 0, slots := 0, locals := 21 } : Room) D ca ad b0 [.ref (ad 1 n0), .int x1] M o := cX3_addNumber_k l D ca ad b0 hw n n0 hn0 x1 M o hf
def BX3_takeLabel_22 (n : Nat) (n0 : Nat) (z0 : Int32) (M : oa_M) : Option (Int32 × oa_M) := (some (z0, M))
def FX3_takeLabel (n : Nat) (n0 : Nat) (M : oa_M) : Option (Int32 × oa_M) := (oa_bd (FX3_nextIsWithin n n0 (65 : Int32) (70 : Int32) M) (fun r1 M2 => (if r1 = 0 then (BX3_takeLabel_22 n n0 (-1 : Int32) M2) else (oa_bd (FX3_takeAny n n0 M2) (fun r5 M6 => (BX3_takeLabel_22 n n0 (r5 - (65 : Int32)) M6))))))
set_option maxHeartbeats 4000000 in
set_option maxRecDepth 100000 in
theorem bX3_takeLabel_22 {p : Program} {l : Launch} {e : Env} {s : State} {m : MethodId} {args : Array Value} {below : List Frame} {meth : Method} {c : Code} {D : va_G} {ca : Nat → ClassId} {ad : Nat → Nat → Nat} {b0 : Nat} {o : Int32 × oa_M} (C : oa_Cx p s m args meth c cX3_takeLabel 1 (some .int) RX3 D ca b0 ad) : ∀ (n : Nat), ∀ (n0 : Nat) (hn0 : n0 < oa_n 1) (z0 : Int32) (M : oa_M), BX3_takeLabel_22 n n0 z0 M = some o → ∀ (H : Heap) (locs : List Loc), oa_H D ca ad M H → va_S (fun q => b0 ≤ q) s.heap H locs → ∀ (ls : Array Slot), lv_has ls 1 [(0, .ref (ad 1 n0))] → W p l e ({ frames := 2, cells := 0, slots := 0, locals := 42 } : Room) s m args below meth c H locs 0 0 (MQ below (va_Qi (fun (r' : Int32) (u : oa_M) => r' = o.1 ∧ u = o.2) (fun u t => oa_H D ca ad u t.heap) (fun q => b0 ≤ q)) args s 0 0 (fun q => b0 ≤ q)) (F0 m 22 ls [.int z0]) := by
  obtain ⟨hx, hb, hml, hr, hlocks, hown, hts, hE, hw⟩ := id C
  intro n n0 hn0 z0 M hf H locs hH hS ls hl
  unfold BX3_takeLabel_22 at hf
  cases hf
  exact oa_reti hx hb hr hlocks rfl hS hH dX3_takeLabel_22
set_option maxHeartbeats 4000000 in
set_option maxRecDepth 100000 in
theorem cX3_takeLabel_k (l : Launch) (D : va_G) (ca : Nat → ClassId) (ad : Nat → Nat → Nat) (b0 : Nat) (hw : oa_W ad b0) (n : Nat) (n0 : Nat) (hn0 : n0 < oa_n 1) (M : oa_M) (o : Int32 × oa_M) (hf : FX3_takeLabel n n0 M = some o) : oa_Mi l yX3_takeLabel (oa_w yX3_takeLabel cX3_takeLabel 1 (some .int)) ({ frames := 2, cells := 0, slots := 0, locals := 42 } : Room) D ca ad b0 [.ref (ad 1 n0)] M o.1 o.2 := by
  refine oa_ofW (cc := cX3_takeLabel) (maxL := 1) (ret := some .int) (by decide) rfl (Nat.le_of_ble_eq_true rfl) ?_
  intro p e s m below meth c hx hb hml hr hlocks hown hts0 hP ls hl
  obtain ⟨hH, hE⟩ := hP
  have hts : ∀ w ∈ oa_T, w.before _ s = true := fun w h => hts0 w (List.mem_cons_of_mem _ h)
  have hS : va_S (fun q => b0 ≤ q) s.heap s.heap [] := va_S.rf
  have C : oa_Cx p s m _ meth c cX3_takeLabel 1 (some .int) RX3 D ca b0 ad := ⟨hx, hb, hml, hr, hlocks, hown, hts, hE, hw⟩
  have hl : lv_has ls 1 [(0, .ref (ad 1 n0))] := hl
  unfold FX3_takeLabel at hf
  refine lv_aload_n hx hb dX3_takeLabel_0 rfl (lv_at hl 0 rfl) ?_
  refine lv_bipush (v := (65 : Int32)) hx hb dX3_takeLabel_1 (by decide) ?_
  refine lv_bipush (v := (70 : Int32)) hx hb dX3_takeLabel_3 (by decide) ?_
  obtain ⟨r1, M2, hc3, hf⟩ := oa_bdE hf
  refine oa_cvi (As := [.int (65 : Int32), .int (70 : Int32)]) (rest := []) ⟨hx, hb, hml, hown, hts⟩ (cX3_nextIsWithin_ok l D ca ad b0 hw n n0 hn0 (65 : Int32) (70 : Int32) _ _ _ hc3) (cwV 2 hts (oa_gV tw_271 tw_272 tw_273 tw_45 tw_274) rfl rfl rfl (by decide +kernel) ⟨Nat.le_of_ble_eq_true rfl, Nat.le_of_ble_eq_true rfl⟩) hE hH hS (oa_recv (k := 1) (ci := 3) hE hH hn0 rfl rfl) rfl hl.1 rfl (Nat.le_of_ble_eq_true rfl) dX3_takeLabel_5 ⟨by decide, by decide⟩ (fun H locs hH hS => ?_)
  refine lv_if_eq (tgt := 21) hx hb dX3_takeLabel_8 (by decide) (fun hq4 => ?_) (fun hq4 => ?_)
  · rw [if_pos hq4] at hf
    refine lv_iconst (v := (-1 : Int32)) hx hb dX3_takeLabel_21 (by decide) ?_
    exact bX3_takeLabel_22 C n n0 hn0 (-1 : Int32) _ hf _ _ hH hS _ (lv_sub hl [0] rfl)
  · rw [if_neg hq4] at hf
    refine lv_aload_n hx hb dX3_takeLabel_11 rfl (lv_at hl 0 rfl) ?_
    obtain ⟨r5, M6, hc7, hf⟩ := oa_bdE hf
    refine oa_cvi (As := []) (rest := []) ⟨hx, hb, hml, hown, hts⟩ (cX3_takeAny_ok l D ca ad b0 hw n n0 hn0 _ _ _ hc7) (cwV 0 hts (oa_gV tw_275 tw_276 tw_277 tw_45 tw_278) rfl rfl rfl (by decide +kernel) ⟨Nat.le_of_ble_eq_true rfl, Nat.le_of_ble_eq_true rfl⟩) hE hH hS (oa_recv (k := 1) (ci := 3) hE hH hn0 rfl rfl) rfl hl.1 rfl (Nat.le_of_ble_eq_true rfl) dX3_takeLabel_12 ⟨by decide, by decide⟩ (fun H locs hH hS => ?_)
    refine lv_bipush (v := (65 : Int32)) hx hb dX3_takeLabel_15 (by decide) ?_
    refine lv_isub hx hb dX3_takeLabel_17 ?_
    refine lv_goto (tgt := 22) hx hb dX3_takeLabel_18 (by decide) ?_
    exact bX3_takeLabel_22 C n n0 hn0 (r5 - (65 : Int32)) _ hf _ _ hH hS _ (lv_sub hl [0] rfl)
theorem cX3_takeLabel_ok (l : Launch) (D : va_G) (ca : Nat → ClassId) (ad : Nat → Nat → Nat) (b0 : Nat) (hw : oa_W ad b0) (n : Nat) (n0 : Nat) (hn0 : n0 < oa_n 1) (M : oa_M) (r : Int32) (M' : oa_M) (hf : FX3_takeLabel n n0 M = some (r, M')) : oa_Mi l yX3_takeLabel (oa_w yX3_takeLabel cX3_takeLabel 1 (some .int)) ({ frames := 2, cells := 0, slots := 0, locals := 42 } : Room) D ca ad b0 [.ref (ad 1 n0)] M r M' := cX3_takeLabel_k l D ca ad b0 hw n n0 hn0 M (r, M') hf
def BX3_takeDigits_52 (n : Nat) (n0 : Nat) (x1 : Int32) (x2 : Int32) (M : oa_M) : Option (Int32 × oa_M) := (some (x1, M))
def BX3_takeDigits_17 : Nat → Nat → Int32 → Int32 → oa_M → Option (Int32 × oa_M)
  | 0, _, _, _, _ => none
  | n + 1, n0, x1, x2, M => (if (5 : Int32) ≤ x2 then (BX3_takeDigits_52 n n0 x1 x2 M) else (oa_bd (FX3_nextIsWithin n n0 (48 : Int32) (57 : Int32) M) (fun r2 M3 => (if r2 = 0 then (BX3_takeDigits_52 n n0 x1 x2 M3) else (oa_bd (FX3_takeAny n n0 M3) (fun r6 M7 => (BX3_takeDigits_17 n n0 (((x1 * (10 : Int32)) + r6) - (48 : Int32)) (x2 + (1 : Int32)) M7)))))))
def FX3_takeDigits (n : Nat) (n0 : Nat) (M : oa_M) : Option (Int32 × oa_M) := (oa_bd (FX3_nextIsWithin n n0 (48 : Int32) (57 : Int32) M) (fun r1 M2 => (if r1 = 0 then (some ((-1 : Int32), M2)) else (BX3_takeDigits_17 n n0 (0 : Int32) (0 : Int32) M2))))
set_option maxHeartbeats 4000000 in
set_option maxRecDepth 100000 in
theorem bX3_takeDigits_52 {p : Program} {l : Launch} {e : Env} {s : State} {m : MethodId} {args : Array Value} {below : List Frame} {meth : Method} {c : Code} {D : va_G} {ca : Nat → ClassId} {ad : Nat → Nat → Nat} {b0 : Nat} {o : Int32 × oa_M} (C : oa_Cx p s m args meth c cX3_takeDigits 3 (some .int) RX3 D ca b0 ad) : ∀ (n : Nat), ∀ (n0 : Nat) (hn0 : n0 < oa_n 1) (x1 : Int32) (x2 : Int32) (M : oa_M), BX3_takeDigits_52 n n0 x1 x2 M = some o → ∀ (H : Heap) (locs : List Loc), oa_H D ca ad M H → va_S (fun q => b0 ≤ q) s.heap H locs → ∀ (ls : Array Slot), lv_has ls 3 [(0, .ref (ad 1 n0)), (1, .int x1), (2, .int x2)] → W p l e ({ frames := 2, cells := 0, slots := 0, locals := 42 } : Room) s m args below meth c H locs 0 0 (MQ below (va_Qi (fun (r' : Int32) (u : oa_M) => r' = o.1 ∧ u = o.2) (fun u t => oa_H D ca ad u t.heap) (fun q => b0 ≤ q)) args s 0 0 (fun q => b0 ≤ q)) (F0 m 52 ls []) := by
  obtain ⟨hx, hb, hml, hr, hlocks, hown, hts, hE, hw⟩ := id C
  intro n n0 hn0 x1 x2 M hf H locs hH hS ls hl
  unfold BX3_takeDigits_52 at hf
  refine lv_iload_n hx hb dX3_takeDigits_52 rfl (lv_at hl 1 rfl) ?_
  cases hf
  exact oa_reti hx hb hr hlocks rfl hS hH dX3_takeDigits_53
set_option maxHeartbeats 4000000 in
set_option maxRecDepth 100000 in
theorem bX3_takeDigits_17 {p : Program} {l : Launch} {e : Env} {s : State} {m : MethodId} {args : Array Value} {below : List Frame} {meth : Method} {c : Code} {D : va_G} {ca : Nat → ClassId} {ad : Nat → Nat → Nat} {b0 : Nat} {o : Int32 × oa_M} (C : oa_Cx p s m args meth c cX3_takeDigits 3 (some .int) RX3 D ca b0 ad) : ∀ (n : Nat), ∀ (n0 : Nat) (hn0 : n0 < oa_n 1) (x1 : Int32) (x2 : Int32) (M : oa_M), BX3_takeDigits_17 n n0 x1 x2 M = some o → ∀ (H : Heap) (locs : List Loc), oa_H D ca ad M H → va_S (fun q => b0 ≤ q) s.heap H locs → ∀ (ls : Array Slot), lv_has ls 3 [(0, .ref (ad 1 n0)), (1, .int x1), (2, .int x2)] → W p l e ({ frames := 2, cells := 0, slots := 0, locals := 42 } : Room) s m args below meth c H locs 0 0 (MQ below (va_Qi (fun (r' : Int32) (u : oa_M) => r' = o.1 ∧ u = o.2) (fun u t => oa_H D ca ad u t.heap) (fun q => b0 ≤ q)) args s 0 0 (fun q => b0 ≤ q)) (F0 m 17 ls []) := by
  obtain ⟨hx, hb, hml, hr, hlocks, hown, hts, hE, hw⟩ := id C
  intro n
  induction n with
  | zero => intro n0 hn0 x1 x2 M hf; cases hf
  | succ n ih =>
    intro n0 hn0 x1 x2 M hf H locs hH hS ls hl
    have hrec17 := ih
    unfold BX3_takeDigits_17 at hf
    refine lv_iload_n hx hb dX3_takeDigits_17 rfl (lv_at hl 2 rfl) ?_
    refine lv_iconst (v := (5 : Int32)) hx hb dX3_takeDigits_18 (by decide) ?_
    refine lv_icmp_ge (tgt := 52) hx hb dX3_takeDigits_19 (by decide) (fun hq1 => ?_) (fun hq1 => ?_)
    · rw [if_pos hq1] at hf
      exact bX3_takeDigits_52 C n n0 hn0 x1 x2 _ hf _ _ hH hS _ (lv_sub hl [0, 1, 2] rfl)
    · rw [if_neg hq1] at hf
      refine lv_aload_n hx hb dX3_takeDigits_22 rfl (lv_at hl 0 rfl) ?_
      refine lv_bipush (v := (48 : Int32)) hx hb dX3_takeDigits_23 (by decide) ?_
      refine lv_bipush (v := (57 : Int32)) hx hb dX3_takeDigits_25 (by decide) ?_
      obtain ⟨r2, M3, hc4, hf⟩ := oa_bdE hf
      refine oa_cvi (As := [.int (48 : Int32), .int (57 : Int32)]) (rest := []) ⟨hx, hb, hml, hown, hts⟩ (cX3_nextIsWithin_ok l D ca ad b0 hw n n0 hn0 (48 : Int32) (57 : Int32) _ _ _ hc4) (cwV 2 hts (oa_gV tw_271 tw_272 tw_273 tw_45 tw_274) rfl rfl rfl (by decide +kernel) ⟨Nat.le_of_ble_eq_true rfl, Nat.le_of_ble_eq_true rfl⟩) hE hH hS (oa_recv (k := 1) (ci := 3) hE hH hn0 rfl rfl) rfl hl.1 rfl (Nat.le_of_ble_eq_true rfl) dX3_takeDigits_27 ⟨by decide, by decide⟩ (fun H locs hH hS => ?_)
      refine lv_if_eq (tgt := 52) hx hb dX3_takeDigits_30 (by decide) (fun hq5 => ?_) (fun hq5 => ?_)
      · rw [if_pos hq5] at hf
        exact bX3_takeDigits_52 C n n0 hn0 x1 x2 _ hf _ _ hH hS _ (lv_sub hl [0, 1, 2] rfl)
      · rw [if_neg hq5] at hf
        refine lv_iload_n hx hb dX3_takeDigits_33 rfl (lv_at hl 1 rfl) ?_
        refine lv_bipush (v := (10 : Int32)) hx hb dX3_takeDigits_34 (by decide) ?_
        refine lv_imul hx hb dX3_takeDigits_36 ?_
        refine lv_aload_n hx hb dX3_takeDigits_37 rfl (lv_at hl 0 rfl) ?_
        obtain ⟨r6, M7, hc8, hf⟩ := oa_bdE hf
        refine oa_cvi (As := []) (rest := [.int (x1 * (10 : Int32))]) ⟨hx, hb, hml, hown, hts⟩ (cX3_takeAny_ok l D ca ad b0 hw n n0 hn0 _ _ _ hc8) (cwV 0 hts (oa_gV tw_275 tw_276 tw_277 tw_45 tw_278) rfl rfl rfl (by decide +kernel) ⟨Nat.le_of_ble_eq_true rfl, Nat.le_of_ble_eq_true rfl⟩) hE hH hS (oa_recv (k := 1) (ci := 3) hE hH hn0 rfl rfl) rfl hl.1 rfl (Nat.le_of_ble_eq_true rfl) dX3_takeDigits_38 ⟨by decide, by decide⟩ (fun H locs hH hS => ?_)
        refine lv_iadd hx hb dX3_takeDigits_41 ?_
        refine lv_bipush (v := (48 : Int32)) hx hb dX3_takeDigits_42 (by decide) ?_
        refine lv_isub hx hb dX3_takeDigits_44 ?_
        refine lv_istore_n (lv' := [(1, .int (((x1 * (10 : Int32)) + r6) - (48 : Int32))), (0, .ref (ad 1 n0)), (2, .int x2)]) hx hb dX3_takeDigits_45 rfl hl (by decide) rfl (fun ls hl => ?_)
        refine lv_iinc (v := (x2 + (1 : Int32))) (lv' := [(2, .int (x2 + (1 : Int32))), (1, .int (((x1 * (10 : Int32)) + r6) - (48 : Int32))), (0, .ref (ad 1 n0))]) hx hb dX3_takeDigits_46 hl (k := 2) rfl rfl (by decide) rfl (fun ls hl => ?_)
        refine lv_goto (tgt := 17) hx hb dX3_takeDigits_49 (by decide) ?_
        exact hrec17 n0 hn0 (((x1 * (10 : Int32)) + r6) - (48 : Int32)) (x2 + (1 : Int32)) _ hf _ _ hH hS _ (lv_sub hl [2, 1, 0] rfl)
set_option maxHeartbeats 4000000 in
set_option maxRecDepth 100000 in
theorem cX3_takeDigits_k (l : Launch) (D : va_G) (ca : Nat → ClassId) (ad : Nat → Nat → Nat) (b0 : Nat) (hw : oa_W ad b0) (n : Nat) (n0 : Nat) (hn0 : n0 < oa_n 1) (M : oa_M) (o : Int32 × oa_M) (hf : FX3_takeDigits n n0 M = some o) : oa_Mi l yX3_takeDigits (oa_w yX3_takeDigits cX3_takeDigits 3 (some .int)) ({ frames := 2, cells := 0, slots := 0, locals := 42 } : Room) D ca ad b0 [.ref (ad 1 n0)] M o.1 o.2 := by
  refine oa_ofW (cc := cX3_takeDigits) (maxL := 3) (ret := some .int) (by decide) rfl (Nat.le_of_ble_eq_true rfl) ?_
  intro p e s m below meth c hx hb hml hr hlocks hown hts0 hP ls hl
  obtain ⟨hH, hE⟩ := hP
  have hts : ∀ w ∈ oa_T, w.before _ s = true := fun w h => hts0 w (List.mem_cons_of_mem _ h)
  have hS : va_S (fun q => b0 ≤ q) s.heap s.heap [] := va_S.rf
  have C : oa_Cx p s m _ meth c cX3_takeDigits 3 (some .int) RX3 D ca b0 ad := ⟨hx, hb, hml, hr, hlocks, hown, hts, hE, hw⟩
  have hl : lv_has ls 3 [(0, .ref (ad 1 n0))] := hl
  unfold FX3_takeDigits at hf
  refine lv_aload_n hx hb dX3_takeDigits_0 rfl (lv_at hl 0 rfl) ?_
  refine lv_bipush (v := (48 : Int32)) hx hb dX3_takeDigits_1 (by decide) ?_
  refine lv_bipush (v := (57 : Int32)) hx hb dX3_takeDigits_3 (by decide) ?_
  obtain ⟨r1, M2, hc3, hf⟩ := oa_bdE hf
  refine oa_cvi (As := [.int (48 : Int32), .int (57 : Int32)]) (rest := []) ⟨hx, hb, hml, hown, hts⟩ (cX3_nextIsWithin_ok l D ca ad b0 hw n n0 hn0 (48 : Int32) (57 : Int32) _ _ _ hc3) (cwV 2 hts (oa_gV tw_271 tw_272 tw_273 tw_45 tw_274) rfl rfl rfl (by decide +kernel) ⟨Nat.le_of_ble_eq_true rfl, Nat.le_of_ble_eq_true rfl⟩) hE hH hS (oa_recv (k := 1) (ci := 3) hE hH hn0 rfl rfl) rfl hl.1 rfl (Nat.le_of_ble_eq_true rfl) dX3_takeDigits_5 ⟨by decide, by decide⟩ (fun H locs hH hS => ?_)
  refine lv_if_ne (tgt := 13) hx hb dX3_takeDigits_8 (by decide) (fun hq4 => ?_) (fun hq4 => ?_)
  · rw [if_neg hq4] at hf
    refine lv_iconst (v := (0 : Int32)) hx hb dX3_takeDigits_13 (by decide) ?_
    refine lv_istore_n (lv' := [(1, .int (0 : Int32)), (0, .ref (ad 1 n0))]) hx hb dX3_takeDigits_14 rfl hl (by decide) rfl (fun ls hl => ?_)
    refine lv_iconst (v := (0 : Int32)) hx hb dX3_takeDigits_15 (by decide) ?_
    refine lv_istore_n (lv' := [(2, .int (0 : Int32)), (1, .int (0 : Int32)), (0, .ref (ad 1 n0))]) hx hb dX3_takeDigits_16 rfl hl (by decide) rfl (fun ls hl => ?_)
    exact bX3_takeDigits_17 C n n0 hn0 (0 : Int32) (0 : Int32) _ hf _ _ hH hS _ (lv_sub hl [2, 1, 0] rfl)
  · rw [if_pos hq4] at hf
    refine lv_iconst (v := (-1 : Int32)) hx hb dX3_takeDigits_11 (by decide) ?_
    cases hf
    exact oa_reti hx hb hr hlocks rfl hS hH dX3_takeDigits_12
theorem cX3_takeDigits_ok (l : Launch) (D : va_G) (ca : Nat → ClassId) (ad : Nat → Nat → Nat) (b0 : Nat) (hw : oa_W ad b0) (n : Nat) (n0 : Nat) (hn0 : n0 < oa_n 1) (M : oa_M) (r : Int32) (M' : oa_M) (hf : FX3_takeDigits n n0 M = some (r, M')) : oa_Mi l yX3_takeDigits (oa_w yX3_takeDigits cX3_takeDigits 3 (some .int)) ({ frames := 2, cells := 0, slots := 0, locals := 42 } : Room) D ca ad b0 [.ref (ad 1 n0)] M r M' := cX3_takeDigits_k l D ca ad b0 hw n n0 hn0 M (r, M') hf

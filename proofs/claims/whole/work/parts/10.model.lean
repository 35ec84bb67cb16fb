def FX5_thrown (n : Nat)  (M : oa_M) : Option (Int32 × oa_M) := (some ((M 20 0 30), M))
set_option maxHeartbeats 4000000 in
set_option maxRecDepth 100000 in
theorem cX5_thrown_k (l : Launch) (D : va_G) (ca : Nat → ClassId) (ad : Nat → Nat → Nat) (b0 : Nat) (hw : oa_W ad b0) (n : Nat)  (M : oa_M) (o : Int32 × oa_M) (hf : FX5_thrown n  M = some o) : oa_Mi l yX5_thrown (oa_w yX5_thrown cX5_thrown 1 (some .int)) ({ frames := 0, cells := 0, slots := 0, locals := 0 } : Room) D ca ad b0 [.ref (ad 20 0)] M o.1 o.2 := by
  refine oa_ofW (cc := cX5_thrown) (maxL := 1) (ret := some .int) (by decide) rfl (Nat.le_of_ble_eq_true rfl) ?_
  intro p e s m below meth c hx hb hml hr hlocks hown hts0 hP ls hl
  obtain ⟨hH, hE⟩ := hP
  have hts : ∀ w ∈ oa_T, w.before _ s = true := fun w h => hts0 w (List.mem_cons_of_mem _ h)
  have hS : va_S (fun q => b0 ≤ q) s.heap s.heap [] := va_S.rf
  have C : oa_Cx p s m _ meth c cX5_thrown 1 (some .int) RX5 D ca b0 ad := ⟨hx, hb, hml, hr, hlocks, hown, hts, hE, hw⟩
  have hl : lv_has ls 1 [(0, .ref (ad 20 0))] := hl
  unfold FX5_thrown at hf
  refine lv_aload_n hx hb dX5_thrown_0 rfl (lv_at hl 0 rfl) ?_
  refine oa_get (ci := 5) (C := RX5) (T := TX5) (N := 31) (v := .int (M 20 0 30)) hx hb hts inX5 hown hE hH 20 0 (by decide) rfl rfl 30 (by decide) (hts _ tw_645) rfl dX5_thrown_1 ?_
  cases hf
  exact oa_reti hx hb hr hlocks rfl hS hH dX5_thrown_4
theorem cX5_thrown_ok (l : Launch) (D : va_G) (ca : Nat → ClassId) (ad : Nat → Nat → Nat) (b0 : Nat) (hw : oa_W ad b0) (n : Nat)  (M : oa_M) (r : Int32) (M' : oa_M) (hf : FX5_thrown n  M = some (r, M')) : oa_Mi l yX5_thrown (oa_w yX5_thrown cX5_thrown 1 (some .int)) ({ frames := 0, cells := 0, slots := 0, locals := 0 } : Room) D ca ad b0 [.ref (ad 20 0)] M r M' := cX5_thrown_k l D ca ad b0 hw n  M (r, M') hf
def FX5_type (n : Nat) (x1 : Int32) (M : oa_M) : Option (Int32 × oa_M) := (if (M 20 0 0) = (40 : Int32) then (some ((-1 : Int32), (oa_up M 20 0 30 (0 : Int32)))) else (if oa_in (M 20 0 0) 40 = true then (some (((M 20 0 0) + (1 : Int32)), (oa_up (oa_up (oa_up M 20 0 30 (0 : Int32)) 21 0 (M 20 0 0).toNatClampNeg (vp_nar .char x1)) 20 0 0 ((M 20 0 0) + (1 : Int32))))) else none))
set_option maxHeartbeats 4000000 in
set_option maxRecDepth 100000 in
theorem cX5_type_k (l : Launch) (D : va_G) (ca : Nat → ClassId) (ad : Nat → Nat → Nat) (b0 : Nat) (hw : oa_W ad b0) (n : Nat) (x1 : Int32) (M : oa_M) (o : Int32 × oa_M) (hf : FX5_type n x1 M = some o) : oa_Mi l yX5_type (oa_w yX5_type cX5_type 2 (some .int)) ({ frames := 0, cells := 0, slots := 0, locals := 0 } : Room) D ca ad b0 [.ref (ad 20 0), .int x1] M o.1 o.2 := by
  refine oa_ofW (cc := cX5_type) (maxL := 2) (ret := some .int) (by decide) rfl (Nat.le_of_ble_eq_true rfl) ?_
  intro p e s m below meth c hx hb hml hr hlocks hown hts0 hP ls hl
  obtain ⟨hH, hE⟩ := hP
  have hts : ∀ w ∈ oa_T, w.before _ s = true := fun w h => hts0 w (List.mem_cons_of_mem _ h)
  have hS : va_S (fun q => b0 ≤ q) s.heap s.heap [] := va_S.rf
  have C : oa_Cx p s m _ meth c cX5_type 2 (some .int) RX5 D ca b0 ad := ⟨hx, hb, hml, hr, hlocks, hown, hts, hE, hw⟩
  have hl : lv_has ls 2 [(0, .ref (ad 20 0)), (1, .int x1)] := hl
  unfold FX5_type at hf
  refine lv_aload_n hx hb dX5_type_0 rfl (lv_at hl 0 rfl) ?_
  refine lv_iconst (v := (0 : Int32)) hx hb dX5_type_1 (by decide) ?_
  refine oa_put (ci := 5) (C := RX5) (T := TX5) (N := 31) (v := .int (0 : Int32)) (x := (0 : Int32)) hx hb hts inX5 tyX5 tyX5_ok nmX5 hown hE hw hH hS 20 0 (by decide) rfl rfl 30 (by decide) (hts _ tw_645) rfl rfl rfl (Nat.le_of_ble_eq_true rfl) rfl dX5_type_2 (fun H locs hH hS => ?_)
  refine lv_aload_n hx hb dX5_type_5 rfl (lv_at hl 0 rfl) ?_
  refine oa_get (ci := 5) (C := RX5) (T := TX5) (N := 31) (v := .int (M 20 0 0)) hx hb hts inX5 hown hE hH 20 0 (by decide) rfl rfl 0 (by decide) (hts _ tw_615) rfl dX5_type_6 ?_
  refine lv_bipush (v := (40 : Int32)) hx hb dX5_type_9 (by decide) ?_
  refine lv_icmp_ne (tgt := 16) hx hb dX5_type_11 (by decide) (fun hq1 => ?_) (fun hq1 => ?_)
  · rw [if_neg hq1] at hf
    refine lv_aload_n hx hb dX5_type_16 rfl (lv_at hl 0 rfl) ?_
    refine oa_get (ci := 5) (C := RX5) (T := TX5) (N := 31) (v := .ref (ad 21 0)) hx hb hts inX5 hown hE hH 20 0 (by decide) rfl rfl 1 (by decide) (hts _ tw_616) rfl dX5_type_17 ?_
    refine lv_aload_n hx hb dX5_type_20 rfl (lv_at hl 0 rfl) ?_
    refine oa_get (ci := 5) (C := RX5) (T := TX5) (N := 31) (v := .int (M 20 0 0)) hx hb hts inX5 hown hE hH 20 0 (by decide) rfl rfl 0 (by decide) (hts _ tw_615) rfl dX5_type_21 ?_
    refine lv_iload_n hx hb dX5_type_24 rfl (lv_at hl 1 rfl) ?_
    obtain ⟨hk2, hf⟩ := oa_ck hf
    refine oa_cst hx hb hE hw hH hS 21 0 (by decide) 40 (fun _ => rfl) (oa_in_vp hk2) dX5_type_25 (fun H locs hH hS => ?_)
    refine lv_aload_n hx hb dX5_type_26 rfl (lv_at hl 0 rfl) ?_
    refine lv_dup hx hb dX5_type_27 rfl ?_
    refine oa_get (ci := 5) (C := RX5) (T := TX5) (N := 31) (v := .int (M 20 0 0)) hx hb hts inX5 hown hE hH 20 0 (by decide) rfl rfl 0 (by decide) (hts _ tw_615) rfl dX5_type_28 ?_
    refine lv_iconst (v := (1 : Int32)) hx hb dX5_type_31 (by decide) ?_
    refine lv_iadd hx hb dX5_type_32 ?_
    refine oa_put (ci := 5) (C := RX5) (T := TX5) (N := 31) (v := .int ((M 20 0 0) + (1 : Int32))) (x := ((M 20 0 0) + (1 : Int32))) hx hb hts inX5 tyX5 tyX5_ok nmX5 hown hE hw hH hS 20 0 (by decide) rfl rfl 0 (by decide) (hts _ tw_615) rfl rfl rfl (Nat.le_of_ble_eq_true rfl) rfl dX5_type_33 (fun H locs hH hS => ?_)
    refine lv_aload_n hx hb dX5_type_36 rfl (lv_at hl 0 rfl) ?_
    refine oa_get (ci := 5) (C := RX5) (T := TX5) (N := 31) (v := .int ((M 20 0 0) + (1 : Int32))) hx hb hts inX5 hown hE hH 20 0 (by decide) rfl rfl 0 (by decide) (hts _ tw_615) rfl dX5_type_37 ?_
    cases hf
    exact oa_reti hx hb hr hlocks rfl hS hH dX5_type_40
  · rw [if_pos hq1] at hf
    refine lv_iconst (v := (-1 : Int32)) hx hb dX5_type_14 (by decide) ?_
    cases hf
    exact oa_reti hx hb hr hlocks rfl hS hH dX5_type_15
theorem cX5_type_ok (l : Launch) (D : va_G) (ca : Nat → ClassId) (ad : Nat → Nat → Nat) (b0 : Nat) (hw : oa_W ad b0) (n : Nat) (x1 : Int32) (M : oa_M) (r : Int32) (M' : oa_M) (hf : FX5_type n x1 M = some (r, M')) : oa_Mi l yX5_type (oa_w yX5_type cX5_type 2 (some .int)) ({ frames := 0, cells := 0, slots := 0, locals := 0 } : Room) D ca ad b0 [.ref (ad 20 0), .int x1] M r M' := cX5_type_k l D ca ad b0 hw n x1 M (r, M') hf
def BX5_here_24 (n : Nat) (z0 : Int32) (M : oa_M) : Option (Int32 × oa_M) := (some (z0, M))
def FX5_here (n : Nat)  (M : oa_M) : Option (Int32 × oa_M) := (if (M 20 0 0) ≤ (M 20 0 2) then (BX5_here_24 n (-1 : Int32) M) else (if oa_in (M 20 0 2) 40 = true then (BX5_here_24 n (M 21 0 (M 20 0 2).toNatClampNeg) M) else none))
set_option maxHeartbeats 4000000 in
set_option maxRecDepth 100000 in
theorem bX5_here_24 {p : Program} {l : Launch} {e : Env} {s : State} {m : MethodId} {args : Array Value} {below : List Frame} {meth : Method} {c : Code} {D : va_G} {ca : Nat → ClassId} {ad : Nat → Nat → Nat} {b0 : Nat} {o : Int32 × oa_M} (C : oa_Cx p s m args meth c cX5_here 1 (some .int) RX5 D ca b0 ad) : ∀ (n : Nat), ∀ (z0 : Int32) (M : oa_M), BX5_here_24 n z0 M = some o → ∀ (H : Heap) (locs : List Loc), oa_H D ca ad M H → va_S (fun q => b0 ≤ q) s.heap H locs → ∀ (ls : Array Slot), lv_has ls 1 [(0, .ref (ad 20 0))] → W p l e ({ frames := 0, cells := 0, slots := 0, locals := 0 } : Room) s m args below meth c H locs 0 0 (MQ below (va_Qi (fun (r' : Int32) (u : oa_M) => r' = o.1 ∧ u = o.2) (fun u t => oa_H D ca ad u t.heap) (fun q => b0 ≤ q)) args s 0 0 (fun q => b0 ≤ q)) (F0 m 24 ls [.int z0]) := by
  obtain ⟨hx, hb, hml, hr, hlocks, hown, hts, hE, hw⟩ := id C
  intro n z0 M hf H locs hH hS ls hl
  unfold BX5_here_24 at hf
  cases hf
  exact oa_reti hx hb hr hlocks rfl hS hH dX5_here_24
set_option maxHeartbeats 4000000 in
set_option maxRecDepth 100000 in
theorem cX5_here_k (l : Launch) (D : va_G) (ca : Nat → ClassId) (ad : Nat → Nat → Nat) (b0 : Nat) (hw : oa_W ad b0) (n : Nat)  (M : oa_M) (o : Int32 × oa_M) (hf : FX5_here n  M = some o) : oa_Mi l yX5_here (oa_w yX5_here cX5_here 1 (some .int)) ({ frames := 0, cells := 0, slots := 0, locals := 0 } : Room) D ca ad b0 [.ref (ad 20 0)] M o.1 o.2 := by
  refine oa_ofW (cc := cX5_here) (maxL := 1) (ret := some .int) (by decide) rfl (Nat.le_of_ble_eq_true rfl) ?_
  intro p e s m below meth c hx hb hml hr hlocks hown hts0 hP ls hl
  obtain ⟨hH, hE⟩ := hP
  have hts : ∀ w ∈ oa_T, w.before _ s = true := fun w h => hts0 w (List.mem_cons_of_mem _ h)
  have hS : va_S (fun q => b0 ≤ q) s.heap s.heap [] := va_S.rf
  have C : oa_Cx p s m _ meth c cX5_here 1 (some .int) RX5 D ca b0 ad := ⟨hx, hb, hml, hr, hlocks, hown, hts, hE, hw⟩
  have hl : lv_has ls 1 [(0, .ref (ad 20 0))] := hl
  unfold FX5_here at hf
  refine lv_aload_n hx hb dX5_here_0 rfl (lv_at hl 0 rfl) ?_
  refine oa_get (ci := 5) (C := RX5) (T := TX5) (N := 31) (v := .int (M 20 0 2)) hx hb hts inX5 hown hE hH 20 0 (by decide) rfl rfl 2 (by decide) (hts _ tw_617) rfl dX5_here_1 ?_
  refine lv_aload_n hx hb dX5_here_4 rfl (lv_at hl 0 rfl) ?_
  refine oa_get (ci := 5) (C := RX5) (T := TX5) (N := 31) (v := .int (M 20 0 0)) hx hb hts inX5 hown hE hH 20 0 (by decide) rfl rfl 0 (by decide) (hts _ tw_615) rfl dX5_here_5 ?_
  refine lv_icmp_ge (tgt := 23) hx hb dX5_here_8 (by decide) (fun hq1 => ?_) (fun hq1 => ?_)
  · rw [if_pos hq1] at hf
    refine lv_iconst (v := (-1 : Int32)) hx hb dX5_here_23 (by decide) ?_
    exact bX5_here_24 C n (-1 : Int32) _ hf _ _ hH hS _ (lv_sub hl [0] rfl)
  · rw [if_neg hq1] at hf
    refine lv_aload_n hx hb dX5_here_11 rfl (lv_at hl 0 rfl) ?_
    refine oa_get (ci := 5) (C := RX5) (T := TX5) (N := 31) (v := .ref (ad 21 0)) hx hb hts inX5 hown hE hH 20 0 (by decide) rfl rfl 1 (by decide) (hts _ tw_616) rfl dX5_here_12 ?_
    refine lv_aload_n hx hb dX5_here_15 rfl (lv_at hl 0 rfl) ?_
    refine oa_get (ci := 5) (C := RX5) (T := TX5) (N := 31) (v := .int (M 20 0 2)) hx hb hts inX5 hown hE hH 20 0 (by decide) rfl rfl 2 (by decide) (hts _ tw_617) rfl dX5_here_16 ?_
    obtain ⟨hk2, hf⟩ := oa_ck hf
    refine oa_cld (v := (M 21 0 (M 20 0 2).toNatClampNeg)) hx hb hE hH 21 0 (by decide) 40 rfl rfl (oa_in_vp hk2) dX5_here_19 ?_
    refine lv_goto (tgt := 24) hx hb dX5_here_20 (by decide) ?_
    exact bX5_here_24 C n (M 21 0 (M 20 0 2).toNatClampNeg) _ hf _ _ hH hS _ (lv_sub hl [0] rfl)
theorem cX5_here_ok (l : Launch) (D : va_G) (ca : Nat → ClassId) (ad : Nat → Nat → Nat) (b0 : Nat) (hw : oa_W ad b0) (n : Nat)  (M : oa_M) (r : Int32) (M' : oa_M) (hf : FX5_here n  M = some (r, M')) : oa_Mi l yX5_here (oa_w yX5_here cX5_here 1 (some .int)) ({ frames := 0, cells := 0, slots := 0, locals := 0 } : Room) D ca ad b0 [.ref (ad 20 0)] M r M' := cX5_here_k l D ca ad b0 hw n  M (r, M') hf
def BX5_must_21 (n : Nat) (x1 : Int32) (z1 : Int32) (M : oa_M) : Option (oa_M) := (if oa_isb z1 = true then (some (oa_up (oa_up M 20 0 3 z1) 20 0 2 ((M 20 0 2) + (1 : Int32)))) else none)
def BX5_must_16 (n : Nat) (x1 : Int32) (M : oa_M) : Option (oa_M) := (BX5_must_21 n x1 (1 : Int32) M)
def FX5_must (n : Nat) (x1 : Int32) (M : oa_M) : Option (oa_M) := (if (M 20 0 3) = 0 then (oa_bd (FX5_here n  M) (fun r2 M3 => (if r2 = x1 then (BX5_must_21 n x1 (0 : Int32) M3) else (BX5_must_16 n x1 M3)))) else (BX5_must_16 n x1 M))
set_option maxHeartbeats 4000000 in
set_option maxRecDepth 100000 in
theorem bX5_must_21 {p : Program} {l : Launch} {e : Env} {s : State} {m : MethodId} {args : Array Value} {below : List Frame} {meth : Method} {c : Code} {D : va_G} {ca : Nat → ClassId} {ad : Nat → Nat → Nat} {b0 : Nat} {o : oa_M} (C : oa_Cx p s m args meth c cX5_must 2 (none) RX5 D ca b0 ad) : ∀ (n : Nat), ∀ (x1 : Int32) (z1 : Int32) (M : oa_M), BX5_must_21 n x1 z1 M = some o → ∀ (H : Heap) (locs : List Loc), oa_H D ca ad M H → va_S (fun q => b0 ≤ q) s.heap H locs → ∀ (ls : Array Slot), lv_has ls 2 [(0, .ref (ad 20 0)), (1, .int x1)] → W p l e ({ frames := 1, cells := 0, slots := 0, locals := 20 } : Room) s m args below meth c H locs 0 0 (MQ below (va_Qv (fun (u : oa_M) => u = o) (fun u t => oa_H D ca ad u t.heap) (fun q => b0 ≤ q)) args s 0 0 (fun q => b0 ≤ q)) (F0 m 21 ls [.int z1, .ref (ad 20 0)]) := by
  obtain ⟨hx, hb, hml, hr, hlocks, hown, hts, hE, hw⟩ := id C
  intro n x1 z1 M hf H locs hH hS ls hl
  unfold BX5_must_21 at hf
  obtain ⟨hk1, hf⟩ := oa_ck hf
  refine oa_put (ci := 5) (C := RX5) (T := TX5) (N := 31) (v := .int z1) (x := z1) hx hb hts inX5 tyX5 tyX5_ok nmX5 hown hE hw hH hS 20 0 (by decide) rfl rfl 3 (by decide) (hts _ tw_618) rfl (oa_nb hk1) (oa_fb hk1) (Nat.le_of_ble_eq_true rfl) rfl dX5_must_21 (fun H locs hH hS => ?_)
  refine lv_aload_n hx hb dX5_must_24 rfl (lv_at hl 0 rfl) ?_
  refine lv_dup hx hb dX5_must_25 rfl ?_
  refine oa_get (ci := 5) (C := RX5) (T := TX5) (N := 31) (v := .int (M 20 0 2)) hx hb hts inX5 hown hE hH 20 0 (by decide) rfl rfl 2 (by decide) (hts _ tw_617) rfl dX5_must_26 ?_
  refine lv_iconst (v := (1 : Int32)) hx hb dX5_must_29 (by decide) ?_
  refine lv_iadd hx hb dX5_must_30 ?_
  refine oa_put (ci := 5) (C := RX5) (T := TX5) (N := 31) (v := .int ((M 20 0 2) + (1 : Int32))) (x := ((M 20 0 2) + (1 : Int32))) hx hb hts inX5 tyX5 tyX5_ok nmX5 hown hE hw hH hS 20 0 (by decide) rfl rfl 2 (by decide) (hts _ tw_617) rfl rfl rfl (Nat.le_of_ble_eq_true rfl) rfl dX5_must_31 (fun H locs hH hS => ?_)
  cases hf
  exact oa_retv hx hb hr hlocks hS hH dX5_must_34
set_option maxHeartbeats 4000000 in
set_option maxRecDepth 100000 in
theorem bX5_must_16 {p : Program} {l : Launch} {e : Env} {s : State} {m : MethodId} {args : Array Value} {below : List Frame} {meth : Method} {c : Code} {D : va_G} {ca : Nat → ClassId} {ad : Nat → Nat → Nat} {b0 : Nat} {o : oa_M} (C : oa_Cx p s m args meth c cX5_must 2 (none) RX5 D ca b0 ad) : ∀ (n : Nat), ∀ (x1 : Int32) (M : oa_M), BX5_must_16 n x1 M = some o → ∀ (H : Heap) (locs : List Loc), oa_H D ca ad M H → va_S (fun q => b0 ≤ q) s.heap H locs → ∀ (ls : Array Slot), lv_has ls 2 [(0, .ref (ad 20 0)), (1, .int x1)] → W p l e ({ frames := 1, cells := 0, slots := 0, locals := 20 } : Room) s m args below meth c H locs 0 0 (MQ below (va_Qv (fun (u : oa_M) => u = o) (fun u t => oa_H D ca ad u t.heap) (fun q => b0 ≤ q)) args s 0 0 (fun q => b0 ≤ q)) (F0 m 16 ls [.ref (ad 20 0)]) := by
  obtain ⟨hx, hb, hml, hr, hlocks, hown, hts, hE, hw⟩ := id C
  intro n x1 M hf H locs hH hS ls hl
  unfold BX5_must_16 at hf
  refine lv_iconst (v := (1 : Int32)) hx hb dX5_must_16 (by decide) ?_
  refine lv_goto (tgt := 21) hx hb dX5_must_17 (by decide) ?_
  exact bX5_must_21 C n x1 (1 : Int32) _ hf _ _ hH hS _ (lv_sub hl [0, 1] rfl)
set_option maxHeartbeats 4000000 in
set_option maxRecDepth 100000 in
theorem cX5_must_k (l : Launch) (D : va_G) (ca : Nat → ClassId) (ad : Nat → Nat → Nat) (b0 : Nat) (hw : oa_W ad b0) (n : Nat) (x1 : Int32) (M : oa_M) (o : oa_M) (hf : FX5_must n x1 M = some o) : oa_Mv l yX5_must (oa_w yX5_must cX5_must 2 none) ({ frames := 1, cells := 0, slots := 0, locals := 20 } : Room) D ca ad b0 [.ref (ad 20 0), .int x1] M o := by
  refine oa_ofW (cc := cX5_must) (maxL := 2) (ret := none) (by decide) rfl (Nat.le_of_ble_eq_true rfl) ?_
  intro p e s m below meth c hx hb hml hr hlocks hown hts0 hP ls hl
  obtain ⟨hH, hE⟩ := hP
  have hts : ∀ w ∈ oa_T, w.before _ s = true := fun w h => hts0 w (List.mem_cons_of_mem _ h)
  have hS : va_S (fun q => b0 ≤ q) s.heap s.heap [] := va_S.rf
  have C : oa_Cx p s m _ meth c cX5_must 2 (none) RX5 D ca b0 ad := ⟨hx, hb, hml, hr, hlocks, hown, hts, hE, hw⟩
  have hl : lv_has ls 2 [(0, .ref (ad 20 0)), (1, .int x1)] := hl
  unfold FX5_must at hf
  refine lv_aload_n hx hb dX5_must_0 rfl (lv_at hl 0 rfl) ?_
  refine lv_aload_n hx hb dX5_must_1 rfl (lv_at hl 0 rfl) ?_
  refine oa_get (ci := 5) (C := RX5) (T := TX5) (N := 31) (v := .int (M 20 0 3)) hx hb hts inX5 hown hE hH 20 0 (by decide) rfl rfl 3 (by decide) (hts _ tw_618) rfl dX5_must_2 ?_
  refine lv_if_ne (tgt := 16) hx hb dX5_must_5 (by decide) (fun hq1 => ?_) (fun hq1 => ?_)
  · rw [if_neg hq1] at hf
    exact bX5_must_16 C n x1 _ hf _ _ hH hS _ (lv_sub hl [0, 1] rfl)
  · rw [if_pos hq1] at hf
    refine lv_aload_n hx hb dX5_must_8 rfl (lv_at hl 0 rfl) ?_
    obtain ⟨r2, M3, hc4, hf⟩ := oa_bdE hf
    refine oa_cvi (As := []) (rest := [.ref (ad 20 0)]) ⟨hx, hb, hml, hown, hts⟩ (cX5_here_ok l D ca ad b0 hw n  _ _ _ hc4) (cwV 0 hts (oa_gV tw_726 tw_728 tw_21 tw_49 tw_729) rfl rfl rfl (by decide +kernel) ⟨Nat.le_of_ble_eq_true rfl, Nat.le_of_ble_eq_true rfl⟩) hE hH hS (oa_recv (k := 20) (ci := 5) hE hH (by decide) rfl rfl) rfl hl.1 rfl (Nat.le_of_ble_eq_true rfl) dX5_must_9 ⟨by decide, by decide⟩ (fun H locs hH hS => ?_)
    refine lv_iload_n hx hb dX5_must_12 rfl (lv_at hl 1 rfl) ?_
    refine lv_icmp_eq (tgt := 20) hx hb dX5_must_13 (by decide) (fun hq5 => ?_) (fun hq5 => ?_)
    · rw [if_pos hq5] at hf
      refine lv_iconst (v := (0 : Int32)) hx hb dX5_must_20 (by decide) ?_
      exact bX5_must_21 C n x1 (0 : Int32) _ hf _ _ hH hS _ (lv_sub hl [0, 1] rfl)
    · rw [if_neg hq5] at hf
      exact bX5_must_16 C n x1 _ hf _ _ hH hS _ (lv_sub hl [0, 1] rfl)
theorem cX5_must_ok (l : Launch) (D : va_G) (ca : Nat → ClassId) (ad : Nat → Nat → Nat) (b0 : Nat) (hw : oa_W ad b0) (n : Nat) (x1 : Int32) (M : oa_M) (o : oa_M) (hf : FX5_must n x1 M = some o) : oa_Mv l yX5_must (oa_w yX5_must cX5_must 2 none) ({ frames := 1, cells := 0, slots := 0, locals := 20 } : Room) D ca ad b0 [.ref (ad 20 0), .int x1] M o := cX5_must_k l D ca ad b0 hw n x1 M o hf
def BX5_isLetter_17 (n : Nat) (x0 : Int32) (z0 : Int32) (M : oa_M) : Option (Int32 × oa_M) := (some (oa_nz z0, M))
def BX5_isLetter_16 (n : Nat) (x0 : Int32) (M : oa_M) : Option (Int32 × oa_M) := (BX5_isLetter_17 n x0 (0 : Int32) M)
def FX5_isLetter (n : Nat) (x0 : Int32) (M : oa_M) : Option (Int32 × oa_M) := (if x0 < (97 : Int32) then (BX5_isLetter_16 n x0 M) else (if (122 : Int32) < x0 then (BX5_isLetter_16 n x0 M) else (BX5_isLetter_17 n x0 (1 : Int32) M)))
set_option maxHeartbeats 4000000 in
set_option maxRecDepth 100000 in
theorem bX5_isLetter_17 {p : Program} {l : Launch} {e : Env} {s : State} {m : MethodId} {args : Array Value} {below : List Frame} {meth : Method} {c : Code} {D : va_G} {ca : Nat → ClassId} {ad : Nat → Nat → Nat} {b0 : Nat} {o : Int32 × oa_M} (C : oa_Cx p s m args meth c cX5_isLetter 1 (some .boolean) RX5 D ca b0 ad) : ∀ (n : Nat), ∀ (x0 : Int32) (z0 : Int32) (M : oa_M), BX5_isLetter_17 n x0 z0 M = some o → ∀ (H : Heap) (locs : List Loc), oa_H D ca ad M H → va_S (fun q => b0 ≤ q) s.heap H locs → ∀ (ls : Array Slot), lv_has ls 1 [(0, .int x0)] → W p l e ({ frames := 0, cells := 0, slots := 0, locals := 0 } : Room) s m args below meth c H locs 0 0 (MQ below (va_Qi (fun (r' : Int32) (u : oa_M) => r' = o.1 ∧ u = o.2) (fun u t => oa_H D ca ad u t.heap) (fun q => b0 ≤ q)) args s 0 0 (fun q => b0 ≤ q)) (F0 m 17 ls [.int z0]) := by
  obtain ⟨hx, hb, hml, hr, hlocks, hown, hts, hE, hw⟩ := id C
  intro n x0 z0 M hf H locs hH hS ls hl
  unfold BX5_isLetter_17 at hf
  cases hf
  exact oa_reti hx hb hr hlocks rfl hS hH dX5_isLetter_17
set_option maxHeartbeats 4000000 in
set_option maxRecDepth 100000 in
theorem bX5_isLetter_16 {p : Program} {l : Launch} {e : Env} {s : State} {m : MethodId} {args : Array Value} {below : List Frame} {meth : Method} {c : Code} {D : va_G} {ca : Nat → ClassId} {ad : Nat → Nat → Nat} {b0 : Nat} {o : Int32 × oa_M} (C : oa_Cx p s m args meth c cX5_isLetter 1 (some .boolean) RX5 D ca b0 ad) : ∀ (n : Nat), ∀ (x0 : Int32) (M : oa_M), BX5_isLetter_16 n x0 M = some o → ∀ (H : Heap) (locs : List Loc), oa_H D ca ad M H → va_S (fun q => b0 ≤ q) s.heap H locs → ∀ (ls : Array Slot), lv_has ls 1 [(0, .int x0)] → W p l e ({ frames := 0, cells := 0, slots := 0, locals := 0 } : Room) s m args below meth c H locs 0 0 (MQ below (va_Qi (fun (r' : Int32) (u : oa_M) => r' = o.1 ∧ u = o.2) (fun u t => oa_H D ca ad u t.heap) (fun q => b0 ≤ q)) args s 0 0 (fun q => b0 ≤ q)) (F0 m 16 ls []) := by
  obtain ⟨hx, hb, hml, hr, hlocks, hown, hts, hE, hw⟩ := id C
  intro n x0 M hf H locs hH hS ls hl
  unfold BX5_isLetter_16 at hf
  refine lv_iconst (v := (0 : Int32)) hx hb dX5_isLetter_16 (by decide) ?_
  exact bX5_isLetter_17 C n x0 (0 : Int32) _ hf _ _ hH hS _ (lv_sub hl [0] rfl)
set_option maxHeartbeats 4000000 in
set_option maxRecDepth 100000 in
theorem cX5_isLetter_k (l : Launch) (D : va_G) (ca : Nat → ClassId) (ad : Nat → Nat → Nat) (b0 : Nat) (hw : oa_W ad b0) (n : Nat) (x0 : Int32) (M : oa_M) (o : Int32 × oa_M) (hf : FX5_isLetter n x0 M = some o) : oa_Mi l yX5_isLetter (oa_w yX5_isLetter cX5_isLetter 1 (some .boolean)) ({ frames := 0, cells := 0, slots := 0, locals := 0 } : Room) D ca ad b0 [.int x0] M o.1 o.2 := by
  refine oa_ofW (cc := cX5_isLetter) (maxL := 1) (ret := some .boolean) (by decide) rfl (Nat.le_of_ble_eq_true rfl) ?_
  intro p e s m below meth c hx hb hml hr hlocks hown hts0 hP ls hl
  obtain ⟨hH, hE⟩ := hP
  have hts : ∀ w ∈ oa_T, w.before _ s = true := fun w h => hts0 w (List.mem_cons_of_mem _ h)
  have hS : va_S (fun q => b0 ≤ q) s.heap s.heap [] := va_S.rf
  have C : oa_Cx p s m _ meth c cX5_isLetter 1 (some .boolean) RX5 D ca b0 ad := ⟨hx, hb, hml, hr, hlocks, hown, hts, hE, hw⟩
  have hl : lv_has ls 1 [(0, .int x0)] := hl
  unfold FX5_isLetter at hf
  refine lv_iload_n hx hb dX5_isLetter_0 rfl (lv_at hl 0 rfl) ?_
  refine lv_bipush (v := (97 : Int32)) hx hb dX5_isLetter_1 (by decide) ?_
  refine lv_icmp_lt (tgt := 16) hx hb dX5_isLetter_3 (by decide) (fun hq1 => ?_) (fun hq1 => ?_)
  · rw [if_pos hq1] at hf
    exact bX5_isLetter_16 C n x0 _ hf _ _ hH hS _ (lv_sub hl [0] rfl)
  · rw [if_neg hq1] at hf
    refine lv_iload_n hx hb dX5_isLetter_6 rfl (lv_at hl 0 rfl) ?_
    refine lv_bipush (v := (122 : Int32)) hx hb dX5_isLetter_7 (by decide) ?_
    refine lv_icmp_gt (tgt := 16) hx hb dX5_isLetter_9 (by decide) (fun hq2 => ?_) (fun hq2 => ?_)
    · rw [if_pos hq2] at hf
      exact bX5_isLetter_16 C n x0 _ hf _ _ hH hS _ (lv_sub hl [0] rfl)
    · rw [if_neg hq2] at hf
      refine lv_iconst (v := (1 : Int32)) hx hb dX5_isLetter_12 (by decide) ?_
      refine lv_goto (tgt := 17) hx hb dX5_isLetter_13 (by decide) ?_
      exact bX5_isLetter_17 C n x0 (1 : Int32) _ hf _ _ hH hS _ (lv_sub hl [0] rfl)
theorem cX5_isLetter_ok (l : Launch) (D : va_G) (ca : Nat → ClassId) (ad : Nat → Nat → Nat) (b0 : Nat) (hw : oa_W ad b0) (n : Nat) (x0 : Int32) (M : oa_M) (r : Int32) (M' : oa_M) (hf : FX5_isLetter n x0 M = some (r, M')) : oa_Mi l yX5_isLetter (oa_w yX5_isLetter cX5_isLetter 1 (some .boolean)) ({ frames := 0, cells := 0, slots := 0, locals := 0 } : Room) D ca ad b0 [.int x0] M r M' := cX5_isLetter_k l D ca ad b0 hw n x0 M (r, M') hf
def BX5_isDigit_17 (n : Nat) (x0 : Int32) (z0 : Int32) (M : oa_M) : Option (Int32 × oa_M) := (some (oa_nz z0, M))
def BX5_isDigit_16 (n : Nat) (x0 : Int32) (M : oa_M) : Option (Int32 × oa_M) := (BX5_isDigit_17 n x0 (0 : Int32) M)
def FX5_isDigit (n : Nat) (x0 : Int32) (M : oa_M) : Option (Int32 × oa_M) := (if x0 < (48 : Int32) then (BX5_isDigit_16 n x0 M) else (if (57 : Int32) < x0 then (BX5_isDigit_16 n x0 M) else (BX5_isDigit_17 n x0 (1 : Int32) M)))
set_option maxHeartbeats 4000000 in
set_option maxRecDepth 100000 in
theorem bX5_isDigit_17 {p : Program} {l : Launch} {e : Env} {s : State} {m : MethodId} {args : Array Value} {below : List Frame} {meth : Method} {c : Code} {D : va_G} {ca : Nat → ClassId} {ad : Nat → Nat → Nat} {b0 : Nat} {o : Int32 × oa_M} (C : oa_Cx p s m args meth c cX5_isDigit 1 (some .boolean) RX5 D ca b0 ad) : ∀ (n : Nat), ∀ (x0 : Int32) (z0 : Int32) (M : oa_M), BX5_isDigit_17 n x0 z0 M = some o → ∀ (H : Heap) (locs : List Loc), oa_H D ca ad M H → va_S (fun q => b0 ≤ q) s.heap H locs → ∀ (ls : Array Slot), lv_has ls 1 [(0, .int x0)] → W p l e ({ frames := 0, cells := 0, slots := 0, locals := 0 } : Room) s m args below meth c H locs 0 0 (MQ below (va_Qi (fun (r' : Int32) (u : oa_M) => r' = o.1 ∧ u = o.2) (fun u t => oa_H D ca ad u t.heap) (fun q => b0 ≤ q)) args s 0 0 (fun q => b0 ≤ q)) (F0 m 17 ls [.int z0]) := by
  obtain ⟨hx, hb, hml, hr, hlocks, hown, hts, hE, hw⟩ := id C
  intro n x0 z0 M hf H locs hH hS ls hl
  unfold BX5_isDigit_17 at hf
  cases hf
  exact oa_reti hx hb hr hlocks rfl hS hH dX5_isDigit_17
set_option maxHeartbeats 4000000 in
set_option maxRecDepth 100000 in
theorem bX5_isDigit_16 {p : Program} {l : Launch} {e : Env} {s : State} {m : MethodId} {args : Array Value} {below : List Frame} {meth : Method} {c : Code} {D : va_G} {ca : Nat → ClassId} {ad : Nat → Nat → Nat} {b0 : Nat} {o : Int32 × oa_M} (C : oa_Cx p s m args meth c cX5_isDigit 1 (some .boolean) RX5 D ca b0 ad) : ∀ (n : Nat), ∀ (x0 : Int32) (M : oa_M), BX5_isDigit_16 n x0 M = some o → ∀ (H : Heap) (locs : List Loc), oa_H D ca ad M H → va_S (fun q => b0 ≤ q) s.heap H locs → ∀ (ls : Array Slot), lv_has ls 1 [(0, .int x0)] → W p l e ({ frames := 0, cells := 0, slots := 0, locals := 0 } : Room) s m args below meth c H locs 0 0 (MQ below (va_Qi (fun (r' : Int32) (u : oa_M) => r' = o.1 ∧ u = o.2) (fun u t => oa_H D ca ad u t.heap) (fun q => b0 ≤ q)) args s 0 0 (fun q => b0 ≤ q)) (F0 m 16 ls []) := by
  obtain ⟨hx, hb, hml, hr, hlocks, hown, hts, hE, hw⟩ := id C
  intro n x0 M hf H locs hH hS ls hl
  unfold BX5_isDigit_16 at hf
  refine lv_iconst (v := (0 : Int32)) hx hb dX5_isDigit_16 (by decide) ?_
  exact bX5_isDigit_17 C n x0 (0 : Int32) _ hf _ _ hH hS _ (lv_sub hl [0] rfl)
set_option maxHeartbeats 4000000 in
set_option maxRecDepth 100000 in
theorem cX5_isDigit_k (l : Launch) (D : va_G) (ca : Nat → ClassId) (ad : Nat → Nat → Nat) (b0 : Nat) (hw : oa_W ad b0) (n : Nat) (x0 : Int32) (M : oa_M) (o : Int32 × oa_M) (hf : FX5_isDigit n x0 M = some o) : oa_Mi l yX5_isDigit (oa_w yX5_isDigit cX5_isDigit 1 (some .boolean)) ({ frames := 0, cells := 0, slots := 0, locals := 0 } : Room) D ca ad b0 [.int x0] M o.1 o.2 := by
  refine oa_ofW (cc := cX5_isDigit) (maxL := 1) (ret := some .boolean) (by decide) rfl (Nat.le_of_ble_eq_true rfl) ?_
  intro p e s m below meth c hx hb hml hr hlocks hown hts0 hP ls hl
  obtain ⟨hH, hE⟩ := hP
  have hts : ∀ w ∈ oa_T, w.before _ s = true := fun w h => hts0 w (List.mem_cons_of_mem _ h)
  have hS : va_S (fun q => b0 ≤ q) s.heap s.heap [] := va_S.rf
  have C : oa_Cx p s m _ meth c cX5_isDigit 1 (some .boolean) RX5 D ca b0 ad := ⟨hx, hb, hml, hr, hlocks, hown, hts, hE, hw⟩
  have hl : lv_has ls 1 [(0, .int x0)] := hl
  unfold FX5_isDigit at hf
  refine lv_iload_n hx hb dX5_isDigit_0 rfl (lv_at hl 0 rfl) ?_
  refine lv_bipush (v := (48 : Int32)) hx hb dX5_isDigit_1 (by decide) ?_
  refine lv_icmp_lt (tgt := 16) hx hb dX5_isDigit_3 (by decide) (fun hq1 => ?_) (fun hq1 => ?_)
  · rw [if_pos hq1] at hf
    exact bX5_isDigit_16 C n x0 _ hf _ _ hH hS _ (lv_sub hl [0] rfl)
  · rw [if_neg hq1] at hf
    refine lv_iload_n hx hb dX5_isDigit_6 rfl (lv_at hl 0 rfl) ?_
    refine lv_bipush (v := (57 : Int32)) hx hb dX5_isDigit_7 (by decide) ?_
    refine lv_icmp_gt (tgt := 16) hx hb dX5_isDigit_9 (by decide) (fun hq2 => ?_) (fun hq2 => ?_)
    · rw [if_pos hq2] at hf
      exact bX5_isDigit_16 C n x0 _ hf _ _ hH hS _ (lv_sub hl [0] rfl)
    · rw [if_neg hq2] at hf
      refine lv_iconst (v := (1 : Int32)) hx hb dX5_isDigit_12 (by decide) ?_
      refine lv_goto (tgt := 17) hx hb dX5_isDigit_13 (by decide) ?_
      exact bX5_isDigit_17 C n x0 (1 : Int32) _ hf _ _ hH hS _ (lv_sub hl [0] rfl)
theorem cX5_isDigit_ok (l : Launch) (D : va_G) (ca : Nat → ClassId) (ad : Nat → Nat → Nat) (b0 : Nat) (hw : oa_W ad b0) (n : Nat) (x0 : Int32) (M : oa_M) (r : Int32) (M' : oa_M) (hf : FX5_isDigit n x0 M = some (r, M')) : oa_Mi l yX5_isDigit (oa_w yX5_isDigit cX5_isDigit 1 (some .boolean)) ({ frames := 0, cells := 0, slots := 0, locals := 0 } : Room) D ca ad b0 [.int x0] M r M' := cX5_isDigit_k l D ca ad b0 hw n x0 M (r, M') hf
def BX5_readName_77 (n : Nat) (x1 : Int32) (x2 : Int32) (z1 : Int32) (M : oa_M) : Option (Int32 × oa_M) := (if oa_isb z1 = true then (some (x1, (oa_up M 20 0 3 z1))) else none)
def BX5_readName_72 (n : Nat) (x1 : Int32) (x2 : Int32) (M : oa_M) : Option (Int32 × oa_M) := (BX5_readName_77 n x1 x2 (1 : Int32) M)
def BX5_readName_37 (rec4 : Int32 → Int32 → oa_M → Option (Int32 × oa_M)) (n : Nat) (x1 : Int32) (x2 : Int32) (z0 : Int32) (M : oa_M) : Option (Int32 × oa_M) := (rec4 z0 (x2 + (1 : Int32)) (oa_up M 20 0 2 ((M 20 0 2) + (1 : Int32))))
def BX5_readName_4 : Nat → Int32 → Int32 → oa_M → Option (Int32 × oa_M)
  | 0, _, _, _ => none
  | n + 1, x1, x2, M => (oa_bd (FX5_here n  M) (fun r1 M2 => (oa_bd (FX5_isLetter n r1 M2) (fun r4 M5 => (if r4 = 0 then (if (M5 20 0 3) = 0 then (if x2 < (1 : Int32) then (BX5_readName_72 n x1 x2 M5) else (if x2 ≤ (4 : Int32) then (BX5_readName_77 n x1 x2 (0 : Int32) M5) else (BX5_readName_72 n x1 x2 M5))) else (BX5_readName_72 n x1 x2 M5)) else (if (4 : Int32) ≤ x2 then (BX5_readName_37 (BX5_readName_4 n) n x1 x2 x1 M5) else (oa_bd (FX5_here n  M5) (fun r12 M13 => (BX5_readName_37 (BX5_readName_4 n) n x1 x2 (((((27 : Int32) * x1) + r12) - (97 : Int32)) + (1 : Int32)) M13)))))))))
def FX5_readName (n : Nat)  (M : oa_M) : Option (Int32 × oa_M) := (BX5_readName_4 n (0 : Int32) (0 : Int32) M)
set_option maxHeartbeats 4000000 in
set_option maxRecDepth 100000 in
theorem bX5_readName_77 {p : Program} {l : Launch} {e : Env} {s : State} {m : MethodId} {args : Array Value} {below : List Frame} {meth : Method} {c : Code} {D : va_G} {ca : Nat → ClassId} {ad : Nat → Nat → Nat} {b0 : Nat} {o : Int32 × oa_M} (C : oa_Cx p s m args meth c cX5_readName 3 (some .int) RX5 D ca b0 ad) : ∀ (n : Nat), ∀ (x1 : Int32) (x2 : Int32) (z1 : Int32) (M : oa_M), BX5_readName_77 n x1 x2 z1 M = some o → ∀ (H : Heap) (locs : List Loc), oa_H D ca ad M H → va_S (fun q => b0 ≤ q) s.heap H locs → ∀ (ls : Array Slot), lv_has ls 3 [(0, .ref (ad 20 0)), (1, .int x1), (2, .int x2)] → W p l e ({ frames := 1, cells := 0, slots := 0, locals := 20 } : Room) s m args below meth c H locs 0 0 (MQ below (va_Qi (fun (r' : Int32) (u : oa_M) => r' = o.1 ∧ u = o.2) (fun u t => oa_H D ca ad u t.heap) (fun q => b0 ≤ q)) args s 0 0 (fun q => b0 ≤ q)) (F0 m 77 ls [.int z1, .ref (ad 20 0)]) := by
  obtain ⟨hx, hb, hml, hr, hlocks, hown, hts, hE, hw⟩ := id C
  intro n x1 x2 z1 M hf H locs hH hS ls hl
  unfold BX5_readName_77 at hf
  obtain ⟨hk1, hf⟩ := oa_ck hf
  refine oa_put (ci := 5) (C := RX5) (T := TX5) (N := 31) (v := .int z1) (x := z1) hx hb hts inX5 tyX5 tyX5_ok nmX5 hown hE hw hH hS 20 0 (by decide) rfl rfl 3 (by decide) (hts _ tw_618) rfl (oa_nb hk1) (oa_fb hk1) (Nat.le_of_ble_eq_true rfl) rfl dX5_readName_77 (fun H locs hH hS => ?_)
  refine lv_iload_n hx hb dX5_readName_80 rfl (lv_at hl 1 rfl) ?_
  cases hf
  exact oa_reti hx hb hr hlocks rfl hS hH dX5_readName_81
set_option maxHeartbeats 4000000 in
set_option maxRecDepth 100000 in
theorem bX5_readName_72 {p : Program} {l : Launch} {e : Env} {s : State} {m : MethodId} {args : Array Value} {below : List Frame} {meth : Method} {c : Code} {D : va_G} {ca : Nat → ClassId} {ad : Nat → Nat → Nat} {b0 : Nat} {o : Int32 × oa_M} (C : oa_Cx p s m args meth c cX5_readName 3 (some .int) RX5 D ca b0 ad) : ∀ (n : Nat), ∀ (x1 : Int32) (x2 : Int32) (M : oa_M), BX5_readName_72 n x1 x2 M = some o → ∀ (H : Heap) (locs : List Loc), oa_H D ca ad M H → va_S (fun q => b0 ≤ q) s.heap H locs → ∀ (ls : Array Slot), lv_has ls 3 [(0, .ref (ad 20 0)), (1, .int x1), (2, .int x2)] → W p l e ({ frames := 1, cells := 0, slots := 0, locals := 20 } : Room) s m args below meth c H locs 0 0 (MQ below (va_Qi (fun (r' : Int32) (u : oa_M) => r' = o.1 ∧ u = o.2) (fun u t => oa_H D ca ad u t.heap) (fun q => b0 ≤ q)) args s 0 0 (fun q => b0 ≤ q)) (F0 m 72 ls [.ref (ad 20 0)]) := by
  obtain ⟨hx, hb, hml, hr, hlocks, hown, hts, hE, hw⟩ := id C
  intro n x1 x2 M hf H locs hH hS ls hl
  unfold BX5_readName_72 at hf
  refine lv_iconst (v := (1 : Int32)) hx hb dX5_readName_72 (by decide) ?_
  refine lv_goto (tgt := 77) hx hb dX5_readName_73 (by decide) ?_
  exact bX5_readName_77 C n x1 x2 (1 : Int32) _ hf _ _ hH hS _ (lv_sub hl [0, 1, 2] rfl)
set_option maxHeartbeats 4000000 in
set_option maxRecDepth 100000 in
theorem bX5_readName_37 {p : Program} {l : Launch} {e : Env} {s : State} {m : MethodId} {args : Array Value} {below : List Frame} {meth : Method} {c : Code} {D : va_G} {ca : Nat → ClassId} {ad : Nat → Nat → Nat} {b0 : Nat} {o : Int32 × oa_M} (C : oa_Cx p s m args meth c cX5_readName 3 (some .int) RX5 D ca b0 ad) (rec4 : Int32 → Int32 → oa_M → Option (Int32 × oa_M)) (hrec4 : ∀ (x1 : Int32) (x2 : Int32) (M : oa_M), rec4 x1 x2 M = some o → ∀ (H : Heap) (locs : List Loc), oa_H D ca ad M H → va_S (fun q => b0 ≤ q) s.heap H locs → ∀ (ls : Array Slot), lv_has ls 3 [(0, .ref (ad 20 0)), (1, .int x1), (2, .int x2)] → W p l e ({ frames := 1, cells := 0, slots := 0, locals := 20 } : Room) s m args below meth c H locs 0 0 (MQ below (va_Qi (fun (r' : Int32) (u : oa_M) => r' = o.1 ∧ u = o.2) (fun u t => oa_H D ca ad u t.heap) (fun q => b0 ≤ q)) args s 0 0 (fun q => b0 ≤ q)) (F0 m 4 ls [])) : ∀ (n : Nat), ∀ (x1 : Int32) (x2 : Int32) (z0 : Int32) (M : oa_M), BX5_readName_37 rec4 n x1 x2 z0 M = some o → ∀ (H : Heap) (locs : List Loc), oa_H D ca ad M H → va_S (fun q => b0 ≤ q) s.heap H locs → ∀ (ls : Array Slot), lv_has ls 3 [(0, .ref (ad 20 0)), (1, .int x1), (2, .int x2)] → W p l e ({ frames := 1, cells := 0, slots := 0, locals := 20 } : Room) s m args below meth c H locs 0 0 (MQ below (va_Qi (fun (r' : Int32) (u : oa_M) => r' = o.1 ∧ u = o.2) (fun u t => oa_H D ca ad u t.heap) (fun q => b0 ≤ q)) args s 0 0 (fun q => b0 ≤ q)) (F0 m 37 ls [.int z0]) := by
  obtain ⟨hx, hb, hml, hr, hlocks, hown, hts, hE, hw⟩ := id C
  intro n x1 x2 z0 M hf H locs hH hS ls hl
  unfold BX5_readName_37 at hf
  refine lv_istore_n (lv' := [(1, .int z0), (0, .ref (ad 20 0)), (2, .int x2)]) hx hb dX5_readName_37 rfl hl (by decide) rfl (fun ls hl => ?_)
  refine lv_iinc (v := (x2 + (1 : Int32))) (lv' := [(2, .int (x2 + (1 : Int32))), (1, .int z0), (0, .ref (ad 20 0))]) hx hb dX5_readName_38 hl (k := 2) rfl rfl (by decide) rfl (fun ls hl => ?_)
  refine lv_aload_n hx hb dX5_readName_41 rfl (lv_at hl 2 rfl) ?_
  refine lv_dup hx hb dX5_readName_42 rfl ?_
  refine oa_get (ci := 5) (C := RX5) (T := TX5) (N := 31) (v := .int (M 20 0 2)) hx hb hts inX5 hown hE hH 20 0 (by decide) rfl rfl 2 (by decide) (hts _ tw_617) rfl dX5_readName_43 ?_
  refine lv_iconst (v := (1 : Int32)) hx hb dX5_readName_46 (by decide) ?_
  refine lv_iadd hx hb dX5_readName_47 ?_
  refine oa_put (ci := 5) (C := RX5) (T := TX5) (N := 31) (v := .int ((M 20 0 2) + (1 : Int32))) (x := ((M 20 0 2) + (1 : Int32))) hx hb hts inX5 tyX5 tyX5_ok nmX5 hown hE hw hH hS 20 0 (by decide) rfl rfl 2 (by decide) (hts _ tw_617) rfl rfl rfl (Nat.le_of_ble_eq_true rfl) rfl dX5_readName_48 (fun H locs hH hS => ?_)
  refine lv_goto (tgt := 4) hx hb dX5_readName_51 (by decide) ?_
  exact hrec4 z0 (x2 + (1 : Int32)) _ hf _ _ hH hS _ (lv_sub hl [2, 1, 0] rfl)
set_option maxHeartbeats 4000000 in
set_option maxRecDepth 100000 in
theorem bX5_readName_4 {p : Program} {l : Launch} {e : Env} {s : State} {m : MethodId} {args : Array Value} {below : List Frame} {meth : Method} {c : Code} {D : va_G} {ca : Nat → ClassId} {ad : Nat → Nat → Nat} {b0 : Nat} {o : Int32 × oa_M} (C : oa_Cx p s m args meth c cX5_readName 3 (some .int) RX5 D ca b0 ad) : ∀ (n : Nat), ∀ (x1 : Int32) (x2 : Int32) (M : oa_M), BX5_readName_4 n x1 x2 M = some o → ∀ (H : Heap) (locs : List Loc), oa_H D ca ad M H → va_S (fun q => b0 ≤ q) s.heap H locs → ∀ (ls : Array Slot), lv_has ls 3 [(0, .ref (ad 20 0)), (1, .int x1), (2, .int x2)] → W p l e ({ frames := 1, cells := 0, slots := 0, locals := 20 } : Room) s m args below meth c H locs 0 0 (MQ below (va_Qi (fun (r' : Int32) (u : oa_M) => r' = o.1 ∧ u = o.2) (fun u t => oa_H D ca ad u t.heap) (fun q => b0 ≤ q)) args s 0 0 (fun q => b0 ≤ q)) (F0 m 4 ls []) := by
  obtain ⟨hx, hb, hml, hr, hlocks, hown, hts, hE, hw⟩ := id C
  intro n
  induction n with
  | zero => intro x1 x2 M hf; cases hf
  | succ n ih =>
    intro x1 x2 M hf H locs hH hS ls hl
    have hrec4 := ih
    unfold BX5_readName_4 at hf
    refine lv_aload_n hx hb dX5_readName_4 rfl (lv_at hl 0 rfl) ?_
    obtain ⟨r1, M2, hc3, hf⟩ := oa_bdE hf
    refine oa_cvi (As := []) (rest := []) ⟨hx, hb, hml, hown, hts⟩ (cX5_here_ok l D ca ad b0 hw n  _ _ _ hc3) (cwV 0 hts (oa_gV tw_726 tw_728 tw_21 tw_49 tw_729) rfl rfl rfl (by decide +kernel) ⟨Nat.le_of_ble_eq_true rfl, Nat.le_of_ble_eq_true rfl⟩) hE hH hS (oa_recv (k := 20) (ci := 5) hE hH (by decide) rfl rfl) rfl hl.1 rfl (Nat.le_of_ble_eq_true rfl) dX5_readName_5 ⟨by decide, by decide⟩ (fun H locs hH hS => ?_)
    obtain ⟨r4, M5, hc6, hf⟩ := oa_bdE hf
    refine oa_csi (As := [.int r1]) (rest := []) ⟨hx, hb, hml, hown, hts⟩ (cX5_isLetter_ok l D ca ad b0 hw n r1 _ _ _ hc6) (va_cwS 1 hts (oa_gS tw_730 tw_731 tw_49 tw_732) rfl rfl rfl (by decide +kernel) ⟨Nat.le_of_ble_eq_true rfl, Nat.le_of_ble_eq_true rfl⟩) hE hH hS rfl hl.1 rfl (Nat.le_of_ble_eq_true rfl) dX5_readName_8 ⟨by decide, by decide⟩ (fun H locs hH hS => ?_)
    refine lv_if_eq (tgt := 54) hx hb dX5_readName_11 (by decide) (fun hq7 => ?_) (fun hq7 => ?_)
    · rw [if_pos hq7] at hf
      refine lv_aload_n hx hb dX5_readName_54 rfl (lv_at hl 0 rfl) ?_
      refine lv_aload_n hx hb dX5_readName_55 rfl (lv_at hl 0 rfl) ?_
      refine oa_get (ci := 5) (C := RX5) (T := TX5) (N := 31) (v := .int (M5 20 0 3)) hx hb hts inX5 hown hE hH 20 0 (by decide) rfl rfl 3 (by decide) (hts _ tw_618) rfl dX5_readName_56 ?_
      refine lv_if_ne (tgt := 72) hx hb dX5_readName_59 (by decide) (fun hq8 => ?_) (fun hq8 => ?_)
      · rw [if_neg hq8] at hf
        exact bX5_readName_72 C n x1 x2 _ hf _ _ hH hS _ (lv_sub hl [0, 1, 2] rfl)
      · rw [if_pos hq8] at hf
        refine lv_iload_n hx hb dX5_readName_62 rfl (lv_at hl 2 rfl) ?_
        refine lv_iconst (v := (1 : Int32)) hx hb dX5_readName_63 (by decide) ?_
        refine lv_icmp_lt (tgt := 72) hx hb dX5_readName_64 (by decide) (fun hq9 => ?_) (fun hq9 => ?_)
        · rw [if_pos hq9] at hf
          exact bX5_readName_72 C n x1 x2 _ hf _ _ hH hS _ (lv_sub hl [0, 1, 2] rfl)
        · rw [if_neg hq9] at hf
          refine lv_iload_n hx hb dX5_readName_67 rfl (lv_at hl 2 rfl) ?_
          refine lv_iconst (v := (4 : Int32)) hx hb dX5_readName_68 (by decide) ?_
          refine lv_icmp_le (tgt := 76) hx hb dX5_readName_69 (by decide) (fun hq10 => ?_) (fun hq10 => ?_)
          · rw [if_pos hq10] at hf
            refine lv_iconst (v := (0 : Int32)) hx hb dX5_readName_76 (by decide) ?_
            exact bX5_readName_77 C n x1 x2 (0 : Int32) _ hf _ _ hH hS _ (lv_sub hl [0, 1, 2] rfl)
          · rw [if_neg hq10] at hf
            exact bX5_readName_72 C n x1 x2 _ hf _ _ hH hS _ (lv_sub hl [0, 1, 2] rfl)
    · rw [if_neg hq7] at hf
      refine lv_iload_n hx hb dX5_readName_14 rfl (lv_at hl 2 rfl) ?_
      refine lv_iconst (v := (4 : Int32)) hx hb dX5_readName_15 (by decide) ?_
      refine lv_icmp_ge (tgt := 36) hx hb dX5_readName_16 (by decide) (fun hq11 => ?_) (fun hq11 => ?_)
      · rw [if_pos hq11] at hf
        refine lv_iload_n hx hb dX5_readName_36 rfl (lv_at hl 1 rfl) ?_
        exact bX5_readName_37 C _ hrec4 n x1 x2 x1 _ hf _ _ hH hS _ (lv_sub hl [0, 1, 2] rfl)
      · rw [if_neg hq11] at hf
        refine lv_bipush (v := (27 : Int32)) hx hb dX5_readName_19 (by decide) ?_
        refine lv_iload_n hx hb dX5_readName_21 rfl (lv_at hl 1 rfl) ?_
        refine lv_imul hx hb dX5_readName_22 ?_
        refine lv_aload_n hx hb dX5_readName_23 rfl (lv_at hl 0 rfl) ?_
        obtain ⟨r12, M13, hc14, hf⟩ := oa_bdE hf
        refine oa_cvi (As := []) (rest := [.int ((27 : Int32) * x1)]) ⟨hx, hb, hml, hown, hts⟩ (cX5_here_ok l D ca ad b0 hw n  _ _ _ hc14) (cwV 0 hts (oa_gV tw_726 tw_728 tw_21 tw_49 tw_729) rfl rfl rfl (by decide +kernel) ⟨Nat.le_of_ble_eq_true rfl, Nat.le_of_ble_eq_true rfl⟩) hE hH hS (oa_recv (k := 20) (ci := 5) hE hH (by decide) rfl rfl) rfl hl.1 rfl (Nat.le_of_ble_eq_true rfl) dX5_readName_24 ⟨by decide, by decide⟩ (fun H locs hH hS => ?_)
        refine lv_iadd hx hb dX5_readName_27 ?_
        refine lv_bipush (v := (97 : Int32)) hx hb dX5_readName_28 (by decide) ?_
        refine lv_isub hx hb dX5_readName_30 ?_
        refine lv_iconst (v := (1 : Int32)) hx hb dX5_readName_31 (by decide) ?_
        refine lv_iadd hx hb dX5_readName_32 ?_
        refine lv_goto (tgt := 37) hx hb dX5_readName_33 (by decide) ?_
        exact bX5_readName_37 C _ hrec4 n x1 x2 (((((27 : Int32) * x1) + r12) - (97 : Int32)) + (1 : Int32)) _ hf _ _ hH hS _ (lv_sub hl [0, 1, 2] rfl)
set_option maxHeartbeats 4000000 in
set_option maxRecDepth 100000 in
theorem cX5_readName_k (l : Launch) (D : va_G) (ca : Nat → ClassId) (ad : Nat → Nat → Nat) (b0 : Nat) (hw : oa_W ad b0) (n : Nat)  (M : oa_M) (o : Int32 × oa_M) (hf : FX5_readName n  M = some o) : oa_Mi l yX5_readName (oa_w yX5_readName cX5_readName 3 (some .int)) ({ frames := 1, cells := 0, slots := 0, locals := 20 } : Room) D ca ad b0 [.ref (ad 20 0)] M o.1 o.2 := by
  refine oa_ofW (cc := cX5_readName) (maxL := 3) (ret := some .int) (by decide) rfl (Nat.le_of_ble_eq_true rfl) ?_
  intro p e s m below meth c hx hb hml hr hlocks hown hts0 hP ls hl
  obtain ⟨hH, hE⟩ := hP
  have hts : ∀ w ∈ oa_T, w.before _ s = true := fun w h => hts0 w (List.mem_cons_of_mem _ h)
  have hS : va_S (fun q => b0 ≤ q) s.heap s.heap [] := va_S.rf
  have C : oa_Cx p s m _ meth c cX5_readName 3 (some .int) RX5 D ca b0 ad := ⟨hx, hb, hml, hr, hlocks, hown, hts, hE, hw⟩
  have hl : lv_has ls 3 [(0, .ref (ad 20 0))] := hl
  unfold FX5_readName at hf
  refine lv_iconst (v := (0 : Int32)) hx hb dX5_readName_0 (by decide) ?_
  refine lv_istore_n (lv' := [(1, .int (0 : Int32)), (0, .ref (ad 20 0))]) hx hb dX5_readName_1 rfl hl (by decide) rfl (fun ls hl => ?_)
  refine lv_iconst (v := (0 : Int32)) hx hb dX5_readName_2 (by decide) ?_
  refine lv_istore_n (lv' := [(2, .int (0 : Int32)), (1, .int (0 : Int32)), (0, .ref (ad 20 0))]) hx hb dX5_readName_3 rfl hl (by decide) rfl (fun ls hl => ?_)
  exact bX5_readName_4 C n (0 : Int32) (0 : Int32) _ hf _ _ hH hS _ (lv_sub hl [2, 1, 0] rfl)
theorem cX5_readName_ok (l : Launch) (D : va_G) (ca : Nat → ClassId) (ad : Nat → Nat → Nat) (b0 : Nat) (hw : oa_W ad b0) (n : Nat)  (M : oa_M) (r : Int32) (M' : oa_M) (hf : FX5_readName n  M = some (r, M')) : oa_Mi l yX5_readName (oa_w yX5_readName cX5_readName 3 (some .int)) ({ frames := 1, cells := 0, slots := 0, locals := 20 } : Room) D ca ad b0 [.ref (ad 20 0)] M r M' := cX5_readName_k l D ca ad b0 hw n  M (r, M') hf
def BX5_signOf_41 (n : Nat) (x1 : Int32) (z0 : Int32) (M : oa_M) : Option (Int32 × oa_M) := (some (z0, M))
def BX5_signOf_40 (n : Nat) (x1 : Int32) (M : oa_M) : Option (Int32 × oa_M) := (BX5_signOf_41 n x1 (-1 : Int32) M)
def BX5_signOf_12 (n : Nat) (x1 : Int32) (M : oa_M) : Option (Int32 × oa_M) := (BX5_signOf_41 n x1 (x1 - (48 : Int32)) M)
def FX5_signOf (n : Nat) (x1 : Int32) (M : oa_M) : Option (Int32 × oa_M) := (if x1 = (48 : Int32) then (BX5_signOf_12 n x1 M) else (if x1 = (49 : Int32) then (BX5_signOf_12 n x1 M) else (if x1 < (120 : Int32) then (BX5_signOf_40 n x1 M) else (if (122 : Int32) < x1 then (BX5_signOf_40 n x1 M) else (BX5_signOf_41 n x1 (((2 : Int32) + x1) - (120 : Int32)) M)))))
set_option maxHeartbeats 4000000 in
set_option maxRecDepth 100000 in
theorem bX5_signOf_41 {p : Program} {l : Launch} {e : Env} {s : State} {m : MethodId} {args : Array Value} {below : List Frame} {meth : Method} {c : Code} {D : va_G} {ca : Nat → ClassId} {ad : Nat → Nat → Nat} {b0 : Nat} {o : Int32 × oa_M} (C : oa_Cx p s m args meth c cX5_signOf 2 (some .int) RX5 D ca b0 ad) : ∀ (n : Nat), ∀ (x1 : Int32) (z0 : Int32) (M : oa_M), BX5_signOf_41 n x1 z0 M = some o → ∀ (H : Heap) (locs : List Loc), oa_H D ca ad M H → va_S (fun q => b0 ≤ q) s.heap H locs → ∀ (ls : Array Slot), lv_has ls 2 [(0, .ref (ad 20 0)), (1, .int x1)] → W p l e ({ frames := 0, cells := 0, slots := 0, locals := 0 } : Room) s m args below meth c H locs 0 0 (MQ below (va_Qi (fun (r' : Int32) (u : oa_M) => r' = o.1 ∧ u = o.2) (fun u t => oa_H D ca ad u t.heap) (fun q => b0 ≤ q)) args s 0 0 (fun q => b0 ≤ q)) (F0 m 41 ls [.int z0]) := by
  obtain ⟨hx, hb, hml, hr, hlocks, hown, hts, hE, hw⟩ := id C
  intro n x1 z0 M hf H locs hH hS ls hl
  unfold BX5_signOf_41 at hf
  cases hf
  exact oa_reti hx hb hr hlocks rfl hS hH dX5_signOf_41
set_option maxHeartbeats 4000000 in
set_option maxRecDepth 100000 in
theorem bX5_signOf_40 {p : Program} {l : Launch} {e : Env} {s : State} {m : MethodId} {args : Array Value} {below : List Frame} {meth : Method} {c : Code} {D : va_G} {ca : Nat → ClassId} {ad : Nat → Nat → Nat} {b0 : Nat} {o : Int32 × oa_M} (C : oa_Cx p s m args meth c cX5_signOf 2 (some .int) RX5 D ca b0 ad) : ∀ (n : Nat), ∀ (x1 : Int32) (M : oa_M), BX5_signOf_40 n x1 M = some o → ∀ (H : Heap) (locs : List Loc), oa_H D ca ad M H → va_S (fun q => b0 ≤ q) s.heap H locs → ∀ (ls : Array Slot), lv_has ls 2 [(0, .ref (ad 20 0)), (1, .int x1)] → W p l e ({ frames := 0, cells := 0, slots := 0, locals := 0 } : Room) s m args below meth c H locs 0 0 (MQ below (va_Qi (fun (r' : Int32) (u : oa_M) => r' = o.1 ∧ u = o.2) (fun u t => oa_H D ca ad u t.heap) (fun q => b0 ≤ q)) args s 0 0 (fun q => b0 ≤ q)) (F0 m 40 ls []) := by
  obtain ⟨hx, hb, hml, hr, hlocks, hown, hts, hE, hw⟩ := id C
  intro n x1 M hf H locs hH hS ls hl
  unfold BX5_signOf_40 at hf
  refine lv_iconst (v := (-1 : Int32)) hx hb dX5_signOf_40 (by decide) ?_
  exact bX5_signOf_41 C n x1 (-1 : Int32) _ hf _ _ hH hS _ (lv_sub hl [0, 1] rfl)
set_option maxHeartbeats 4000000 in
set_option maxRecDepth 100000 in
theorem bX5_signOf_12 {p : Program} {l : Launch} {e : Env} {s : State} {m : MethodId} {args : Array Value} {below : List Frame} {meth : Method} {c : Code} {D : va_G} {ca : Nat → ClassId} {ad : Nat → Nat → Nat} {b0 : Nat} {o : Int32 × oa_M} (C : oa_Cx p s m args meth c cX5_signOf 2 (some .int) RX5 D ca b0 ad) : ∀ (n : Nat), ∀ (x1 : Int32) (M : oa_M), BX5_signOf_12 n x1 M = some o → ∀ (H : Heap) (locs : List Loc), oa_H D ca ad M H → va_S (fun q => b0 ≤ q) s.heap H locs → ∀ (ls : Array Slot), lv_has ls 2 [(0, .ref (ad 20 0)), (1, .int x1)] → W p l e ({ frames := 0, cells := 0, slots := 0, locals := 0 } : Room) s m args below meth c H locs 0 0 (MQ below (va_Qi (fun (r' : Int32) (u : oa_M) => r' = o.1 ∧ u = o.2) (fun u t => oa_H D ca ad u t.heap) (fun q => b0 ≤ q)) args s 0 0 (fun q => b0 ≤ q)) (F0 m 12 ls []) := by
  obtain ⟨hx, hb, hml, hr, hlocks, hown, hts, hE, hw⟩ := id C
  intro n x1 M hf H locs hH hS ls hl
  unfold BX5_signOf_12 at hf
  refine lv_iload_n hx hb dX5_signOf_12 rfl (lv_at hl 1 rfl) ?_
  refine lv_bipush (v := (48 : Int32)) hx hb dX5_signOf_13 (by decide) ?_
  refine lv_isub hx hb dX5_signOf_15 ?_
  refine lv_goto (tgt := 41) hx hb dX5_signOf_16 (by decide) ?_
  exact bX5_signOf_41 C n x1 (x1 - (48 : Int32)) _ hf _ _ hH hS _ (lv_sub hl [0, 1] rfl)
set_option maxHeartbeats 4000000 in
set_option maxRecDepth 100000 in
theorem cX5_signOf_k (l : Launch) (D : va_G) (ca : Nat → ClassId) (ad : Nat → Nat → Nat) (b0 : Nat) (hw : oa_W ad b0) (n : Nat) (x1 : Int32) (M : oa_M) (o : Int32 × oa_M) (hf : FX5_signOf n x1 M = some o) : oa_Mi l yX5_signOf (oa_w yX5_signOf cX5_signOf 2 (some .int)) ({ frames := 0, cells := 0, slots := 0, locals := 0 } : Room) D ca ad b0 [.ref (ad 20 0), .int x1] M o.1 o.2 := by
  refine oa_ofW (cc := cX5_signOf) (maxL := 2) (ret := some .int) (by decide) rfl (Nat.le_of_ble_eq_true rfl) ?_
  intro p e s m below meth c hx hb hml hr hlocks hown hts0 hP ls hl
  obtain ⟨hH, hE⟩ := hP
  have hts : ∀ w ∈ oa_T, w.before _ s = true := fun w h => hts0 w (List.mem_cons_of_mem _ h)
  have hS : va_S (fun q => b0 ≤ q) s.heap s.heap [] := va_S.rf
  have C : oa_Cx p s m _ meth c cX5_signOf 2 (some .int) RX5 D ca b0 ad := ⟨hx, hb, hml, hr, hlocks, hown, hts, hE, hw⟩
  have hl : lv_has ls 2 [(0, .ref (ad 20 0)), (1, .int x1)] := hl
  unfold FX5_signOf at hf
  refine lv_iload_n hx hb dX5_signOf_0 rfl (lv_at hl 1 rfl) ?_
  refine lv_bipush (v := (48 : Int32)) hx hb dX5_signOf_1 (by decide) ?_
  refine lv_icmp_eq (tgt := 12) hx hb dX5_signOf_3 (by decide) (fun hq1 => ?_) (fun hq1 => ?_)
  · rw [if_pos hq1] at hf
    exact bX5_signOf_12 C n x1 _ hf _ _ hH hS _ (lv_sub hl [0, 1] rfl)
  · rw [if_neg hq1] at hf
    refine lv_iload_n hx hb dX5_signOf_6 rfl (lv_at hl 1 rfl) ?_
    refine lv_bipush (v := (49 : Int32)) hx hb dX5_signOf_7 (by decide) ?_
    refine lv_icmp_ne (tgt := 19) hx hb dX5_signOf_9 (by decide) (fun hq2 => ?_) (fun hq2 => ?_)
    · rw [if_neg hq2] at hf
      refine lv_iload_n hx hb dX5_signOf_19 rfl (lv_at hl 1 rfl) ?_
      refine lv_bipush (v := (120 : Int32)) hx hb dX5_signOf_20 (by decide) ?_
      refine lv_icmp_lt (tgt := 40) hx hb dX5_signOf_22 (by decide) (fun hq3 => ?_) (fun hq3 => ?_)
      · rw [if_pos hq3] at hf
        exact bX5_signOf_40 C n x1 _ hf _ _ hH hS _ (lv_sub hl [0, 1] rfl)
      · rw [if_neg hq3] at hf
        refine lv_iload_n hx hb dX5_signOf_25 rfl (lv_at hl 1 rfl) ?_
        refine lv_bipush (v := (122 : Int32)) hx hb dX5_signOf_26 (by decide) ?_
        refine lv_icmp_gt (tgt := 40) hx hb dX5_signOf_28 (by decide) (fun hq4 => ?_) (fun hq4 => ?_)
        · rw [if_pos hq4] at hf
          exact bX5_signOf_40 C n x1 _ hf _ _ hH hS _ (lv_sub hl [0, 1] rfl)
        · rw [if_neg hq4] at hf
          refine lv_iconst (v := (2 : Int32)) hx hb dX5_signOf_31 (by decide) ?_
          refine lv_iload_n hx hb dX5_signOf_32 rfl (lv_at hl 1 rfl) ?_
          refine lv_iadd hx hb dX5_signOf_33 ?_
          refine lv_bipush (v := (120 : Int32)) hx hb dX5_signOf_34 (by decide) ?_
          refine lv_isub hx hb dX5_signOf_36 ?_
          refine lv_goto (tgt := 41) hx hb dX5_signOf_37 (by decide) ?_
          exact bX5_signOf_41 C n x1 (((2 : Int32) + x1) - (120 : Int32)) _ hf _ _ hH hS _ (lv_sub hl [0, 1] rfl)
    · rw [if_pos hq2] at hf
      exact bX5_signOf_12 C n x1 _ hf _ _ hH hS _ (lv_sub hl [0, 1] rfl)
theorem cX5_signOf_ok (l : Launch) (D : va_G) (ca : Nat → ClassId) (ad : Nat → Nat → Nat) (b0 : Nat) (hw : oa_W ad b0) (n : Nat) (x1 : Int32) (M : oa_M) (r : Int32) (M' : oa_M) (hf : FX5_signOf n x1 M = some (r, M')) : oa_Mi l yX5_signOf (oa_w yX5_signOf cX5_signOf 2 (some .int)) ({ frames := 0, cells := 0, slots := 0, locals := 0 } : Room) D ca ad b0 [.ref (ad 20 0), .int x1] M r M' := cX5_signOf_k l D ca ad b0 hw n x1 M (r, M') hf
def BX5_readSigns_235 (n : Nat) (x1 : Int32) (x2 : Int32) (x3 : Int32) (z1 : Int32) (M : oa_M) : Option (Int32 × oa_M) := (if oa_isb z1 = true then (some (x1, (oa_up M 20 0 3 z1))) else none)
def BX5_readSigns_230 (n : Nat) (x1 : Int32) (x2 : Int32) (x3 : Int32) (M : oa_M) : Option (Int32 × oa_M) := (BX5_readSigns_235 n x1 x2 x3 (1 : Int32) M)
def BX5_readSigns_180 (n : Nat) (x1 : Int32) (x2 : Int32) (z0 : Int32) (M : oa_M) : Option (Int32 × oa_M) := (if (M 20 0 3) = 0 then (if x2 = 0 then (BX5_readSigns_230 n x1 x2 z0 M) else (if z0 = 0 then (BX5_readSigns_230 n x1 x2 z0 M) else (if oa_in (0 : Int32) 3 = true then (if (16 : Int32) < (M 35 0 (0 : Int32).toNatClampNeg) then (BX5_readSigns_230 n x1 x2 z0 M) else (if oa_in (1 : Int32) 3 = true then (if (16 : Int32) < (M 35 0 (1 : Int32).toNatClampNeg) then (BX5_readSigns_230 n x1 x2 z0 M) else (if oa_in (2 : Int32) 3 = true then (if (M 35 0 (2 : Int32).toNatClampNeg) ≤ (16 : Int32) then (BX5_readSigns_235 n x1 x2 z0 (0 : Int32) M) else (BX5_readSigns_230 n x1 x2 z0 M)) else none)) else none)) else none))) else (BX5_readSigns_230 n x1 x2 z0 M))
def BX5_readSigns_179 (n : Nat) (x1 : Int32) (x2 : Int32) (M : oa_M) : Option (Int32 × oa_M) := (BX5_readSigns_180 n x1 x2 (0 : Int32) M)
def BX5_readSigns_175 (n : Nat) (x1 : Int32) (x2 : Int32) (M : oa_M) : Option (Int32 × oa_M) := (BX5_readSigns_180 n x1 x2 (1 : Int32) M)
def BX5_readSigns_157 (n : Nat) (x1 : Int32) (x2 : Int32) (M : oa_M) : Option (Int32 × oa_M) := (if oa_in (2 : Int32) 3 = true then (if (M 35 0 (2 : Int32).toNatClampNeg) = 0 then (BX5_readSigns_175 n x1 x2 M) else (if oa_in (1 : Int32) 3 = true then (if (M 35 0 (1 : Int32).toNatClampNeg) ≤ 0 then (BX5_readSigns_179 n x1 x2 M) else (BX5_readSigns_175 n x1 x2 M)) else none)) else none)
def BX5_readSigns_138 (n : Nat) (x1 : Int32) (x2 : Int32) (z0 : Int32) (M : oa_M) : Option (Int32 × oa_M) := (if oa_in (1 : Int32) 3 = true then (if (M 35 0 (1 : Int32).toNatClampNeg) = 0 then (BX5_readSigns_157 n x1 z0 M) else (if oa_in (0 : Int32) 3 = true then (if (M 35 0 (0 : Int32).toNatClampNeg) ≤ 0 then (BX5_readSigns_179 n x1 z0 M) else (BX5_readSigns_157 n x1 z0 M)) else none)) else none)
def BX5_readSigns_133 (n : Nat) (x1 : Int32) (x2 : Int32) (M : oa_M) : Option (Int32 × oa_M) := (BX5_readSigns_138 n x1 x2 (1 : Int32) M)
def BX5_readSigns_102 (rec22 : Int32 → Int32 → oa_M → Option (Int32 × oa_M)) (n : Nat) (x1 : Int32) (x2 : Int32) (M : oa_M) : Option (Int32 × oa_M) := (rec22 x1 x2 (oa_up M 20 0 2 ((M 20 0 2) + (1 : Int32))))
def BX5_readSigns_65 (rec22 : Int32 → Int32 → oa_M → Option (Int32 × oa_M)) (n : Nat) (x1 : Int32) (x2 : Int32) (z1 : Int32) (M : oa_M) : Option (Int32 × oa_M) := (if oa_isb z1 = true then (if z1 = 0 then (if oa_in x1 24 = true then (if x2 ≤ (1 : Int32) then (BX5_readSigns_102 rec22 n (x1 + (1 : Int32)) x2 (oa_up (oa_up M 20 0 3 z1) 34 0 x1.toNatClampNeg x2)) else (if oa_in (x2 - (2 : Int32)) 3 = true then (if oa_in (x2 - (2 : Int32)) 3 = true then (BX5_readSigns_102 rec22 n (x1 + (1 : Int32)) x2 (oa_up (oa_up (oa_up M 20 0 3 z1) 34 0 x1.toNatClampNeg x2) 35 0 (x2 - (2 : Int32)).toNatClampNeg ((M 35 0 (x2 - (2 : Int32)).toNatClampNeg) + (1 : Int32)))) else none) else none)) else none) else (BX5_readSigns_102 rec22 n x1 x2 (oa_up M 20 0 3 z1))) else none)
def BX5_readSigns_60 (rec22 : Int32 → Int32 → oa_M → Option (Int32 × oa_M)) (n : Nat) (x1 : Int32) (x2 : Int32) (M : oa_M) : Option (Int32 × oa_M) := (BX5_readSigns_65 rec22 n x1 x2 (1 : Int32) M)
def BX5_readSigns_22 : Nat → Int32 → Int32 → oa_M → Option (Int32 × oa_M)
  | 0, _, _, _ => none
  | n + 1, x1, x2, M => (if (M 20 0 0) ≤ (M 20 0 2) then (if x1 = (8 : Int32) then (BX5_readSigns_133 n x1 x2 M) else (if x1 = (16 : Int32) then (BX5_readSigns_133 n x1 x2 M) else (if x1 = (24 : Int32) then (BX5_readSigns_133 n x1 x2 M) else (BX5_readSigns_138 n x1 x2 (0 : Int32) M)))) else (oa_bd (FX5_here n  M) (fun r5 M6 => (oa_bd (FX5_signOf n r5 M6) (fun r8 M9 => (if (M9 20 0 3) = 0 then (if r8 < 0 then (BX5_readSigns_60 (BX5_readSigns_22 n) n x1 r8 M9) else (if x1 = (24 : Int32) then (BX5_readSigns_60 (BX5_readSigns_22 n) n x1 r8 M9) else (BX5_readSigns_65 (BX5_readSigns_22 n) n x1 r8 (0 : Int32) M9))) else (BX5_readSigns_60 (BX5_readSigns_22 n) n x1 r8 M9)))))))
def BX5_readSigns_4 : Nat → Int32 → Int32 → oa_M → Option (Int32 × oa_M)
  | 0, _, _, _ => none
  | n + 1, x1, x2, M => (if (3 : Int32) ≤ x2 then (BX5_readSigns_22 n x1 x2 M) else (if oa_in x2 3 = true then (BX5_readSigns_4 n x1 (x2 + (1 : Int32)) (oa_up M 35 0 x2.toNatClampNeg (0 : Int32))) else none))
def FX5_readSigns (n : Nat)  (M : oa_M) : Option (Int32 × oa_M) := (BX5_readSigns_4 n (0 : Int32) (0 : Int32) M)
set_option maxHeartbeats 4000000 in
set_option maxRecDepth 100000 in
theorem bX5_readSigns_235 {p : Program} {l : Launch} {e : Env} {s : State} {m : MethodId} {args : Array Value} {below : List Frame} {meth : Method} {c : Code} {D : va_G} {ca : Nat → ClassId} {ad : Nat → Nat → Nat} {b0 : Nat} {o : Int32 × oa_M} (C : oa_Cx p s m args meth c cX5_readSigns 4 (some .int) RX5 D ca b0 ad) : ∀ (n : Nat), ∀ (x1 : Int32) (x2 : Int32) (x3 : Int32) (z1 : Int32) (M : oa_M), BX5_readSigns_235 n x1 x2 x3 z1 M = some o → ∀ (H : Heap) (locs : List Loc), oa_H D ca ad M H → va_S (fun q => b0 ≤ q) s.heap H locs → ∀ (ls : Array Slot), lv_has ls 4 [(0, .ref (ad 20 0)), (1, .int x1), (2, .int x2), (3, .int x3)] → W p l e ({ frames := 1, cells := 0, slots := 0, locals := 21 } : Room) s m args below meth c H locs 0 0 (MQ below (va_Qi (fun (r' : Int32) (u : oa_M) => r' = o.1 ∧ u = o.2) (fun u t => oa_H D ca ad u t.heap) (fun q => b0 ≤ q)) args s 0 0 (fun q => b0 ≤ q)) (F0 m 235 ls [.int z1, .ref (ad 20 0)]) := by
  obtain ⟨hx, hb, hml, hr, hlocks, hown, hts, hE, hw⟩ := id C
  intro n x1 x2 x3 z1 M hf H locs hH hS ls hl
  unfold BX5_readSigns_235 at hf
  obtain ⟨hk1, hf⟩ := oa_ck hf
  refine oa_put (ci := 5) (C := RX5) (T := TX5) (N := 31) (v := .int z1) (x := z1) hx hb hts inX5 tyX5 tyX5_ok nmX5 hown hE hw hH hS 20 0 (by decide) rfl rfl 3 (by decide) (hts _ tw_618) rfl (oa_nb hk1) (oa_fb hk1) (Nat.le_of_ble_eq_true rfl) rfl dX5_readSigns_235 (fun H locs hH hS => ?_)
  refine lv_iload_n hx hb dX5_readSigns_238 rfl (lv_at hl 1 rfl) ?_
  cases hf
  exact oa_reti hx hb hr hlocks rfl hS hH dX5_readSigns_239
set_option maxHeartbeats 4000000 in
set_option maxRecDepth 100000 in
theorem bX5_readSigns_230 {p : Program} {l : Launch} {e : Env} {s : State} {m : MethodId} {args : Array Value} {below : List Frame} {meth : Method} {c : Code} {D : va_G} {ca : Nat → ClassId} {ad : Nat → Nat → Nat} {b0 : Nat} {o : Int32 × oa_M} (C : oa_Cx p s m args meth c cX5_readSigns 4 (some .int) RX5 D ca b0 ad) : ∀ (n : Nat), ∀ (x1 : Int32) (x2 : Int32) (x3 : Int32) (M : oa_M), BX5_readSigns_230 n x1 x2 x3 M = some o → ∀ (H : Heap) (locs : List Loc), oa_H D ca ad M H → va_S (fun q => b0 ≤ q) s.heap H locs → ∀ (ls : Array Slot), lv_has ls 4 [(0, .ref (ad 20 0)), (1, .int x1), (2, .int x2), (3, .int x3)] → W p l e ({ frames := 1, cells := 0, slots := 0, locals := 21 } : Room) s m args below meth c H locs 0 0 (MQ below (va_Qi (fun (r' : Int32) (u : oa_M) => r' = o.1 ∧ u = o.2) (fun u t => oa_H D ca ad u t.heap) (fun q => b0 ≤ q)) args s 0 0 (fun q => b0 ≤ q)) (F0 m 230 ls [.ref (ad 20 0)]) := by
  obtain ⟨hx, hb, hml, hr, hlocks, hown, hts, hE, hw⟩ := id C
  intro n x1 x2 x3 M hf H locs hH hS ls hl
  unfold BX5_readSigns_230 at hf
  refine lv_iconst (v := (1 : Int32)) hx hb dX5_readSigns_230 (by decide) ?_
  refine lv_goto (tgt := 235) hx hb dX5_readSigns_231 (by decide) ?_
  exact bX5_readSigns_235 C n x1 x2 x3 (1 : Int32) _ hf _ _ hH hS _ (lv_sub hl [0, 1, 2, 3] rfl)
set_option maxHeartbeats 4000000 in
set_option maxRecDepth 100000 in
theorem bX5_readSigns_180 {p : Program} {l : Launch} {e : Env} {s : State} {m : MethodId} {args : Array Value} {below : List Frame} {meth : Method} {c : Code} {D : va_G} {ca : Nat → ClassId} {ad : Nat → Nat → Nat} {b0 : Nat} {o : Int32 × oa_M} (C : oa_Cx p s m args meth c cX5_readSigns 4 (some .int) RX5 D ca b0 ad) : ∀ (n : Nat), ∀ (x1 : Int32) (x2 : Int32) (z0 : Int32) (M : oa_M), BX5_readSigns_180 n x1 x2 z0 M = some o → ∀ (H : Heap) (locs : List Loc), oa_H D ca ad M H → va_S (fun q => b0 ≤ q) s.heap H locs → ∀ (ls : Array Slot), lv_has ls 4 [(0, .ref (ad 20 0)), (1, .int x1), (2, .int x2)] → W p l e ({ frames := 1, cells := 0, slots := 0, locals := 21 } : Room) s m args below meth c H locs 0 0 (MQ below (va_Qi (fun (r' : Int32) (u : oa_M) => r' = o.1 ∧ u = o.2) (fun u t => oa_H D ca ad u t.heap) (fun q => b0 ≤ q)) args s 0 0 (fun q => b0 ≤ q)) (F0 m 180 ls [.int z0]) := by
  obtain ⟨hx, hb, hml, hr, hlocks, hown, hts, hE, hw⟩ := id C
  intro n x1 x2 z0 M hf H locs hH hS ls hl
  unfold BX5_readSigns_180 at hf
  refine lv_istore_n (lv' := [(3, .int z0), (0, .ref (ad 20 0)), (1, .int x1), (2, .int x2)]) hx hb dX5_readSigns_180 rfl hl (by decide) rfl (fun ls hl => ?_)
  refine lv_aload_n hx hb dX5_readSigns_181 rfl (lv_at hl 1 rfl) ?_
  refine lv_aload_n hx hb dX5_readSigns_182 rfl (lv_at hl 1 rfl) ?_
  refine oa_get (ci := 5) (C := RX5) (T := TX5) (N := 31) (v := .int (M 20 0 3)) hx hb hts inX5 hown hE hH 20 0 (by decide) rfl rfl 3 (by decide) (hts _ tw_618) rfl dX5_readSigns_183 ?_
  refine lv_if_ne (tgt := 230) hx hb dX5_readSigns_186 (by decide) (fun hq1 => ?_) (fun hq1 => ?_)
  · rw [if_neg hq1] at hf
    exact bX5_readSigns_230 C n x1 x2 z0 _ hf _ _ hH hS _ (lv_sub hl [1, 2, 3, 0] rfl)
  · rw [if_pos hq1] at hf
    refine lv_iload_n hx hb dX5_readSigns_189 rfl (lv_at hl 3 rfl) ?_
    refine lv_if_eq (tgt := 230) hx hb dX5_readSigns_190 (by decide) (fun hq2 => ?_) (fun hq2 => ?_)
    · rw [if_pos hq2] at hf
      exact bX5_readSigns_230 C n x1 x2 z0 _ hf _ _ hH hS _ (lv_sub hl [1, 2, 3, 0] rfl)
    · rw [if_neg hq2] at hf
      refine lv_iload_n hx hb dX5_readSigns_193 rfl (lv_at hl 0 rfl) ?_
      refine lv_if_eq (tgt := 230) hx hb dX5_readSigns_194 (by decide) (fun hq3 => ?_) (fun hq3 => ?_)
      · rw [if_pos hq3] at hf
        exact bX5_readSigns_230 C n x1 x2 z0 _ hf _ _ hH hS _ (lv_sub hl [1, 2, 3, 0] rfl)
      · rw [if_neg hq3] at hf
        refine lv_aload_n hx hb dX5_readSigns_197 rfl (lv_at hl 1 rfl) ?_
        refine oa_get (ci := 5) (C := RX5) (T := TX5) (N := 31) (v := .ref (ad 35 0)) hx hb hts inX5 hown hE hH 20 0 (by decide) rfl rfl 15 (by decide) (hts _ tw_630) rfl dX5_readSigns_198 ?_
        refine lv_iconst (v := (0 : Int32)) hx hb dX5_readSigns_201 (by decide) ?_
        obtain ⟨hk4, hf⟩ := oa_ck hf
        refine oa_ild (v := (M 35 0 (0 : Int32).toNatClampNeg)) hx hb hE hH 35 0 (by decide) 3 rfl rfl (oa_in_vp hk4) dX5_readSigns_202 ?_
        refine lv_bipush (v := (16 : Int32)) hx hb dX5_readSigns_203 (by decide) ?_
        refine lv_icmp_gt (tgt := 230) hx hb dX5_readSigns_205 (by decide) (fun hq5 => ?_) (fun hq5 => ?_)
        · rw [if_pos hq5] at hf
          exact bX5_readSigns_230 C n x1 x2 z0 _ hf _ _ hH hS _ (lv_sub hl [1, 2, 3, 0] rfl)
        · rw [if_neg hq5] at hf
          refine lv_aload_n hx hb dX5_readSigns_208 rfl (lv_at hl 1 rfl) ?_
          refine oa_get (ci := 5) (C := RX5) (T := TX5) (N := 31) (v := .ref (ad 35 0)) hx hb hts inX5 hown hE hH 20 0 (by decide) rfl rfl 15 (by decide) (hts _ tw_630) rfl dX5_readSigns_209 ?_
          refine lv_iconst (v := (1 : Int32)) hx hb dX5_readSigns_212 (by decide) ?_
          obtain ⟨hk6, hf⟩ := oa_ck hf
          refine oa_ild (v := (M 35 0 (1 : Int32).toNatClampNeg)) hx hb hE hH 35 0 (by decide) 3 rfl rfl (oa_in_vp hk6) dX5_readSigns_213 ?_
          refine lv_bipush (v := (16 : Int32)) hx hb dX5_readSigns_214 (by decide) ?_
          refine lv_icmp_gt (tgt := 230) hx hb dX5_readSigns_216 (by decide) (fun hq7 => ?_) (fun hq7 => ?_)
          · rw [if_pos hq7] at hf
            exact bX5_readSigns_230 C n x1 x2 z0 _ hf _ _ hH hS _ (lv_sub hl [1, 2, 3, 0] rfl)
          · rw [if_neg hq7] at hf
            refine lv_aload_n hx hb dX5_readSigns_219 rfl (lv_at hl 1 rfl) ?_
            refine oa_get (ci := 5) (C := RX5) (T := TX5) (N := 31) (v := .ref (ad 35 0)) hx hb hts inX5 hown hE hH 20 0 (by decide) rfl rfl 15 (by decide) (hts _ tw_630) rfl dX5_readSigns_220 ?_
            refine lv_iconst (v := (2 : Int32)) hx hb dX5_readSigns_223 (by decide) ?_
            obtain ⟨hk8, hf⟩ := oa_ck hf
            refine oa_ild (v := (M 35 0 (2 : Int32).toNatClampNeg)) hx hb hE hH 35 0 (by decide) 3 rfl rfl (oa_in_vp hk8) dX5_readSigns_224 ?_
            refine lv_bipush (v := (16 : Int32)) hx hb dX5_readSigns_225 (by decide) ?_
            refine lv_icmp_le (tgt := 234) hx hb dX5_readSigns_227 (by decide) (fun hq9 => ?_) (fun hq9 => ?_)
            · rw [if_pos hq9] at hf
              refine lv_iconst (v := (0 : Int32)) hx hb dX5_readSigns_234 (by decide) ?_
              exact bX5_readSigns_235 C n x1 x2 z0 (0 : Int32) _ hf _ _ hH hS _ (lv_sub hl [1, 2, 3, 0] rfl)
            · rw [if_neg hq9] at hf
              exact bX5_readSigns_230 C n x1 x2 z0 _ hf _ _ hH hS _ (lv_sub hl [1, 2, 3, 0] rfl)
set_option maxHeartbeats 4000000 in
set_option maxRecDepth 100000 in
theorem bX5_readSigns_179 {p : Program} {l : Launch} {e : Env} {s : State} {m : MethodId} {args : Array Value} {below : List Frame} {meth : Method} {c : Code} {D : va_G} {ca : Nat → ClassId} {ad : Nat → Nat → Nat} {b0 : Nat} {o : Int32 × oa_M} (C : oa_Cx p s m args meth c cX5_readSigns 4 (some .int) RX5 D ca b0 ad) : ∀ (n : Nat), ∀ (x1 : Int32) (x2 : Int32) (M : oa_M), BX5_readSigns_179 n x1 x2 M = some o → ∀ (H : Heap) (locs : List Loc), oa_H D ca ad M H → va_S (fun q => b0 ≤ q) s.heap H locs → ∀ (ls : Array Slot), lv_has ls 4 [(0, .ref (ad 20 0)), (1, .int x1), (2, .int x2)] → W p l e ({ frames := 1, cells := 0, slots := 0, locals := 21 } : Room) s m args below meth c H locs 0 0 (MQ below (va_Qi (fun (r' : Int32) (u : oa_M) => r' = o.1 ∧ u = o.2) (fun u t => oa_H D ca ad u t.heap) (fun q => b0 ≤ q)) args s 0 0 (fun q => b0 ≤ q)) (F0 m 179 ls []) := by
  obtain ⟨hx, hb, hml, hr, hlocks, hown, hts, hE, hw⟩ := id C
  intro n x1 x2 M hf H locs hH hS ls hl
  unfold BX5_readSigns_179 at hf
  refine lv_iconst (v := (0 : Int32)) hx hb dX5_readSigns_179 (by decide) ?_
  exact bX5_readSigns_180 C n x1 x2 (0 : Int32) _ hf _ _ hH hS _ (lv_sub hl [0, 1, 2] rfl)
set_option maxHeartbeats 4000000 in
set_option maxRecDepth 100000 in
theorem bX5_readSigns_175 {p : Program} {l : Launch} {e : Env} {s : State} {m : MethodId} {args : Array Value} {below : List Frame} {meth : Method} {c : Code} {D : va_G} {ca : Nat → ClassId} {ad : Nat → Nat → Nat} {b0 : Nat} {o : Int32 × oa_M} (C : oa_Cx p s m args meth c cX5_readSigns 4 (some .int) RX5 D ca b0 ad) : ∀ (n : Nat), ∀ (x1 : Int32) (x2 : Int32) (M : oa_M), BX5_readSigns_175 n x1 x2 M = some o → ∀ (H : Heap) (locs : List Loc), oa_H D ca ad M H → va_S (fun q => b0 ≤ q) s.heap H locs → ∀ (ls : Array Slot), lv_has ls 4 [(0, .ref (ad 20 0)), (1, .int x1), (2, .int x2)] → W p l e ({ frames := 1, cells := 0, slots := 0, locals := 21 } : Room) s m args below meth c H locs 0 0 (MQ below (va_Qi (fun (r' : Int32) (u : oa_M) => r' = o.1 ∧ u = o.2) (fun u t => oa_H D ca ad u t.heap) (fun q => b0 ≤ q)) args s 0 0 (fun q => b0 ≤ q)) (F0 m 175 ls []) := by
  obtain ⟨hx, hb, hml, hr, hlocks, hown, hts, hE, hw⟩ := id C
  intro n x1 x2 M hf H locs hH hS ls hl
  unfold BX5_readSigns_175 at hf
  refine lv_iconst (v := (1 : Int32)) hx hb dX5_readSigns_175 (by decide) ?_
  refine lv_goto (tgt := 180) hx hb dX5_readSigns_176 (by decide) ?_
  exact bX5_readSigns_180 C n x1 x2 (1 : Int32) _ hf _ _ hH hS _ (lv_sub hl [0, 1, 2] rfl)
set_option maxHeartbeats 4000000 in
set_option maxRecDepth 100000 in
theorem bX5_readSigns_157 {p : Program} {l : Launch} {e : Env} {s : State} {m : MethodId} {args : Array Value} {below : List Frame} {meth : Method} {c : Code} {D : va_G} {ca : Nat → ClassId} {ad : Nat → Nat → Nat} {b0 : Nat} {o : Int32 × oa_M} (C : oa_Cx p s m args meth c cX5_readSigns 4 (some .int) RX5 D ca b0 ad) : ∀ (n : Nat), ∀ (x1 : Int32) (x2 : Int32) (M : oa_M), BX5_readSigns_157 n x1 x2 M = some o → ∀ (H : Heap) (locs : List Loc), oa_H D ca ad M H → va_S (fun q => b0 ≤ q) s.heap H locs → ∀ (ls : Array Slot), lv_has ls 4 [(0, .ref (ad 20 0)), (1, .int x1), (2, .int x2)] → W p l e ({ frames := 1, cells := 0, slots := 0, locals := 21 } : Room) s m args below meth c H locs 0 0 (MQ below (va_Qi (fun (r' : Int32) (u : oa_M) => r' = o.1 ∧ u = o.2) (fun u t => oa_H D ca ad u t.heap) (fun q => b0 ≤ q)) args s 0 0 (fun q => b0 ≤ q)) (F0 m 157 ls []) := by
  obtain ⟨hx, hb, hml, hr, hlocks, hown, hts, hE, hw⟩ := id C
  intro n x1 x2 M hf H locs hH hS ls hl
  unfold BX5_readSigns_157 at hf
  refine lv_aload_n hx hb dX5_readSigns_157 rfl (lv_at hl 0 rfl) ?_
  refine oa_get (ci := 5) (C := RX5) (T := TX5) (N := 31) (v := .ref (ad 35 0)) hx hb hts inX5 hown hE hH 20 0 (by decide) rfl rfl 15 (by decide) (hts _ tw_630) rfl dX5_readSigns_158 ?_
  refine lv_iconst (v := (2 : Int32)) hx hb dX5_readSigns_161 (by decide) ?_
  obtain ⟨hk1, hf⟩ := oa_ck hf
  refine oa_ild (v := (M 35 0 (2 : Int32).toNatClampNeg)) hx hb hE hH 35 0 (by decide) 3 rfl rfl (oa_in_vp hk1) dX5_readSigns_162 ?_
  refine lv_if_eq (tgt := 175) hx hb dX5_readSigns_163 (by decide) (fun hq2 => ?_) (fun hq2 => ?_)
  · rw [if_pos hq2] at hf
    exact bX5_readSigns_175 C n x1 x2 _ hf _ _ hH hS _ (lv_sub hl [0, 1, 2] rfl)
  · rw [if_neg hq2] at hf
    refine lv_aload_n hx hb dX5_readSigns_166 rfl (lv_at hl 0 rfl) ?_
    refine oa_get (ci := 5) (C := RX5) (T := TX5) (N := 31) (v := .ref (ad 35 0)) hx hb hts inX5 hown hE hH 20 0 (by decide) rfl rfl 15 (by decide) (hts _ tw_630) rfl dX5_readSigns_167 ?_
    refine lv_iconst (v := (1 : Int32)) hx hb dX5_readSigns_170 (by decide) ?_
    obtain ⟨hk3, hf⟩ := oa_ck hf
    refine oa_ild (v := (M 35 0 (1 : Int32).toNatClampNeg)) hx hb hE hH 35 0 (by decide) 3 rfl rfl (oa_in_vp hk3) dX5_readSigns_171 ?_
    refine lv_if_le (tgt := 179) hx hb dX5_readSigns_172 (by decide) (fun hq4 => ?_) (fun hq4 => ?_)
    · rw [if_pos hq4] at hf
      exact bX5_readSigns_179 C n x1 x2 _ hf _ _ hH hS _ (lv_sub hl [0, 1, 2] rfl)
    · rw [if_neg hq4] at hf
      exact bX5_readSigns_175 C n x1 x2 _ hf _ _ hH hS _ (lv_sub hl [0, 1, 2] rfl)
set_option maxHeartbeats 4000000 in
set_option maxRecDepth 100000 in
theorem bX5_readSigns_138 {p : Program} {l : Launch} {e : Env} {s : State} {m : MethodId} {args : Array Value} {below : List Frame} {meth : Method} {c : Code} {D : va_G} {ca : Nat → ClassId} {ad : Nat → Nat → Nat} {b0 : Nat} {o : Int32 × oa_M} (C : oa_Cx p s m args meth c cX5_readSigns 4 (some .int) RX5 D ca b0 ad) : ∀ (n : Nat), ∀ (x1 : Int32) (x2 : Int32) (z0 : Int32) (M : oa_M), BX5_readSigns_138 n x1 x2 z0 M = some o → ∀ (H : Heap) (locs : List Loc), oa_H D ca ad M H → va_S (fun q => b0 ≤ q) s.heap H locs → ∀ (ls : Array Slot), lv_has ls 4 [(0, .ref (ad 20 0)), (1, .int x1), (2, .int x2)] → W p l e ({ frames := 1, cells := 0, slots := 0, locals := 21 } : Room) s m args below meth c H locs 0 0 (MQ below (va_Qi (fun (r' : Int32) (u : oa_M) => r' = o.1 ∧ u = o.2) (fun u t => oa_H D ca ad u t.heap) (fun q => b0 ≤ q)) args s 0 0 (fun q => b0 ≤ q)) (F0 m 138 ls [.int z0]) := by
  obtain ⟨hx, hb, hml, hr, hlocks, hown, hts, hE, hw⟩ := id C
  intro n x1 x2 z0 M hf H locs hH hS ls hl
  unfold BX5_readSigns_138 at hf
  refine lv_istore_n (lv' := [(2, .int z0), (0, .ref (ad 20 0)), (1, .int x1)]) hx hb dX5_readSigns_138 rfl hl (by decide) rfl (fun ls hl => ?_)
  refine lv_aload_n hx hb dX5_readSigns_139 rfl (lv_at hl 1 rfl) ?_
  refine oa_get (ci := 5) (C := RX5) (T := TX5) (N := 31) (v := .ref (ad 35 0)) hx hb hts inX5 hown hE hH 20 0 (by decide) rfl rfl 15 (by decide) (hts _ tw_630) rfl dX5_readSigns_140 ?_
  refine lv_iconst (v := (1 : Int32)) hx hb dX5_readSigns_143 (by decide) ?_
  obtain ⟨hk1, hf⟩ := oa_ck hf
  refine oa_ild (v := (M 35 0 (1 : Int32).toNatClampNeg)) hx hb hE hH 35 0 (by decide) 3 rfl rfl (oa_in_vp hk1) dX5_readSigns_144 ?_
  refine lv_if_eq (tgt := 157) hx hb dX5_readSigns_145 (by decide) (fun hq2 => ?_) (fun hq2 => ?_)
  · rw [if_pos hq2] at hf
    exact bX5_readSigns_157 C n x1 z0 _ hf _ _ hH hS _ (lv_sub hl [1, 2, 0] rfl)
  · rw [if_neg hq2] at hf
    refine lv_aload_n hx hb dX5_readSigns_148 rfl (lv_at hl 1 rfl) ?_
    refine oa_get (ci := 5) (C := RX5) (T := TX5) (N := 31) (v := .ref (ad 35 0)) hx hb hts inX5 hown hE hH 20 0 (by decide) rfl rfl 15 (by decide) (hts _ tw_630) rfl dX5_readSigns_149 ?_
    refine lv_iconst (v := (0 : Int32)) hx hb dX5_readSigns_152 (by decide) ?_
    obtain ⟨hk3, hf⟩ := oa_ck hf
    refine oa_ild (v := (M 35 0 (0 : Int32).toNatClampNeg)) hx hb hE hH 35 0 (by decide) 3 rfl rfl (oa_in_vp hk3) dX5_readSigns_153 ?_
    refine lv_if_le (tgt := 179) hx hb dX5_readSigns_154 (by decide) (fun hq4 => ?_) (fun hq4 => ?_)
    · rw [if_pos hq4] at hf
      exact bX5_readSigns_179 C n x1 z0 _ hf _ _ hH hS _ (lv_sub hl [1, 2, 0] rfl)
    · rw [if_neg hq4] at hf
      exact bX5_readSigns_157 C n x1 z0 _ hf _ _ hH hS _ (lv_sub hl [1, 2, 0] rfl)
set_option maxHeartbeats 4000000 in
set_option maxRecDepth 100000 in
theorem bX5_readSigns_133 {p : Program} {l : Launch} {e : Env} {s : State} {m : MethodId} {args : Array Value} {below : List Frame} {meth : Method} {c : Code} {D : va_G} {ca : Nat → ClassId} {ad : Nat → Nat → Nat} {b0 : Nat} {o : Int32 × oa_M} (C : oa_Cx p s m args meth c cX5_readSigns 4 (some .int) RX5 D ca b0 ad) : ∀ (n : Nat), ∀ (x1 : Int32) (x2 : Int32) (M : oa_M), BX5_readSigns_133 n x1 x2 M = some o → ∀ (H : Heap) (locs : List Loc), oa_H D ca ad M H → va_S (fun q => b0 ≤ q) s.heap H locs → ∀ (ls : Array Slot), lv_has ls 4 [(0, .ref (ad 20 0)), (1, .int x1), (2, .int x2)] → W p l e ({ frames := 1, cells := 0, slots := 0, locals := 21 } : Room) s m args below meth c H locs 0 0 (MQ below (va_Qi (fun (r' : Int32) (u : oa_M) => r' = o.1 ∧ u = o.2) (fun u t => oa_H D ca ad u t.heap) (fun q => b0 ≤ q)) args s 0 0 (fun q => b0 ≤ q)) (F0 m 133 ls []) := by
  obtain ⟨hx, hb, hml, hr, hlocks, hown, hts, hE, hw⟩ := id C
  intro n x1 x2 M hf H locs hH hS ls hl
  unfold BX5_readSigns_133 at hf
  refine lv_iconst (v := (1 : Int32)) hx hb dX5_readSigns_133 (by decide) ?_
  refine lv_goto (tgt := 138) hx hb dX5_readSigns_134 (by decide) ?_
  exact bX5_readSigns_138 C n x1 x2 (1 : Int32) _ hf _ _ hH hS _ (lv_sub hl [0, 1, 2] rfl)
set_option maxHeartbeats 4000000 in
set_option maxRecDepth 100000 in
theorem bX5_readSigns_102 {p : Program} {l : Launch} {e : Env} {s : State} {m : MethodId} {args : Array Value} {below : List Frame} {meth : Method} {c : Code} {D : va_G} {ca : Nat → ClassId} {ad : Nat → Nat → Nat} {b0 : Nat} {o : Int32 × oa_M} (C : oa_Cx p s m args meth c cX5_readSigns 4 (some .int) RX5 D ca b0 ad) (rec22 : Int32 → Int32 → oa_M → Option (Int32 × oa_M)) (hrec22 : ∀ (x1 : Int32) (x2 : Int32) (M : oa_M), rec22 x1 x2 M = some o → ∀ (H : Heap) (locs : List Loc), oa_H D ca ad M H → va_S (fun q => b0 ≤ q) s.heap H locs → ∀ (ls : Array Slot), lv_has ls 4 [(0, .ref (ad 20 0)), (1, .int x1), (2, .int x2)] → W p l e ({ frames := 1, cells := 0, slots := 0, locals := 21 } : Room) s m args below meth c H locs 0 0 (MQ below (va_Qi (fun (r' : Int32) (u : oa_M) => r' = o.1 ∧ u = o.2) (fun u t => oa_H D ca ad u t.heap) (fun q => b0 ≤ q)) args s 0 0 (fun q => b0 ≤ q)) (F0 m 22 ls [])) : ∀ (n : Nat), ∀ (x1 : Int32) (x2 : Int32) (M : oa_M), BX5_readSigns_102 rec22 n x1 x2 M = some o → ∀ (H : Heap) (locs : List Loc), oa_H D ca ad M H → va_S (fun q => b0 ≤ q) s.heap H locs → ∀ (ls : Array Slot), lv_has ls 4 [(0, .ref (ad 20 0)), (1, .int x1), (2, .int x2)] → W p l e ({ frames := 1, cells := 0, slots := 0, locals := 21 } : Room) s m args below meth c H locs 0 0 (MQ below (va_Qi (fun (r' : Int32) (u : oa_M) => r' = o.1 ∧ u = o.2) (fun u t => oa_H D ca ad u t.heap) (fun q => b0 ≤ q)) args s 0 0 (fun q => b0 ≤ q)) (F0 m 102 ls []) := by
  obtain ⟨hx, hb, hml, hr, hlocks, hown, hts, hE, hw⟩ := id C
  intro n x1 x2 M hf H locs hH hS ls hl
  unfold BX5_readSigns_102 at hf
  refine lv_aload_n hx hb dX5_readSigns_102 rfl (lv_at hl 0 rfl) ?_
  refine lv_dup hx hb dX5_readSigns_103 rfl ?_
  refine oa_get (ci := 5) (C := RX5) (T := TX5) (N := 31) (v := .int (M 20 0 2)) hx hb hts inX5 hown hE hH 20 0 (by decide) rfl rfl 2 (by decide) (hts _ tw_617) rfl dX5_readSigns_104 ?_
  refine lv_iconst (v := (1 : Int32)) hx hb dX5_readSigns_107 (by decide) ?_
  refine lv_iadd hx hb dX5_readSigns_108 ?_
  refine oa_put (ci := 5) (C := RX5) (T := TX5) (N := 31) (v := .int ((M 20 0 2) + (1 : Int32))) (x := ((M 20 0 2) + (1 : Int32))) hx hb hts inX5 tyX5 tyX5_ok nmX5 hown hE hw hH hS 20 0 (by decide) rfl rfl 2 (by decide) (hts _ tw_617) rfl rfl rfl (Nat.le_of_ble_eq_true rfl) rfl dX5_readSigns_109 (fun H locs hH hS => ?_)
  refine lv_goto (tgt := 22) hx hb dX5_readSigns_112 (by decide) ?_
  exact hrec22 x1 x2 _ hf _ _ hH hS _ (lv_sub hl [0, 1, 2] rfl)
set_option maxHeartbeats 4000000 in
set_option maxRecDepth 100000 in
theorem bX5_readSigns_65 {p : Program} {l : Launch} {e : Env} {s : State} {m : MethodId} {args : Array Value} {below : List Frame} {meth : Method} {c : Code} {D : va_G} {ca : Nat → ClassId} {ad : Nat → Nat → Nat} {b0 : Nat} {o : Int32 × oa_M} (C : oa_Cx p s m args meth c cX5_readSigns 4 (some .int) RX5 D ca b0 ad) (rec22 : Int32 → Int32 → oa_M → Option (Int32 × oa_M)) (hrec22 : ∀ (x1 : Int32) (x2 : Int32) (M : oa_M), rec22 x1 x2 M = some o → ∀ (H : Heap) (locs : List Loc), oa_H D ca ad M H → va_S (fun q => b0 ≤ q) s.heap H locs → ∀ (ls : Array Slot), lv_has ls 4 [(0, .ref (ad 20 0)), (1, .int x1), (2, .int x2)] → W p l e ({ frames := 1, cells := 0, slots := 0, locals := 21 } : Room) s m args below meth c H locs 0 0 (MQ below (va_Qi (fun (r' : Int32) (u : oa_M) => r' = o.1 ∧ u = o.2) (fun u t => oa_H D ca ad u t.heap) (fun q => b0 ≤ q)) args s 0 0 (fun q => b0 ≤ q)) (F0 m 22 ls [])) : ∀ (n : Nat), ∀ (x1 : Int32) (x2 : Int32) (z1 : Int32) (M : oa_M), BX5_readSigns_65 rec22 n x1 x2 z1 M = some o → ∀ (H : Heap) (locs : List Loc), oa_H D ca ad M H → va_S (fun q => b0 ≤ q) s.heap H locs → ∀ (ls : Array Slot), lv_has ls 4 [(0, .ref (ad 20 0)), (1, .int x1), (2, .int x2)] → W p l e ({ frames := 1, cells := 0, slots := 0, locals := 21 } : Room) s m args below meth c H locs 0 0 (MQ below (va_Qi (fun (r' : Int32) (u : oa_M) => r' = o.1 ∧ u = o.2) (fun u t => oa_H D ca ad u t.heap) (fun q => b0 ≤ q)) args s 0 0 (fun q => b0 ≤ q)) (F0 m 65 ls [.int z1, .ref (ad 20 0)]) := by
  obtain ⟨hx, hb, hml, hr, hlocks, hown, hts, hE, hw⟩ := id C
  intro n x1 x2 z1 M hf H locs hH hS ls hl
  unfold BX5_readSigns_65 at hf
  obtain ⟨hk1, hf⟩ := oa_ck hf
  refine oa_put (ci := 5) (C := RX5) (T := TX5) (N := 31) (v := .int z1) (x := z1) hx hb hts inX5 tyX5 tyX5_ok nmX5 hown hE hw hH hS 20 0 (by decide) rfl rfl 3 (by decide) (hts _ tw_618) rfl (oa_nb hk1) (oa_fb hk1) (Nat.le_of_ble_eq_true rfl) rfl dX5_readSigns_65 (fun H locs hH hS => ?_)
  refine lv_aload_n hx hb dX5_readSigns_68 rfl (lv_at hl 0 rfl) ?_
  refine oa_get (ci := 5) (C := RX5) (T := TX5) (N := 31) (v := .int z1) hx hb hts inX5 hown hE hH 20 0 (by decide) rfl rfl 3 (by decide) (hts _ tw_618) rfl dX5_readSigns_69 ?_
  refine lv_if_ne (tgt := 102) hx hb dX5_readSigns_72 (by decide) (fun hq2 => ?_) (fun hq2 => ?_)
  · rw [if_neg hq2] at hf
    exact bX5_readSigns_102 C _ hrec22 n x1 x2 _ hf _ _ hH hS _ (lv_sub hl [0, 1, 2] rfl)
  · rw [if_pos hq2] at hf
    refine lv_aload_n hx hb dX5_readSigns_75 rfl (lv_at hl 0 rfl) ?_
    refine oa_get (ci := 5) (C := RX5) (T := TX5) (N := 31) (v := .ref (ad 34 0)) hx hb hts inX5 hown hE hH 20 0 (by decide) rfl rfl 14 (by decide) (hts _ tw_629) rfl dX5_readSigns_76 ?_
    refine lv_iload_n hx hb dX5_readSigns_79 rfl (lv_at hl 1 rfl) ?_
    refine lv_iload_n hx hb dX5_readSigns_80 rfl (lv_at hl 2 rfl) ?_
    obtain ⟨hk3, hf⟩ := oa_ck hf
    refine oa_ist hx hb hE hw hH hS 34 0 (by decide) 24 (fun _ => rfl) (oa_in_vp hk3) dX5_readSigns_81 (fun H locs hH hS => ?_)
    refine lv_iinc (v := (x1 + (1 : Int32))) (lv' := [(1, .int (x1 + (1 : Int32))), (0, .ref (ad 20 0)), (2, .int x2)]) hx hb dX5_readSigns_82 hl (k := 1) rfl rfl (by decide) rfl (fun ls hl => ?_)
    refine lv_iload_n hx hb dX5_readSigns_85 rfl (lv_at hl 2 rfl) ?_
    refine lv_iconst (v := (1 : Int32)) hx hb dX5_readSigns_86 (by decide) ?_
    refine lv_icmp_le (tgt := 102) hx hb dX5_readSigns_87 (by decide) (fun hq4 => ?_) (fun hq4 => ?_)
    · rw [if_pos hq4] at hf
      exact bX5_readSigns_102 C _ hrec22 n (x1 + (1 : Int32)) x2 _ hf _ _ hH hS _ (lv_sub hl [1, 0, 2] rfl)
    · rw [if_neg hq4] at hf
      refine lv_aload_n hx hb dX5_readSigns_90 rfl (lv_at hl 1 rfl) ?_
      refine oa_get (ci := 5) (C := RX5) (T := TX5) (N := 31) (v := .ref (ad 35 0)) hx hb hts inX5 hown hE hH 20 0 (by decide) rfl rfl 15 (by decide) (hts _ tw_630) rfl dX5_readSigns_91 ?_
      refine lv_iload_n hx hb dX5_readSigns_94 rfl (lv_at hl 2 rfl) ?_
      refine lv_iconst (v := (2 : Int32)) hx hb dX5_readSigns_95 (by decide) ?_
      refine lv_isub hx hb dX5_readSigns_96 ?_
      refine lv_dup2_11 hx hb dX5_readSigns_97 rfl rfl ?_
      obtain ⟨hk5, hf⟩ := oa_ck hf
      refine oa_ild (v := (M 35 0 (x2 - (2 : Int32)).toNatClampNeg)) hx hb hE hH 35 0 (by decide) 3 rfl rfl (oa_in_vp hk5) dX5_readSigns_98 ?_
      refine lv_iconst (v := (1 : Int32)) hx hb dX5_readSigns_99 (by decide) ?_
      refine lv_iadd hx hb dX5_readSigns_100 ?_
      obtain ⟨hk6, hf⟩ := oa_ck hf
      refine oa_ist hx hb hE hw hH hS 35 0 (by decide) 3 (fun _ => rfl) (oa_in_vp hk6) dX5_readSigns_101 (fun H locs hH hS => ?_)
      exact bX5_readSigns_102 C _ hrec22 n (x1 + (1 : Int32)) x2 _ hf _ _ hH hS _ (lv_sub hl [1, 0, 2] rfl)
set_option maxHeartbeats 4000000 in
set_option maxRecDepth 100000 in
theorem bX5_readSigns_60 {p : Program} {l : Launch} {e : Env} {s : State} {m : MethodId} {args : Array Value} {below : List Frame} {meth : Method} {c : Code} {D : va_G} {ca : Nat → ClassId} {ad : Nat → Nat → Nat} {b0 : Nat} {o : Int32 × oa_M} (C : oa_Cx p s m args meth c cX5_readSigns 4 (some .int) RX5 D ca b0 ad) (rec22 : Int32 → Int32 → oa_M → Option (Int32 × oa_M)) (hrec22 : ∀ (x1 : Int32) (x2 : Int32) (M : oa_M), rec22 x1 x2 M = some o → ∀ (H : Heap) (locs : List Loc), oa_H D ca ad M H → va_S (fun q => b0 ≤ q) s.heap H locs → ∀ (ls : Array Slot), lv_has ls 4 [(0, .ref (ad 20 0)), (1, .int x1), (2, .int x2)] → W p l e ({ frames := 1, cells := 0, slots := 0, locals := 21 } : Room) s m args below meth c H locs 0 0 (MQ below (va_Qi (fun (r' : Int32) (u : oa_M) => r' = o.1 ∧ u = o.2) (fun u t => oa_H D ca ad u t.heap) (fun q => b0 ≤ q)) args s 0 0 (fun q => b0 ≤ q)) (F0 m 22 ls [])) : ∀ (n : Nat), ∀ (x1 : Int32) (x2 : Int32) (M : oa_M), BX5_readSigns_60 rec22 n x1 x2 M = some o → ∀ (H : Heap) (locs : List Loc), oa_H D ca ad M H → va_S (fun q => b0 ≤ q) s.heap H locs → ∀ (ls : Array Slot), lv_has ls 4 [(0, .ref (ad 20 0)), (1, .int x1), (2, .int x2)] → W p l e ({ frames := 1, cells := 0, slots := 0, locals := 21 } : Room) s m args below meth c H locs 0 0 (MQ below (va_Qi (fun (r' : Int32) (u : oa_M) => r' = o.1 ∧ u = o.2) (fun u t => oa_H D ca ad u t.heap) (fun q => b0 ≤ q)) args s 0 0 (fun q => b0 ≤ q)) (F0 m 60 ls [.ref (ad 20 0)]) := by
  obtain ⟨hx, hb, hml, hr, hlocks, hown, hts, hE, hw⟩ := id C
  intro n x1 x2 M hf H locs hH hS ls hl
  unfold BX5_readSigns_60 at hf
  refine lv_iconst (v := (1 : Int32)) hx hb dX5_readSigns_60 (by decide) ?_
  refine lv_goto (tgt := 65) hx hb dX5_readSigns_61 (by decide) ?_
  exact bX5_readSigns_65 C _ hrec22 n x1 x2 (1 : Int32) _ hf _ _ hH hS _ (lv_sub hl [0, 1, 2] rfl)
set_option maxHeartbeats 4000000 in
set_option maxRecDepth 100000 in
theorem bX5_readSigns_22 {p : Program} {l : Launch} {e : Env} {s : State} {m : MethodId} {args : Array Value} {below : List Frame} {meth : Method} {c : Code} {D : va_G} {ca : Nat → ClassId} {ad : Nat → Nat → Nat} {b0 : Nat} {o : Int32 × oa_M} (C : oa_Cx p s m args meth c cX5_readSigns 4 (some .int) RX5 D ca b0 ad) : ∀ (n : Nat), ∀ (x1 : Int32) (x2 : Int32) (M : oa_M), BX5_readSigns_22 n x1 x2 M = some o → ∀ (H : Heap) (locs : List Loc), oa_H D ca ad M H → va_S (fun q => b0 ≤ q) s.heap H locs → ∀ (ls : Array Slot), lv_has ls 4 [(0, .ref (ad 20 0)), (1, .int x1), (2, .int x2)] → W p l e ({ frames := 1, cells := 0, slots := 0, locals := 21 } : Room) s m args below meth c H locs 0 0 (MQ below (va_Qi (fun (r' : Int32) (u : oa_M) => r' = o.1 ∧ u = o.2) (fun u t => oa_H D ca ad u t.heap) (fun q => b0 ≤ q)) args s 0 0 (fun q => b0 ≤ q)) (F0 m 22 ls []) := by
  obtain ⟨hx, hb, hml, hr, hlocks, hown, hts, hE, hw⟩ := id C
  intro n
  induction n with
  | zero => intro x1 x2 M hf; cases hf
  | succ n ih =>
    intro x1 x2 M hf H locs hH hS ls hl
    have hrec22 := ih
    unfold BX5_readSigns_22 at hf
    refine lv_aload_n hx hb dX5_readSigns_22 rfl (lv_at hl 0 rfl) ?_
    refine oa_get (ci := 5) (C := RX5) (T := TX5) (N := 31) (v := .int (M 20 0 2)) hx hb hts inX5 hown hE hH 20 0 (by decide) rfl rfl 2 (by decide) (hts _ tw_617) rfl dX5_readSigns_23 ?_
    refine lv_aload_n hx hb dX5_readSigns_26 rfl (lv_at hl 0 rfl) ?_
    refine oa_get (ci := 5) (C := RX5) (T := TX5) (N := 31) (v := .int (M 20 0 0)) hx hb hts inX5 hown hE hH 20 0 (by decide) rfl rfl 0 (by decide) (hts _ tw_615) rfl dX5_readSigns_27 ?_
    refine lv_icmp_ge (tgt := 115) hx hb dX5_readSigns_30 (by decide) (fun hq1 => ?_) (fun hq1 => ?_)
    · rw [if_pos hq1] at hf
      refine lv_iload_n hx hb dX5_readSigns_115 rfl (lv_at hl 1 rfl) ?_
      refine lv_bipush (v := (8 : Int32)) hx hb dX5_readSigns_116 (by decide) ?_
      refine lv_icmp_eq (tgt := 133) hx hb dX5_readSigns_118 (by decide) (fun hq2 => ?_) (fun hq2 => ?_)
      · rw [if_pos hq2] at hf
        exact bX5_readSigns_133 C n x1 x2 _ hf _ _ hH hS _ (lv_sub hl [0, 1, 2] rfl)
      · rw [if_neg hq2] at hf
        refine lv_iload_n hx hb dX5_readSigns_121 rfl (lv_at hl 1 rfl) ?_
        refine lv_bipush (v := (16 : Int32)) hx hb dX5_readSigns_122 (by decide) ?_
        refine lv_icmp_eq (tgt := 133) hx hb dX5_readSigns_124 (by decide) (fun hq3 => ?_) (fun hq3 => ?_)
        · rw [if_pos hq3] at hf
          exact bX5_readSigns_133 C n x1 x2 _ hf _ _ hH hS _ (lv_sub hl [0, 1, 2] rfl)
        · rw [if_neg hq3] at hf
          refine lv_iload_n hx hb dX5_readSigns_127 rfl (lv_at hl 1 rfl) ?_
          refine lv_bipush (v := (24 : Int32)) hx hb dX5_readSigns_128 (by decide) ?_
          refine lv_icmp_ne (tgt := 137) hx hb dX5_readSigns_130 (by decide) (fun hq4 => ?_) (fun hq4 => ?_)
          · rw [if_neg hq4] at hf
            refine lv_iconst (v := (0 : Int32)) hx hb dX5_readSigns_137 (by decide) ?_
            exact bX5_readSigns_138 C n x1 x2 (0 : Int32) _ hf _ _ hH hS _ (lv_sub hl [0, 1, 2] rfl)
          · rw [if_pos hq4] at hf
            exact bX5_readSigns_133 C n x1 x2 _ hf _ _ hH hS _ (lv_sub hl [0, 1, 2] rfl)
    · rw [if_neg hq1] at hf
      refine lv_aload_n hx hb dX5_readSigns_33 rfl (lv_at hl 0 rfl) ?_
      refine lv_aload_n hx hb dX5_readSigns_34 rfl (lv_at hl 0 rfl) ?_
      obtain ⟨r5, M6, hc7, hf⟩ := oa_bdE hf
      refine oa_cvi (As := []) (rest := [.ref (ad 20 0)]) ⟨hx, hb, hml, hown, hts⟩ (cX5_here_ok l D ca ad b0 hw n  _ _ _ hc7) (cwV 0 hts (oa_gV tw_726 tw_728 tw_21 tw_49 tw_729) rfl rfl rfl (by decide +kernel) ⟨Nat.le_of_ble_eq_true rfl, Nat.le_of_ble_eq_true rfl⟩) hE hH hS (oa_recv (k := 20) (ci := 5) hE hH (by decide) rfl rfl) rfl hl.1 rfl (Nat.le_of_ble_eq_true rfl) dX5_readSigns_35 ⟨by decide, by decide⟩ (fun H locs hH hS => ?_)
      obtain ⟨r8, M9, hc10, hf⟩ := oa_bdE hf
      refine oa_cvi (As := [.int r5]) (rest := []) ⟨hx, hb, hml, hown, hts⟩ (cX5_signOf_ok l D ca ad b0 hw n r5 _ _ _ hc10) (cwV 1 hts (oa_gV tw_741 tw_743 tw_24 tw_49 tw_744) rfl rfl rfl (by decide +kernel) ⟨Nat.le_of_ble_eq_true rfl, Nat.le_of_ble_eq_true rfl⟩) hE hH hS (oa_recv (k := 20) (ci := 5) hE hH (by decide) rfl rfl) rfl hl.1 rfl (Nat.le_of_ble_eq_true rfl) dX5_readSigns_38 ⟨by decide, by decide⟩ (fun H locs hH hS => ?_)
      refine lv_istore_n (lv' := [(2, .int r8), (0, .ref (ad 20 0)), (1, .int x1)]) hx hb dX5_readSigns_41 rfl hl (by decide) rfl (fun ls hl => ?_)
      refine lv_aload_n hx hb dX5_readSigns_42 rfl (lv_at hl 1 rfl) ?_
      refine lv_aload_n hx hb dX5_readSigns_43 rfl (lv_at hl 1 rfl) ?_
      refine oa_get (ci := 5) (C := RX5) (T := TX5) (N := 31) (v := .int (M9 20 0 3)) hx hb hts inX5 hown hE hH 20 0 (by decide) rfl rfl 3 (by decide) (hts _ tw_618) rfl dX5_readSigns_44 ?_
      refine lv_if_ne (tgt := 60) hx hb dX5_readSigns_47 (by decide) (fun hq11 => ?_) (fun hq11 => ?_)
      · rw [if_neg hq11] at hf
        exact bX5_readSigns_60 C _ hrec22 n x1 r8 _ hf _ _ hH hS _ (lv_sub hl [1, 2, 0] rfl)
      · rw [if_pos hq11] at hf
        refine lv_iload_n hx hb dX5_readSigns_50 rfl (lv_at hl 0 rfl) ?_
        refine lv_if_lt (tgt := 60) hx hb dX5_readSigns_51 (by decide) (fun hq12 => ?_) (fun hq12 => ?_)
        · rw [if_pos hq12] at hf
          exact bX5_readSigns_60 C _ hrec22 n x1 r8 _ hf _ _ hH hS _ (lv_sub hl [1, 2, 0] rfl)
        · rw [if_neg hq12] at hf
          refine lv_iload_n hx hb dX5_readSigns_54 rfl (lv_at hl 2 rfl) ?_
          refine lv_bipush (v := (24 : Int32)) hx hb dX5_readSigns_55 (by decide) ?_
          refine lv_icmp_ne (tgt := 64) hx hb dX5_readSigns_57 (by decide) (fun hq13 => ?_) (fun hq13 => ?_)
          · rw [if_neg hq13] at hf
            refine lv_iconst (v := (0 : Int32)) hx hb dX5_readSigns_64 (by decide) ?_
            exact bX5_readSigns_65 C _ hrec22 n x1 r8 (0 : Int32) _ hf _ _ hH hS _ (lv_sub hl [1, 2, 0] rfl)
          · rw [if_pos hq13] at hf
            exact bX5_readSigns_60 C _ hrec22 n x1 r8 _ hf _ _ hH hS _ (lv_sub hl [1, 2, 0] rfl)
set_option maxHeartbeats 4000000 in
set_option maxRecDepth 100000 in
theorem bX5_readSigns_4 {p : Program} {l : Launch} {e : Env} {s : State} {m : MethodId} {args : Array Value} {below : List Frame} {meth : Method} {c : Code} {D : va_G} {ca : Nat → ClassId} {ad : Nat → Nat → Nat} {b0 : Nat} {o : Int32 × oa_M} (C : oa_Cx p s m args meth c cX5_readSigns 4 (some .int) RX5 D ca b0 ad) : ∀ (n : Nat), ∀ (x1 : Int32) (x2 : Int32) (M : oa_M), BX5_readSigns_4 n x1 x2 M = some o → ∀ (H : Heap) (locs : List Loc), oa_H D ca ad M H → va_S (fun q => b0 ≤ q) s.heap H locs → ∀ (ls : Array Slot), lv_has ls 4 [(0, .ref (ad 20 0)), (1, .int x1), (2, .int x2)] → W p l e ({ frames := 1, cells := 0, slots := 0, locals := 21 } : Room) s m args below meth c H locs 0 0 (MQ below (va_Qi (fun (r' : Int32) (u : oa_M) => r' = o.1 ∧ u = o.2) (fun u t => oa_H D ca ad u t.heap) (fun q => b0 ≤ q)) args s 0 0 (fun q => b0 ≤ q)) (F0 m 4 ls []) := by
  obtain ⟨hx, hb, hml, hr, hlocks, hown, hts, hE, hw⟩ := id C
  intro n
  induction n with
  | zero => intro x1 x2 M hf; cases hf
  | succ n ih =>
    intro x1 x2 M hf H locs hH hS ls hl
    have hrec4 := ih
    unfold BX5_readSigns_4 at hf
    refine lv_iload_n hx hb dX5_readSigns_4 rfl (lv_at hl 2 rfl) ?_
    refine lv_iconst (v := (3 : Int32)) hx hb dX5_readSigns_5 (by decide) ?_
    refine lv_icmp_ge (tgt := 22) hx hb dX5_readSigns_6 (by decide) (fun hq1 => ?_) (fun hq1 => ?_)
    · rw [if_pos hq1] at hf
      exact bX5_readSigns_22 C n x1 x2 _ hf _ _ hH hS _ (lv_sub hl [0, 1, 2] rfl)
    · rw [if_neg hq1] at hf
      refine lv_aload_n hx hb dX5_readSigns_9 rfl (lv_at hl 0 rfl) ?_
      refine oa_get (ci := 5) (C := RX5) (T := TX5) (N := 31) (v := .ref (ad 35 0)) hx hb hts inX5 hown hE hH 20 0 (by decide) rfl rfl 15 (by decide) (hts _ tw_630) rfl dX5_readSigns_10 ?_
      refine lv_iload_n hx hb dX5_readSigns_13 rfl (lv_at hl 2 rfl) ?_
      refine lv_iconst (v := (0 : Int32)) hx hb dX5_readSigns_14 (by decide) ?_
      obtain ⟨hk2, hf⟩ := oa_ck hf
      refine oa_ist hx hb hE hw hH hS 35 0 (by decide) 3 (fun _ => rfl) (oa_in_vp hk2) dX5_readSigns_15 (fun H locs hH hS => ?_)
      refine lv_iinc (v := (x2 + (1 : Int32))) (lv' := [(2, .int (x2 + (1 : Int32))), (0, .ref (ad 20 0)), (1, .int x1)]) hx hb dX5_readSigns_16 hl (k := 2) rfl rfl (by decide) rfl (fun ls hl => ?_)
      refine lv_goto (tgt := 4) hx hb dX5_readSigns_19 (by decide) ?_
      exact hrec4 x1 (x2 + (1 : Int32)) _ hf _ _ hH hS _ (lv_sub hl [1, 2, 0] rfl)
set_option maxHeartbeats 4000000 in
set_option maxRecDepth 100000 in
theorem cX5_readSigns_k (l : Launch) (D : va_G) (ca : Nat → ClassId) (ad : Nat → Nat → Nat) (b0 : Nat) (hw : oa_W ad b0) (n : Nat)  (M : oa_M) (o : Int32 × oa_M) (hf : FX5_readSigns n  M = some o) : oa_Mi l yX5_readSigns (oa_w yX5_readSigns cX5_readSigns 4 (some .int)) ({ frames := 1, cells := 0, slots := 0, locals := 21 } : Room) D ca ad b0 [.ref (ad 20 0)] M o.1 o.2 := by
  refine oa_ofW (cc := cX5_readSigns) (maxL := 4) (ret := some .int) (by decide) rfl (Nat.le_of_ble_eq_true rfl) ?_
  intro p e s m below meth c hx hb hml hr hlocks hown hts0 hP ls hl
  obtain ⟨hH, hE⟩ := hP
  have hts : ∀ w ∈ oa_T, w.before _ s = true := fun w h => hts0 w (List.mem_cons_of_mem _ h)
  have hS : va_S (fun q => b0 ≤ q) s.heap s.heap [] := va_S.rf
  have C : oa_Cx p s m _ meth c cX5_readSigns 4 (some .int) RX5 D ca b0 ad := ⟨hx, hb, hml, hr, hlocks, hown, hts, hE, hw⟩
  have hl : lv_has ls 4 [(0, .ref (ad 20 0))] := hl
  unfold FX5_readSigns at hf
  refine lv_iconst (v := (0 : Int32)) hx hb dX5_readSigns_0 (by decide) ?_
  refine lv_istore_n (lv' := [(1, .int (0 : Int32)), (0, .ref (ad 20 0))]) hx hb dX5_readSigns_1 rfl hl (by decide) rfl (fun ls hl => ?_)
  refine lv_iconst (v := (0 : Int32)) hx hb dX5_readSigns_2 (by decide) ?_
  refine lv_istore_n (lv' := [(2, .int (0 : Int32)), (1, .int (0 : Int32)), (0, .ref (ad 20 0))]) hx hb dX5_readSigns_3 rfl hl (by decide) rfl (fun ls hl => ?_)
  exact bX5_readSigns_4 C n (0 : Int32) (0 : Int32) _ hf _ _ hH hS _ (lv_sub hl [2, 1, 0] rfl)
theorem cX5_readSigns_ok (l : Launch) (D : va_G) (ca : Nat → ClassId) (ad : Nat → Nat → Nat) (b0 : Nat) (hw : oa_W ad b0) (n : Nat)  (M : oa_M) (r : Int32) (M' : oa_M) (hf : FX5_readSigns n  M = some (r, M')) : oa_Mi l yX5_readSigns (oa_w yX5_readSigns cX5_readSigns 4 (some .int)) ({ frames := 1, cells := 0, slots := 0, locals := 21 } : Room) D ca ad b0 [.ref (ad 20 0)] M r M' := cX5_readSigns_k l D ca ad b0 hw n  M (r, M') hf
def BX5_formOf_32 (rec2 : Int32 → Int32 → Int32 → oa_M → Option (Int32 × oa_M)) (n : Nat) (x1 : Int32) (x2 : Int32) (x3 : Int32) (M : oa_M) : Option (Int32 × oa_M) := (rec2 x1 x2 (x3 + (1 : Int32)) M)
def BX5_formOf_2 : Nat → Int32 → Int32 → Int32 → oa_M → Option (Int32 × oa_M)
  | 0, _, _, _, _ => none
  | n + 1, x1, x2, x3, M => (if (M 20 0 4) ≤ x3 then (some ((-1 : Int32), M)) else (if oa_in x3 12 = true then (if (M 25 0 x3.toNatClampNeg) = x1 then (if oa_in x3 12 = true then (if (M 28 0 x3.toNatClampNeg) = x2 then (some (x3, M)) else (BX5_formOf_32 (BX5_formOf_2 n) n x1 x2 x3 M)) else none) else (BX5_formOf_32 (BX5_formOf_2 n) n x1 x2 x3 M)) else none))
def FX5_formOf (n : Nat) (x1 : Int32) (x2 : Int32) (M : oa_M) : Option (Int32 × oa_M) := (BX5_formOf_2 n x1 x2 (0 : Int32) M)
set_option maxHeartbeats 4000000 in
set_option maxRecDepth 100000 in
theorem bX5_formOf_32 {p : Program} {l : Launch} {e : Env} {s : State} {m : MethodId} {args : Array Value} {below : List Frame} {meth : Method} {c : Code} {D : va_G} {ca : Nat → ClassId} {ad : Nat → Nat → Nat} {b0 : Nat} {o : Int32 × oa_M} (C : oa_Cx p s m args meth c cX5_formOf 4 (some .int) RX5 D ca b0 ad) (rec2 : Int32 → Int32 → Int32 → oa_M → Option (Int32 × oa_M)) (hrec2 : ∀ (x1 : Int32) (x2 : Int32) (x3 : Int32) (M : oa_M), rec2 x1 x2 x3 M = some o → ∀ (H : Heap) (locs : List Loc), oa_H D ca ad M H → va_S (fun q => b0 ≤ q) s.heap H locs → ∀ (ls : Array Slot), lv_has ls 4 [(0, .ref (ad 20 0)), (1, .int x1), (2, .int x2), (3, .int x3)] → W p l e ({ frames := 0, cells := 0, slots := 0, locals := 0 } : Room) s m args below meth c H locs 0 0 (MQ below (va_Qi (fun (r' : Int32) (u : oa_M) => r' = o.1 ∧ u = o.2) (fun u t => oa_H D ca ad u t.heap) (fun q => b0 ≤ q)) args s 0 0 (fun q => b0 ≤ q)) (F0 m 2 ls [])) : ∀ (n : Nat), ∀ (x1 : Int32) (x2 : Int32) (x3 : Int32) (M : oa_M), BX5_formOf_32 rec2 n x1 x2 x3 M = some o → ∀ (H : Heap) (locs : List Loc), oa_H D ca ad M H → va_S (fun q => b0 ≤ q) s.heap H locs → ∀ (ls : Array Slot), lv_has ls 4 [(0, .ref (ad 20 0)), (1, .int x1), (2, .int x2), (3, .int x3)] → W p l e ({ frames := 0, cells := 0, slots := 0, locals := 0 } : Room) s m args below meth c H locs 0 0 (MQ below (va_Qi (fun (r' : Int32) (u : oa_M) => r' = o.1 ∧ u = o.2) (fun u t => oa_H D ca ad u t.heap) (fun q => b0 ≤ q)) args s 0 0 (fun q => b0 ≤ q)) (F0 m 32 ls []) := by
  obtain ⟨hx, hb, hml, hr, hlocks, hown, hts, hE, hw⟩ := id C
  intro n x1 x2 x3 M hf H locs hH hS ls hl
  unfold BX5_formOf_32 at hf
  refine lv_iinc (v := (x3 + (1 : Int32))) (lv' := [(3, .int (x3 + (1 : Int32))), (0, .ref (ad 20 0)), (1, .int x1), (2, .int x2)]) hx hb dX5_formOf_32 hl (k := 3) rfl rfl (by decide) rfl (fun ls hl => ?_)
  refine lv_goto (tgt := 2) hx hb dX5_formOf_35 (by decide) ?_
  exact hrec2 x1 x2 (x3 + (1 : Int32)) _ hf _ _ hH hS _ (lv_sub hl [1, 2, 3, 0] rfl)
set_option maxHeartbeats 4000000 in
set_option maxRecDepth 100000 in
theorem bX5_formOf_2 {p : Program} {l : Launch} {e : Env} {s : State} {m : MethodId} {args : Array Value} {below : List Frame} {meth : Method} {c : Code} {D : va_G} {ca : Nat → ClassId} {ad : Nat → Nat → Nat} {b0 : Nat} {o : Int32 × oa_M} (C : oa_Cx p s m args meth c cX5_formOf 4 (some .int) RX5 D ca b0 ad) : ∀ (n : Nat), ∀ (x1 : Int32) (x2 : Int32) (x3 : Int32) (M : oa_M), BX5_formOf_2 n x1 x2 x3 M = some o → ∀ (H : Heap) (locs : List Loc), oa_H D ca ad M H → va_S (fun q => b0 ≤ q) s.heap H locs → ∀ (ls : Array Slot), lv_has ls 4 [(0, .ref (ad 20 0)), (1, .int x1), (2, .int x2), (3, .int x3)] → W p l e ({ frames := 0, cells := 0, slots := 0, locals := 0 } : Room) s m args below meth c H locs 0 0 (MQ below (va_Qi (fun (r' : Int32) (u : oa_M) => r' = o.1 ∧ u = o.2) (fun u t => oa_H D ca ad u t.heap) (fun q => b0 ≤ q)) args s 0 0 (fun q => b0 ≤ q)) (F0 m 2 ls []) := by
  obtain ⟨hx, hb, hml, hr, hlocks, hown, hts, hE, hw⟩ := id C
  intro n
  induction n with
  | zero => intro x1 x2 x3 M hf; cases hf
  | succ n ih =>
    intro x1 x2 x3 M hf H locs hH hS ls hl
    have hrec2 := ih
    unfold BX5_formOf_2 at hf
    refine lv_iload_n hx hb dX5_formOf_2 rfl (lv_at hl 3 rfl) ?_
    refine lv_aload_n hx hb dX5_formOf_3 rfl (lv_at hl 0 rfl) ?_
    refine oa_get (ci := 5) (C := RX5) (T := TX5) (N := 31) (v := .int (M 20 0 4)) hx hb hts inX5 hown hE hH 20 0 (by decide) rfl rfl 4 (by decide) (hts _ tw_619) rfl dX5_formOf_4 ?_
    refine lv_icmp_ge (tgt := 38) hx hb dX5_formOf_7 (by decide) (fun hq1 => ?_) (fun hq1 => ?_)
    · rw [if_pos hq1] at hf
      refine lv_iconst (v := (-1 : Int32)) hx hb dX5_formOf_38 (by decide) ?_
      cases hf
      exact oa_reti hx hb hr hlocks rfl hS hH dX5_formOf_39
    · rw [if_neg hq1] at hf
      refine lv_aload_n hx hb dX5_formOf_10 rfl (lv_at hl 0 rfl) ?_
      refine oa_get (ci := 5) (C := RX5) (T := TX5) (N := 31) (v := .ref (ad 25 0)) hx hb hts inX5 hown hE hH 20 0 (by decide) rfl rfl 5 (by decide) (hts _ tw_620) rfl dX5_formOf_11 ?_
      refine lv_iload_n hx hb dX5_formOf_14 rfl (lv_at hl 3 rfl) ?_
      obtain ⟨hk2, hf⟩ := oa_ck hf
      refine oa_ild (v := (M 25 0 x3.toNatClampNeg)) hx hb hE hH 25 0 (by decide) 12 rfl rfl (oa_in_vp hk2) dX5_formOf_15 ?_
      refine lv_iload_n hx hb dX5_formOf_16 rfl (lv_at hl 1 rfl) ?_
      refine lv_icmp_ne (tgt := 32) hx hb dX5_formOf_17 (by decide) (fun hq3 => ?_) (fun hq3 => ?_)
      · rw [if_neg hq3] at hf
        exact bX5_formOf_32 C _ hrec2 n x1 x2 x3 _ hf _ _ hH hS _ (lv_sub hl [0, 1, 2, 3] rfl)
      · rw [if_pos hq3] at hf
        refine lv_aload_n hx hb dX5_formOf_20 rfl (lv_at hl 0 rfl) ?_
        refine oa_get (ci := 5) (C := RX5) (T := TX5) (N := 31) (v := .ref (ad 28 0)) hx hb hts inX5 hown hE hH 20 0 (by decide) rfl rfl 8 (by decide) (hts _ tw_623) rfl dX5_formOf_21 ?_
        refine lv_iload_n hx hb dX5_formOf_24 rfl (lv_at hl 3 rfl) ?_
        obtain ⟨hk4, hf⟩ := oa_ck hf
        refine oa_ild (v := (M 28 0 x3.toNatClampNeg)) hx hb hE hH 28 0 (by decide) 12 rfl rfl (oa_in_vp hk4) dX5_formOf_25 ?_
        refine lv_iload_n hx hb dX5_formOf_26 rfl (lv_at hl 2 rfl) ?_
        refine lv_icmp_ne (tgt := 32) hx hb dX5_formOf_27 (by decide) (fun hq5 => ?_) (fun hq5 => ?_)
        · rw [if_neg hq5] at hf
          exact bX5_formOf_32 C _ hrec2 n x1 x2 x3 _ hf _ _ hH hS _ (lv_sub hl [0, 1, 2, 3] rfl)
        · rw [if_pos hq5] at hf
          refine lv_iload_n hx hb dX5_formOf_30 rfl (lv_at hl 3 rfl) ?_
          cases hf
          exact oa_reti hx hb hr hlocks rfl hS hH dX5_formOf_31
set_option maxHeartbeats 4000000 in
set_option maxRecDepth 100000 in
theorem cX5_formOf_k (l : Launch) (D : va_G) (ca : Nat → ClassId) (ad : Nat → Nat → Nat) (b0 : Nat) (hw : oa_W ad b0) (n : Nat) (x1 : Int32) (x2 : Int32) (M : oa_M) (o : Int32 × oa_M) (hf : FX5_formOf n x1 x2 M = some o) : oa_Mi l yX5_formOf (oa_w yX5_formOf cX5_formOf 4 (some .int)) ({ frames := 0, cells := 0, slots := 0, locals := 0 } : Room) D ca ad b0 [.ref (ad 20 0), .int x1, .int x2] M o.1 o.2 := by
  refine oa_ofW (cc := cX5_formOf) (maxL := 4) (ret := some .int) (by decide) rfl (Nat.le_of_ble_eq_true rfl) ?_
  intro p e s m below meth c hx hb hml hr hlocks hown hts0 hP ls hl
  obtain ⟨hH, hE⟩ := hP
  have hts : ∀ w ∈ oa_T, w.before _ s = true := fun w h => hts0 w (List.mem_cons_of_mem _ h)
  have hS : va_S (fun q => b0 ≤ q) s.heap s.heap [] := va_S.rf
  have C : oa_Cx p s m _ meth c cX5_formOf 4 (some .int) RX5 D ca b0 ad := ⟨hx, hb, hml, hr, hlocks, hown, hts, hE, hw⟩
  have hl : lv_has ls 4 [(0, .ref (ad 20 0)), (1, .int x1), (2, .int x2)] := hl
  unfold FX5_formOf at hf
  refine lv_iconst (v := (0 : Int32)) hx hb dX5_formOf_0 (by decide) ?_
  refine lv_istore_n (lv' := [(3, .int (0 : Int32)), (0, .ref (ad 20 0)), (1, .int x1), (2, .int x2)]) hx hb dX5_formOf_1 rfl hl (by decide) rfl (fun ls hl => ?_)
  exact bX5_formOf_2 C n x1 x2 (0 : Int32) _ hf _ _ hH hS _ (lv_sub hl [1, 2, 3, 0] rfl)
theorem cX5_formOf_ok (l : Launch) (D : va_G) (ca : Nat → ClassId) (ad : Nat → Nat → Nat) (b0 : Nat) (hw : oa_W ad b0) (n : Nat) (x1 : Int32) (x2 : Int32) (M : oa_M) (r : Int32) (M' : oa_M) (hf : FX5_formOf n x1 x2 M = some (r, M')) : oa_Mi l yX5_formOf (oa_w yX5_formOf cX5_formOf 4 (some .int)) ({ frames := 0, cells := 0, slots := 0, locals := 0 } : Room) D ca ad b0 [.ref (ad 20 0), .int x1, .int x2] M r M' := cX5_formOf_k l D ca ad b0 hw n x1 x2 M (r, M') hf
def BX5_form_189 : Nat → Int32 → Int32 → Int32 → Int32 → oa_M → Option (Int32 × oa_M)
  | 0, _, _, _, _, _ => none
  | n + 1, x1, x2, x3, x4, M => (if (3 : Int32) ≤ x4 then (some ((((M 20 0 4) + (1 : Int32)) - (1 : Int32)), (oa_up (oa_up M 20 0 4 ((M 20 0 4) + (1 : Int32))) 20 0 13 (0 : Int32)))) else (if oa_in x4 3 = true then (if oa_in (((3 : Int32) * (M 20 0 4)) + x4) 36 = true then (if oa_in (((3 : Int32) * (M 20 0 4)) + x4) 36 = true then (if oa_in (((3 : Int32) * (M 20 0 4)) + x4) 36 = true then (if oa_in (((3 : Int32) * (M 20 0 4)) + x4) 36 = true then (BX5_form_189 n x1 x2 x3 (x4 + (1 : Int32)) (oa_up (oa_up (oa_up (oa_up M 29 0 (((3 : Int32) * (M 20 0 4)) + x4).toNatClampNeg (M 35 0 x4.toNatClampNeg)) 30 0 (((3 : Int32) * (M 20 0 4)) + x4).toNatClampNeg (0 : Int32)) 31 0 (((3 : Int32) * (M 20 0 4)) + x4).toNatClampNeg (1 : Int32)) 32 0 (((3 : Int32) * (M 20 0 4)) + x4).toNatClampNeg (0 : Int32))) else none) else none) else none) else none) else none))
def BX5_form_152 : Nat → Int32 → Int32 → Int32 → Int32 → oa_M → Option (Int32 × oa_M)
  | 0, _, _, _, _, _ => none
  | n + 1, x1, x2, x3, x4, M => (if x2 ≤ x4 then (BX5_form_189 n x1 x2 x3 (0 : Int32) M) else (if oa_in x4 24 = true then (if oa_in (((24 : Int32) * (M 20 0 4)) + x4) 288 = true then (BX5_form_152 n x1 x2 x3 (x4 + (1 : Int32)) (oa_up M 27 0 (((24 : Int32) * (M 20 0 4)) + x4).toNatClampNeg (M 34 0 x4.toNatClampNeg))) else none) else none))
def BX5_form_107 (n : Nat) (x1 : Int32) (x2 : Int32) (x3 : Int32) (z1 : Int32) (M : oa_M) : Option (Int32 × oa_M) := (if z1 = 0 then (if oa_in (M 20 0 4) 12 = true then (if oa_in (M 20 0 4) 12 = true then (if oa_in (M 20 0 4) 12 = true then (BX5_form_152 n x1 x2 x3 (0 : Int32) (oa_up (oa_up (oa_up (oa_up M 20 0 30 z1) 25 0 (M 20 0 4).toNatClampNeg x1) 26 0 (M 20 0 4).toNatClampNeg x2) 28 0 (M 20 0 4).toNatClampNeg x3)) else none) else none) else none) else (some ((0 : Int32), (oa_up M 20 0 30 z1))))
def BX5_form_102 (n : Nat) (x1 : Int32) (x2 : Int32) (x3 : Int32) (M : oa_M) : Option (Int32 × oa_M) := (BX5_form_107 n x1 x2 x3 (2 : Int32) M)
def BX5_form_71 (n : Nat) (x1 : Int32) (x2 : Int32) (z0 : Int32) (M : oa_M) : Option (Int32 × oa_M) := (if (M 20 0 3) = 0 then (if (M 20 0 4) = (12 : Int32) then (BX5_form_102 n x1 x2 z0 M) else (oa_bd (FX5_formOf n x1 z0 M) (fun r3 M4 => (if r3 < 0 then (BX5_form_107 n x1 x2 z0 (0 : Int32) M4) else (BX5_form_102 n x1 x2 z0 M4))))) else (BX5_form_107 n x1 x2 z0 (1 : Int32) M))
def FX5_form (n : Nat)  (M : oa_M) : Option (Int32 × oa_M) := (oa_bd (FX5_readName n  (oa_up (oa_up M 20 0 2 (0 : Int32)) 20 0 3 (0 : Int32))) (fun r1 M2 => (oa_bv (FX5_must n (32 : Int32) M2) (fun M5 => (oa_bd (FX5_readSigns n  M5) (fun r7 M8 => (if oa_in (2 : Int32) 3 = true then (if (M8 35 0 (2 : Int32).toNatClampNeg) ≤ 0 then (if oa_in (1 : Int32) 3 = true then (if (M8 35 0 (1 : Int32).toNatClampNeg) ≤ 0 then (if oa_in (0 : Int32) 3 = true then (if (M8 35 0 (0 : Int32).toNatClampNeg) ≤ 0 then (BX5_form_71 n r1 r7 (0 : Int32) (oa_up M8 20 0 0 (0 : Int32))) else (BX5_form_71 n r1 r7 (1 : Int32) (oa_up M8 20 0 0 (0 : Int32)))) else none) else (BX5_form_71 n r1 r7 (2 : Int32) (oa_up M8 20 0 0 (0 : Int32)))) else none) else (BX5_form_71 n r1 r7 (3 : Int32) (oa_up M8 20 0 0 (0 : Int32)))) else none)))))))
set_option maxHeartbeats 4000000 in
set_option maxRecDepth 100000 in
theorem bX5_form_189 {p : Program} {l : Launch} {e : Env} {s : State} {m : MethodId} {args : Array Value} {below : List Frame} {meth : Method} {c : Code} {D : va_G} {ca : Nat → ClassId} {ad : Nat → Nat → Nat} {b0 : Nat} {o : Int32 × oa_M} (C : oa_Cx p s m args meth c cX5_form 5 (some .int) RX5 D ca b0 ad) : ∀ (n : Nat), ∀ (x1 : Int32) (x2 : Int32) (x3 : Int32) (x4 : Int32) (M : oa_M), BX5_form_189 n x1 x2 x3 x4 M = some o → ∀ (H : Heap) (locs : List Loc), oa_H D ca ad M H → va_S (fun q => b0 ≤ q) s.heap H locs → ∀ (ls : Array Slot), lv_has ls 5 [(0, .ref (ad 20 0)), (1, .int x1), (2, .int x2), (3, .int x3), (4, .int x4)] → W p l e ({ frames := 2, cells := 0, slots := 0, locals := 44 } : Room) s m args below meth c H locs 0 0 (MQ below (va_Qi (fun (r' : Int32) (u : oa_M) => r' = o.1 ∧ u = o.2) (fun u t => oa_H D ca ad u t.heap) (fun q => b0 ≤ q)) args s 0 0 (fun q => b0 ≤ q)) (F0 m 189 ls []) := by
  obtain ⟨hx, hb, hml, hr, hlocks, hown, hts, hE, hw⟩ := id C
  intro n
  induction n with
  | zero => intro x1 x2 x3 x4 M hf; cases hf
  | succ n ih =>
    intro x1 x2 x3 x4 M hf H locs hH hS ls hl
    have hrec189 := ih
    unfold BX5_form_189 at hf
    refine lv_iload hx hb dX5_form_189 (lv_at hl 4 rfl) ?_
    refine lv_iconst (v := (3 : Int32)) hx hb dX5_form_191 (by decide) ?_
    refine lv_icmp_ge (tgt := 267) hx hb dX5_form_192 (by decide) (fun hq1 => ?_) (fun hq1 => ?_)
    · rw [if_pos hq1] at hf
      refine lv_aload_n hx hb dX5_form_267 rfl (lv_at hl 0 rfl) ?_
      refine lv_dup hx hb dX5_form_268 rfl ?_
      refine oa_get (ci := 5) (C := RX5) (T := TX5) (N := 31) (v := .int (M 20 0 4)) hx hb hts inX5 hown hE hH 20 0 (by decide) rfl rfl 4 (by decide) (hts _ tw_619) rfl dX5_form_269 ?_
      refine lv_iconst (v := (1 : Int32)) hx hb dX5_form_272 (by decide) ?_
      refine lv_iadd hx hb dX5_form_273 ?_
      refine oa_put (ci := 5) (C := RX5) (T := TX5) (N := 31) (v := .int ((M 20 0 4) + (1 : Int32))) (x := ((M 20 0 4) + (1 : Int32))) hx hb hts inX5 tyX5 tyX5_ok nmX5 hown hE hw hH hS 20 0 (by decide) rfl rfl 4 (by decide) (hts _ tw_619) rfl rfl rfl (Nat.le_of_ble_eq_true rfl) rfl dX5_form_274 (fun H locs hH hS => ?_)
      refine lv_aload_n hx hb dX5_form_277 rfl (lv_at hl 0 rfl) ?_
      refine lv_iconst (v := (0 : Int32)) hx hb dX5_form_278 (by decide) ?_
      refine oa_put (ci := 5) (C := RX5) (T := TX5) (N := 31) (v := .int (0 : Int32)) (x := (0 : Int32)) hx hb hts inX5 tyX5 tyX5_ok nmX5 hown hE hw hH hS 20 0 (by decide) rfl rfl 13 (by decide) (hts _ tw_628) rfl rfl (by decide) (Nat.le_of_ble_eq_true rfl) rfl dX5_form_279 (fun H locs hH hS => ?_)
      refine lv_aload_n hx hb dX5_form_282 rfl (lv_at hl 0 rfl) ?_
      refine oa_get (ci := 5) (C := RX5) (T := TX5) (N := 31) (v := .int ((M 20 0 4) + (1 : Int32))) hx hb hts inX5 hown hE hH 20 0 (by decide) rfl rfl 4 (by decide) (hts _ tw_619) rfl dX5_form_283 ?_
      refine lv_iconst (v := (1 : Int32)) hx hb dX5_form_286 (by decide) ?_
      refine lv_isub hx hb dX5_form_287 ?_
      cases hf
      exact oa_reti hx hb hr hlocks rfl hS hH dX5_form_288
    · rw [if_neg hq1] at hf
      refine lv_aload_n hx hb dX5_form_195 rfl (lv_at hl 0 rfl) ?_
      refine oa_get (ci := 5) (C := RX5) (T := TX5) (N := 31) (v := .ref (ad 29 0)) hx hb hts inX5 hown hE hH 20 0 (by decide) rfl rfl 9 (by decide) (hts _ tw_624) rfl dX5_form_196 ?_
      refine lv_iconst (v := (3 : Int32)) hx hb dX5_form_199 (by decide) ?_
      refine lv_aload_n hx hb dX5_form_200 rfl (lv_at hl 0 rfl) ?_
      refine oa_get (ci := 5) (C := RX5) (T := TX5) (N := 31) (v := .int (M 20 0 4)) hx hb hts inX5 hown hE hH 20 0 (by decide) rfl rfl 4 (by decide) (hts _ tw_619) rfl dX5_form_201 ?_
      refine lv_imul hx hb dX5_form_204 ?_
      refine lv_iload hx hb dX5_form_205 (lv_at hl 4 rfl) ?_
      refine lv_iadd hx hb dX5_form_207 ?_
      refine lv_aload_n hx hb dX5_form_208 rfl (lv_at hl 0 rfl) ?_
      refine oa_get (ci := 5) (C := RX5) (T := TX5) (N := 31) (v := .ref (ad 35 0)) hx hb hts inX5 hown hE hH 20 0 (by decide) rfl rfl 15 (by decide) (hts _ tw_630) rfl dX5_form_209 ?_
      refine lv_iload hx hb dX5_form_212 (lv_at hl 4 rfl) ?_
      obtain ⟨hk2, hf⟩ := oa_ck hf
      refine oa_ild (v := (M 35 0 x4.toNatClampNeg)) hx hb hE hH 35 0 (by decide) 3 rfl rfl (oa_in_vp hk2) dX5_form_214 ?_
      obtain ⟨hk3, hf⟩ := oa_ck hf
      refine oa_ist hx hb hE hw hH hS 29 0 (by decide) 36 (fun _ => rfl) (oa_in_vp hk3) dX5_form_215 (fun H locs hH hS => ?_)
      refine lv_aload_n hx hb dX5_form_216 rfl (lv_at hl 0 rfl) ?_
      refine oa_get (ci := 5) (C := RX5) (T := TX5) (N := 31) (v := .ref (ad 30 0)) hx hb hts inX5 hown hE hH 20 0 (by decide) rfl rfl 10 (by decide) (hts _ tw_625) rfl dX5_form_217 ?_
      refine lv_iconst (v := (3 : Int32)) hx hb dX5_form_220 (by decide) ?_
      refine lv_aload_n hx hb dX5_form_221 rfl (lv_at hl 0 rfl) ?_
      refine oa_get (ci := 5) (C := RX5) (T := TX5) (N := 31) (v := .int (M 20 0 4)) hx hb hts inX5 hown hE hH 20 0 (by decide) rfl rfl 4 (by decide) (hts _ tw_619) rfl dX5_form_222 ?_
      refine lv_imul hx hb dX5_form_225 ?_
      refine lv_iload hx hb dX5_form_226 (lv_at hl 4 rfl) ?_
      refine lv_iadd hx hb dX5_form_228 ?_
      refine lv_iconst (v := (0 : Int32)) hx hb dX5_form_229 (by decide) ?_
      obtain ⟨hk4, hf⟩ := oa_ck hf
      refine oa_ist hx hb hE hw hH hS 30 0 (by decide) 36 (fun _ => rfl) (oa_in_vp hk4) dX5_form_230 (fun H locs hH hS => ?_)
      refine lv_aload_n hx hb dX5_form_231 rfl (lv_at hl 0 rfl) ?_
      refine oa_get (ci := 5) (C := RX5) (T := TX5) (N := 31) (v := .ref (ad 31 0)) hx hb hts inX5 hown hE hH 20 0 (by decide) rfl rfl 11 (by decide) (hts _ tw_626) rfl dX5_form_232 ?_
      refine lv_iconst (v := (3 : Int32)) hx hb dX5_form_235 (by decide) ?_
      refine lv_aload_n hx hb dX5_form_236 rfl (lv_at hl 0 rfl) ?_
      refine oa_get (ci := 5) (C := RX5) (T := TX5) (N := 31) (v := .int (M 20 0 4)) hx hb hts inX5 hown hE hH 20 0 (by decide) rfl rfl 4 (by decide) (hts _ tw_619) rfl dX5_form_237 ?_
      refine lv_imul hx hb dX5_form_240 ?_
      refine lv_iload hx hb dX5_form_241 (lv_at hl 4 rfl) ?_
      refine lv_iadd hx hb dX5_form_243 ?_
      refine lv_iconst (v := (1 : Int32)) hx hb dX5_form_244 (by decide) ?_
      obtain ⟨hk5, hf⟩ := oa_ck hf
      refine oa_ist hx hb hE hw hH hS 31 0 (by decide) 36 (fun _ => rfl) (oa_in_vp hk5) dX5_form_245 (fun H locs hH hS => ?_)
      refine lv_aload_n hx hb dX5_form_246 rfl (lv_at hl 0 rfl) ?_
      refine oa_get (ci := 5) (C := RX5) (T := TX5) (N := 31) (v := .ref (ad 32 0)) hx hb hts inX5 hown hE hH 20 0 (by decide) rfl rfl 12 (by decide) (hts _ tw_627) rfl dX5_form_247 ?_
      refine lv_iconst (v := (3 : Int32)) hx hb dX5_form_250 (by decide) ?_
      refine lv_aload_n hx hb dX5_form_251 rfl (lv_at hl 0 rfl) ?_
      refine oa_get (ci := 5) (C := RX5) (T := TX5) (N := 31) (v := .int (M 20 0 4)) hx hb hts inX5 hown hE hH 20 0 (by decide) rfl rfl 4 (by decide) (hts _ tw_619) rfl dX5_form_252 ?_
      refine lv_imul hx hb dX5_form_255 ?_
      refine lv_iload hx hb dX5_form_256 (lv_at hl 4 rfl) ?_
      refine lv_iadd hx hb dX5_form_258 ?_
      refine lv_iconst (v := (0 : Int32)) hx hb dX5_form_259 (by decide) ?_
      obtain ⟨hk6, hf⟩ := oa_ck hf
      refine oa_ist hx hb hE hw hH hS 32 0 (by decide) 36 (fun _ => rfl) (oa_in_vp hk6) dX5_form_260 (fun H locs hH hS => ?_)
      refine lv_iinc (v := (x4 + (1 : Int32))) (lv' := [(4, .int (x4 + (1 : Int32))), (0, .ref (ad 20 0)), (1, .int x1), (2, .int x2), (3, .int x3)]) hx hb dX5_form_261 hl (k := 4) rfl rfl (by decide) rfl (fun ls hl => ?_)
      refine lv_goto (tgt := 189) hx hb dX5_form_264 (by decide) ?_
      exact hrec189 x1 x2 x3 (x4 + (1 : Int32)) _ hf _ _ hH hS _ (lv_sub hl [1, 2, 3, 4, 0] rfl)
set_option maxHeartbeats 4000000 in
set_option maxRecDepth 100000 in
theorem bX5_form_152 {p : Program} {l : Launch} {e : Env} {s : State} {m : MethodId} {args : Array Value} {below : List Frame} {meth : Method} {c : Code} {D : va_G} {ca : Nat → ClassId} {ad : Nat → Nat → Nat} {b0 : Nat} {o : Int32 × oa_M} (C : oa_Cx p s m args meth c cX5_form 5 (some .int) RX5 D ca b0 ad) : ∀ (n : Nat), ∀ (x1 : Int32) (x2 : Int32) (x3 : Int32) (x4 : Int32) (M : oa_M), BX5_form_152 n x1 x2 x3 x4 M = some o → ∀ (H : Heap) (locs : List Loc), oa_H D ca ad M H → va_S (fun q => b0 ≤ q) s.heap H locs → ∀ (ls : Array Slot), lv_has ls 5 [(0, .ref (ad 20 0)), (1, .int x1), (2, .int x2), (3, .int x3), (4, .int x4)] → W p l e ({ frames := 2, cells := 0, slots := 0, locals := 44 } : Room) s m args below meth c H locs 0 0 (MQ below (va_Qi (fun (r' : Int32) (u : oa_M) => r' = o.1 ∧ u = o.2) (fun u t => oa_H D ca ad u t.heap) (fun q => b0 ≤ q)) args s 0 0 (fun q => b0 ≤ q)) (F0 m 152 ls []) := by
  obtain ⟨hx, hb, hml, hr, hlocks, hown, hts, hE, hw⟩ := id C
  intro n
  induction n with
  | zero => intro x1 x2 x3 x4 M hf; cases hf
  | succ n ih =>
    intro x1 x2 x3 x4 M hf H locs hH hS ls hl
    have hrec152 := ih
    unfold BX5_form_152 at hf
    refine lv_iload hx hb dX5_form_152 (lv_at hl 4 rfl) ?_
    refine lv_iload_n hx hb dX5_form_154 rfl (lv_at hl 2 rfl) ?_
    refine lv_icmp_ge (tgt := 186) hx hb dX5_form_155 (by decide) (fun hq1 => ?_) (fun hq1 => ?_)
    · rw [if_pos hq1] at hf
      refine lv_iconst (v := (0 : Int32)) hx hb dX5_form_186 (by decide) ?_
      refine lv_istore (lv' := [(4, .int (0 : Int32)), (0, .ref (ad 20 0)), (1, .int x1), (2, .int x2), (3, .int x3)]) hx hb dX5_form_187 hl (by decide) rfl (fun ls hl => ?_)
      exact bX5_form_189 C n x1 x2 x3 (0 : Int32) _ hf _ _ hH hS _ (lv_sub hl [1, 2, 3, 4, 0] rfl)
    · rw [if_neg hq1] at hf
      refine lv_aload_n hx hb dX5_form_158 rfl (lv_at hl 0 rfl) ?_
      refine oa_get (ci := 5) (C := RX5) (T := TX5) (N := 31) (v := .ref (ad 27 0)) hx hb hts inX5 hown hE hH 20 0 (by decide) rfl rfl 7 (by decide) (hts _ tw_622) rfl dX5_form_159 ?_
      refine lv_bipush (v := (24 : Int32)) hx hb dX5_form_162 (by decide) ?_
      refine lv_aload_n hx hb dX5_form_164 rfl (lv_at hl 0 rfl) ?_
      refine oa_get (ci := 5) (C := RX5) (T := TX5) (N := 31) (v := .int (M 20 0 4)) hx hb hts inX5 hown hE hH 20 0 (by decide) rfl rfl 4 (by decide) (hts _ tw_619) rfl dX5_form_165 ?_
      refine lv_imul hx hb dX5_form_168 ?_
      refine lv_iload hx hb dX5_form_169 (lv_at hl 4 rfl) ?_
      refine lv_iadd hx hb dX5_form_171 ?_
      refine lv_aload_n hx hb dX5_form_172 rfl (lv_at hl 0 rfl) ?_
      refine oa_get (ci := 5) (C := RX5) (T := TX5) (N := 31) (v := .ref (ad 34 0)) hx hb hts inX5 hown hE hH 20 0 (by decide) rfl rfl 14 (by decide) (hts _ tw_629) rfl dX5_form_173 ?_
      refine lv_iload hx hb dX5_form_176 (lv_at hl 4 rfl) ?_
      obtain ⟨hk2, hf⟩ := oa_ck hf
      refine oa_ild (v := (M 34 0 x4.toNatClampNeg)) hx hb hE hH 34 0 (by decide) 24 rfl rfl (oa_in_vp hk2) dX5_form_178 ?_
      obtain ⟨hk3, hf⟩ := oa_ck hf
      refine oa_ist hx hb hE hw hH hS 27 0 (by decide) 288 (fun _ => rfl) (oa_in_vp hk3) dX5_form_179 (fun H locs hH hS => ?_)
      refine lv_iinc (v := (x4 + (1 : Int32))) (lv' := [(4, .int (x4 + (1 : Int32))), (0, .ref (ad 20 0)), (1, .int x1), (2, .int x2), (3, .int x3)]) hx hb dX5_form_180 hl (k := 4) rfl rfl (by decide) rfl (fun ls hl => ?_)
      refine lv_goto (tgt := 152) hx hb dX5_form_183 (by decide) ?_
      exact hrec152 x1 x2 x3 (x4 + (1 : Int32)) _ hf _ _ hH hS _ (lv_sub hl [1, 2, 3, 4, 0] rfl)
set_option maxHeartbeats 4000000 in
set_option maxRecDepth 100000 in
theorem bX5_form_107 {p : Program} {l : Launch} {e : Env} {s : State} {m : MethodId} {args : Array Value} {below : List Frame} {meth : Method} {c : Code} {D : va_G} {ca : Nat → ClassId} {ad : Nat → Nat → Nat} {b0 : Nat} {o : Int32 × oa_M} (C : oa_Cx p s m args meth c cX5_form 5 (some .int) RX5 D ca b0 ad) : ∀ (n : Nat), ∀ (x1 : Int32) (x2 : Int32) (x3 : Int32) (z1 : Int32) (M : oa_M), BX5_form_107 n x1 x2 x3 z1 M = some o → ∀ (H : Heap) (locs : List Loc), oa_H D ca ad M H → va_S (fun q => b0 ≤ q) s.heap H locs → ∀ (ls : Array Slot), lv_has ls 5 [(0, .ref (ad 20 0)), (1, .int x1), (2, .int x2), (3, .int x3)] → W p l e ({ frames := 2, cells := 0, slots := 0, locals := 44 } : Room) s m args below meth c H locs 0 0 (MQ below (va_Qi (fun (r' : Int32) (u : oa_M) => r' = o.1 ∧ u = o.2) (fun u t => oa_H D ca ad u t.heap) (fun q => b0 ≤ q)) args s 0 0 (fun q => b0 ≤ q)) (F0 m 107 ls [.int z1, .ref (ad 20 0)]) := by
  obtain ⟨hx, hb, hml, hr, hlocks, hown, hts, hE, hw⟩ := id C
  intro n x1 x2 x3 z1 M hf H locs hH hS ls hl
  unfold BX5_form_107 at hf
  refine oa_put (ci := 5) (C := RX5) (T := TX5) (N := 31) (v := .int z1) (x := z1) hx hb hts inX5 tyX5 tyX5_ok nmX5 hown hE hw hH hS 20 0 (by decide) rfl rfl 30 (by decide) (hts _ tw_645) rfl rfl rfl (Nat.le_of_ble_eq_true rfl) rfl dX5_form_107 (fun H locs hH hS => ?_)
  refine lv_aload_n hx hb dX5_form_110 rfl (lv_at hl 0 rfl) ?_
  refine oa_get (ci := 5) (C := RX5) (T := TX5) (N := 31) (v := .int z1) hx hb hts inX5 hown hE hH 20 0 (by decide) rfl rfl 30 (by decide) (hts _ tw_645) rfl dX5_form_111 ?_
  refine lv_if_eq (tgt := 119) hx hb dX5_form_114 (by decide) (fun hq1 => ?_) (fun hq1 => ?_)
  · rw [if_pos hq1] at hf
    refine lv_aload_n hx hb dX5_form_119 rfl (lv_at hl 0 rfl) ?_
    refine oa_get (ci := 5) (C := RX5) (T := TX5) (N := 31) (v := .ref (ad 25 0)) hx hb hts inX5 hown hE hH 20 0 (by decide) rfl rfl 5 (by decide) (hts _ tw_620) rfl dX5_form_120 ?_
    refine lv_aload_n hx hb dX5_form_123 rfl (lv_at hl 0 rfl) ?_
    refine oa_get (ci := 5) (C := RX5) (T := TX5) (N := 31) (v := .int (M 20 0 4)) hx hb hts inX5 hown hE hH 20 0 (by decide) rfl rfl 4 (by decide) (hts _ tw_619) rfl dX5_form_124 ?_
    refine lv_iload_n hx hb dX5_form_127 rfl (lv_at hl 1 rfl) ?_
    obtain ⟨hk2, hf⟩ := oa_ck hf
    refine oa_ist hx hb hE hw hH hS 25 0 (by decide) 12 (fun _ => rfl) (oa_in_vp hk2) dX5_form_128 (fun H locs hH hS => ?_)
    refine lv_aload_n hx hb dX5_form_129 rfl (lv_at hl 0 rfl) ?_
    refine oa_get (ci := 5) (C := RX5) (T := TX5) (N := 31) (v := .ref (ad 26 0)) hx hb hts inX5 hown hE hH 20 0 (by decide) rfl rfl 6 (by decide) (hts _ tw_621) rfl dX5_form_130 ?_
    refine lv_aload_n hx hb dX5_form_133 rfl (lv_at hl 0 rfl) ?_
    refine oa_get (ci := 5) (C := RX5) (T := TX5) (N := 31) (v := .int (M 20 0 4)) hx hb hts inX5 hown hE hH 20 0 (by decide) rfl rfl 4 (by decide) (hts _ tw_619) rfl dX5_form_134 ?_
    refine lv_iload_n hx hb dX5_form_137 rfl (lv_at hl 2 rfl) ?_
    obtain ⟨hk3, hf⟩ := oa_ck hf
    refine oa_ist hx hb hE hw hH hS 26 0 (by decide) 12 (fun _ => rfl) (oa_in_vp hk3) dX5_form_138 (fun H locs hH hS => ?_)
    refine lv_aload_n hx hb dX5_form_139 rfl (lv_at hl 0 rfl) ?_
    refine oa_get (ci := 5) (C := RX5) (T := TX5) (N := 31) (v := .ref (ad 28 0)) hx hb hts inX5 hown hE hH 20 0 (by decide) rfl rfl 8 (by decide) (hts _ tw_623) rfl dX5_form_140 ?_
    refine lv_aload_n hx hb dX5_form_143 rfl (lv_at hl 0 rfl) ?_
    refine oa_get (ci := 5) (C := RX5) (T := TX5) (N := 31) (v := .int (M 20 0 4)) hx hb hts inX5 hown hE hH 20 0 (by decide) rfl rfl 4 (by decide) (hts _ tw_619) rfl dX5_form_144 ?_
    refine lv_iload_n hx hb dX5_form_147 rfl (lv_at hl 3 rfl) ?_
    obtain ⟨hk4, hf⟩ := oa_ck hf
    refine oa_ist hx hb hE hw hH hS 28 0 (by decide) 12 (fun _ => rfl) (oa_in_vp hk4) dX5_form_148 (fun H locs hH hS => ?_)
    refine lv_iconst (v := (0 : Int32)) hx hb dX5_form_149 (by decide) ?_
    refine lv_istore (lv' := [(4, .int (0 : Int32)), (0, .ref (ad 20 0)), (1, .int x1), (2, .int x2), (3, .int x3)]) hx hb dX5_form_150 hl (by decide) rfl (fun ls hl => ?_)
    exact bX5_form_152 C n x1 x2 x3 (0 : Int32) _ hf _ _ hH hS _ (lv_sub hl [1, 2, 3, 4, 0] rfl)
  · rw [if_neg hq1] at hf
    refine lv_iconst (v := (0 : Int32)) hx hb dX5_form_117 (by decide) ?_
    cases hf
    exact oa_reti hx hb hr hlocks rfl hS hH dX5_form_118
set_option maxHeartbeats 4000000 in
set_option maxRecDepth 100000 in
theorem bX5_form_102 {p : Program} {l : Launch} {e : Env} {s : State} {m : MethodId} {args : Array Value} {below : List Frame} {meth : Method} {c : Code} {D : va_G} {ca : Nat → ClassId} {ad : Nat → Nat → Nat} {b0 : Nat} {o : Int32 × oa_M} (C : oa_Cx p s m args meth c cX5_form 5 (some .int) RX5 D ca b0 ad) : ∀ (n : Nat), ∀ (x1 : Int32) (x2 : Int32) (x3 : Int32) (M : oa_M), BX5_form_102 n x1 x2 x3 M = some o → ∀ (H : Heap) (locs : List Loc), oa_H D ca ad M H → va_S (fun q => b0 ≤ q) s.heap H locs → ∀ (ls : Array Slot), lv_has ls 5 [(0, .ref (ad 20 0)), (1, .int x1), (2, .int x2), (3, .int x3)] → W p l e ({ frames := 2, cells := 0, slots := 0, locals := 44 } : Room) s m args below meth c H locs 0 0 (MQ below (va_Qi (fun (r' : Int32) (u : oa_M) => r' = o.1 ∧ u = o.2) (fun u t => oa_H D ca ad u t.heap) (fun q => b0 ≤ q)) args s 0 0 (fun q => b0 ≤ q)) (F0 m 102 ls [.ref (ad 20 0)]) := by
  obtain ⟨hx, hb, hml, hr, hlocks, hown, hts, hE, hw⟩ := id C
  intro n x1 x2 x3 M hf H locs hH hS ls hl
  unfold BX5_form_102 at hf
  refine lv_iconst (v := (2 : Int32)) hx hb dX5_form_102 (by decide) ?_
  refine lv_goto (tgt := 107) hx hb dX5_form_103 (by decide) ?_
  exact bX5_form_107 C n x1 x2 x3 (2 : Int32) _ hf _ _ hH hS _ (lv_sub hl [0, 1, 2, 3] rfl)
set_option maxHeartbeats 4000000 in
set_option maxRecDepth 100000 in
theorem bX5_form_71 {p : Program} {l : Launch} {e : Env} {s : State} {m : MethodId} {args : Array Value} {below : List Frame} {meth : Method} {c : Code} {D : va_G} {ca : Nat → ClassId} {ad : Nat → Nat → Nat} {b0 : Nat} {o : Int32 × oa_M} (C : oa_Cx p s m args meth c cX5_form 5 (some .int) RX5 D ca b0 ad) : ∀ (n : Nat), ∀ (x1 : Int32) (x2 : Int32) (z0 : Int32) (M : oa_M), BX5_form_71 n x1 x2 z0 M = some o → ∀ (H : Heap) (locs : List Loc), oa_H D ca ad M H → va_S (fun q => b0 ≤ q) s.heap H locs → ∀ (ls : Array Slot), lv_has ls 5 [(0, .ref (ad 20 0)), (1, .int x1), (2, .int x2)] → W p l e ({ frames := 2, cells := 0, slots := 0, locals := 44 } : Room) s m args below meth c H locs 0 0 (MQ below (va_Qi (fun (r' : Int32) (u : oa_M) => r' = o.1 ∧ u = o.2) (fun u t => oa_H D ca ad u t.heap) (fun q => b0 ≤ q)) args s 0 0 (fun q => b0 ≤ q)) (F0 m 71 ls [.int z0]) := by
  obtain ⟨hx, hb, hml, hr, hlocks, hown, hts, hE, hw⟩ := id C
  intro n x1 x2 z0 M hf H locs hH hS ls hl
  unfold BX5_form_71 at hf
  refine lv_istore_n (lv' := [(3, .int z0), (0, .ref (ad 20 0)), (1, .int x1), (2, .int x2)]) hx hb dX5_form_71 rfl hl (by decide) rfl (fun ls hl => ?_)
  refine lv_aload_n hx hb dX5_form_72 rfl (lv_at hl 1 rfl) ?_
  refine lv_aload_n hx hb dX5_form_73 rfl (lv_at hl 1 rfl) ?_
  refine oa_get (ci := 5) (C := RX5) (T := TX5) (N := 31) (v := .int (M 20 0 3)) hx hb hts inX5 hown hE hH 20 0 (by decide) rfl rfl 3 (by decide) (hts _ tw_618) rfl dX5_form_74 ?_
  refine lv_if_eq (tgt := 84) hx hb dX5_form_77 (by decide) (fun hq1 => ?_) (fun hq1 => ?_)
  · rw [if_pos hq1] at hf
    refine lv_aload_n hx hb dX5_form_84 rfl (lv_at hl 1 rfl) ?_
    refine oa_get (ci := 5) (C := RX5) (T := TX5) (N := 31) (v := .int (M 20 0 4)) hx hb hts inX5 hown hE hH 20 0 (by decide) rfl rfl 4 (by decide) (hts _ tw_619) rfl dX5_form_85 ?_
    refine lv_bipush (v := (12 : Int32)) hx hb dX5_form_88 (by decide) ?_
    refine lv_icmp_eq (tgt := 102) hx hb dX5_form_90 (by decide) (fun hq2 => ?_) (fun hq2 => ?_)
    · rw [if_pos hq2] at hf
      exact bX5_form_102 C n x1 x2 z0 _ hf _ _ hH hS _ (lv_sub hl [1, 2, 3, 0] rfl)
    · rw [if_neg hq2] at hf
      refine lv_aload_n hx hb dX5_form_93 rfl (lv_at hl 1 rfl) ?_
      refine lv_iload_n hx hb dX5_form_94 rfl (lv_at hl 2 rfl) ?_
      refine lv_iload_n hx hb dX5_form_95 rfl (lv_at hl 0 rfl) ?_
      obtain ⟨r3, M4, hc5, hf⟩ := oa_bdE hf
      refine oa_cvi (As := [.int x1, .int z0]) (rest := [.ref (ad 20 0)]) ⟨hx, hb, hml, hown, hts⟩ (cX5_formOf_ok l D ca ad b0 hw n x1 z0 _ _ _ hc5) (cwV 2 hts (oa_gV tw_745 tw_747 tw_25 tw_49 tw_748) rfl rfl rfl (by decide +kernel) ⟨Nat.le_of_ble_eq_true rfl, Nat.le_of_ble_eq_true rfl⟩) hE hH hS (oa_recv (k := 20) (ci := 5) hE hH (by decide) rfl rfl) rfl hl.1 rfl (Nat.le_of_ble_eq_true rfl) dX5_form_96 ⟨by decide, by decide⟩ (fun H locs hH hS => ?_)
      refine lv_if_lt (tgt := 106) hx hb dX5_form_99 (by decide) (fun hq6 => ?_) (fun hq6 => ?_)
      · rw [if_pos hq6] at hf
        refine lv_iconst (v := (0 : Int32)) hx hb dX5_form_106 (by decide) ?_
        exact bX5_form_107 C n x1 x2 z0 (0 : Int32) _ hf _ _ hH hS _ (lv_sub hl [1, 2, 3, 0] rfl)
      · rw [if_neg hq6] at hf
        exact bX5_form_102 C n x1 x2 z0 _ hf _ _ hH hS _ (lv_sub hl [1, 2, 3, 0] rfl)
  · rw [if_neg hq1] at hf
    refine lv_iconst (v := (1 : Int32)) hx hb dX5_form_80 (by decide) ?_
    refine lv_goto (tgt := 107) hx hb dX5_form_81 (by decide) ?_
    exact bX5_form_107 C n x1 x2 z0 (1 : Int32) _ hf _ _ hH hS _ (lv_sub hl [1, 2, 3, 0] rfl)
set_option maxHeartbeats 4000000 in
set_option maxRecDepth 100000 in
theorem cX5_form_k (l : Launch) (D : va_G) (ca : Nat → ClassId) (ad : Nat → Nat → Nat) (b0 : Nat) (hw : oa_W ad b0) (n : Nat)  (M : oa_M) (o : Int32 × oa_M) (hf : FX5_form n  M = some o) : oa_Mi l yX5_form (oa_w yX5_form cX5_form 5 (some .int)) ({ frames := 2, cells := 0, slots := 0, locals := 44 } : Room) D ca ad b0 [.ref (ad 20 0)] M o.1 o.2 := by
  refine oa_ofW (cc := cX5_form) (maxL := 5) (ret := some .int) (by decide) rfl (Nat.le_of_ble_eq_true rfl) ?_
  intro p e s m below meth c hx hb hml hr hlocks hown hts0 hP ls hl
  obtain ⟨hH, hE⟩ := hP
  have hts : ∀ w ∈ oa_T, w.before _ s = true := fun w h => hts0 w (List.mem_cons_of_mem _ h)
  have hS : va_S (fun q => b0 ≤ q) s.heap s.heap [] := va_S.rf
  have C : oa_Cx p s m _ meth c cX5_form 5 (some .int) RX5 D ca b0 ad := ⟨hx, hb, hml, hr, hlocks, hown, hts, hE, hw⟩
  have hl : lv_has ls 5 [(0, .ref (ad 20 0))] := hl
  unfold FX5_form at hf
  refine lv_aload_n hx hb dX5_form_0 rfl (lv_at hl 0 rfl) ?_
  refine lv_iconst (v := (0 : Int32)) hx hb dX5_form_1 (by decide) ?_
  refine oa_put (ci := 5) (C := RX5) (T := TX5) (N := 31) (v := .int (0 : Int32)) (x := (0 : Int32)) hx hb hts inX5 tyX5 tyX5_ok nmX5 hown hE hw hH hS 20 0 (by decide) rfl rfl 2 (by decide) (hts _ tw_617) rfl rfl rfl (Nat.le_of_ble_eq_true rfl) rfl dX5_form_2 (fun H locs hH hS => ?_)
  refine lv_aload_n hx hb dX5_form_5 rfl (lv_at hl 0 rfl) ?_
  refine lv_iconst (v := (0 : Int32)) hx hb dX5_form_6 (by decide) ?_
  refine oa_put (ci := 5) (C := RX5) (T := TX5) (N := 31) (v := .int (0 : Int32)) (x := (0 : Int32)) hx hb hts inX5 tyX5 tyX5_ok nmX5 hown hE hw hH hS 20 0 (by decide) rfl rfl 3 (by decide) (hts _ tw_618) rfl rfl (by decide) (Nat.le_of_ble_eq_true rfl) rfl dX5_form_7 (fun H locs hH hS => ?_)
  refine lv_aload_n hx hb dX5_form_10 rfl (lv_at hl 0 rfl) ?_
  obtain ⟨r1, M2, hc3, hf⟩ := oa_bdE hf
  refine oa_cvi (As := []) (rest := []) ⟨hx, hb, hml, hown, hts⟩ (cX5_readName_ok l D ca ad b0 hw n  _ _ _ hc3) (cwV 0 hts (oa_gV tw_722 tw_724 tw_20 tw_49 tw_725) rfl rfl rfl (by decide +kernel) ⟨Nat.le_of_ble_eq_true rfl, Nat.le_of_ble_eq_true rfl⟩) hE hH hS (oa_recv (k := 20) (ci := 5) hE hH (by decide) rfl rfl) rfl hl.1 rfl (Nat.le_of_ble_eq_true rfl) dX5_form_11 ⟨by decide, by decide⟩ (fun H locs hH hS => ?_)
  refine lv_istore_n (lv' := [(1, .int r1), (0, .ref (ad 20 0))]) hx hb dX5_form_14 rfl hl (by decide) rfl (fun ls hl => ?_)
  refine lv_aload_n hx hb dX5_form_15 rfl (lv_at hl 1 rfl) ?_
  refine lv_bipush (v := (32 : Int32)) hx hb dX5_form_16 (by decide) ?_
  obtain ⟨M5, hc6, hf⟩ := oa_bvE hf
  refine oa_cvv (As := [.int (32 : Int32)]) (rest := []) ⟨hx, hb, hml, hown, hts⟩ (cX5_must_ok l D ca ad b0 hw n (32 : Int32) _ _ hc6) (cwV 1 hts (oa_gV tw_733 tw_735 tw_22 tw_49 tw_736) rfl rfl rfl (by decide +kernel) ⟨Nat.le_of_ble_eq_true rfl, Nat.le_of_ble_eq_true rfl⟩) hE hH hS (oa_recv (k := 20) (ci := 5) hE hH (by decide) rfl rfl) rfl hl.1 rfl (Nat.le_of_ble_eq_true rfl) dX5_form_18 ⟨by decide, by decide⟩ (fun H locs hH hS => ?_)
  refine lv_aload_n hx hb dX5_form_21 rfl (lv_at hl 1 rfl) ?_
  obtain ⟨r7, M8, hc9, hf⟩ := oa_bdE hf
  refine oa_cvi (As := []) (rest := []) ⟨hx, hb, hml, hown, hts⟩ (cX5_readSigns_ok l D ca ad b0 hw n  _ _ _ hc9) (cwV 0 hts (oa_gV tw_737 tw_739 tw_23 tw_49 tw_740) rfl rfl rfl (by decide +kernel) ⟨Nat.le_of_ble_eq_true rfl, Nat.le_of_ble_eq_true rfl⟩) hE hH hS (oa_recv (k := 20) (ci := 5) hE hH (by decide) rfl rfl) rfl hl.1 rfl (Nat.le_of_ble_eq_true rfl) dX5_form_22 ⟨by decide, by decide⟩ (fun H locs hH hS => ?_)
  refine lv_istore_n (lv' := [(2, .int r7), (1, .int r1), (0, .ref (ad 20 0))]) hx hb dX5_form_25 rfl hl (by decide) rfl (fun ls hl => ?_)
  refine lv_aload_n hx hb dX5_form_26 rfl (lv_at hl 2 rfl) ?_
  refine lv_iconst (v := (0 : Int32)) hx hb dX5_form_27 (by decide) ?_
  refine oa_put (ci := 5) (C := RX5) (T := TX5) (N := 31) (v := .int (0 : Int32)) (x := (0 : Int32)) hx hb hts inX5 tyX5 tyX5_ok nmX5 hown hE hw hH hS 20 0 (by decide) rfl rfl 0 (by decide) (hts _ tw_615) rfl rfl rfl (Nat.le_of_ble_eq_true rfl) rfl dX5_form_28 (fun H locs hH hS => ?_)
  refine lv_aload_n hx hb dX5_form_31 rfl (lv_at hl 2 rfl) ?_
  refine oa_get (ci := 5) (C := RX5) (T := TX5) (N := 31) (v := .ref (ad 35 0)) hx hb hts inX5 hown hE hH 20 0 (by decide) rfl rfl 15 (by decide) (hts _ tw_630) rfl dX5_form_32 ?_
  refine lv_iconst (v := (2 : Int32)) hx hb dX5_form_35 (by decide) ?_
  obtain ⟨hk10, hf⟩ := oa_ck hf
  refine oa_ild (v := (M8 35 0 (2 : Int32).toNatClampNeg)) hx hb hE hH 35 0 (by decide) 3 rfl rfl (oa_in_vp hk10) dX5_form_36 ?_
  refine lv_if_le (tgt := 44) hx hb dX5_form_37 (by decide) (fun hq11 => ?_) (fun hq11 => ?_)
  · rw [if_pos hq11] at hf
    refine lv_aload_n hx hb dX5_form_44 rfl (lv_at hl 2 rfl) ?_
    refine oa_get (ci := 5) (C := RX5) (T := TX5) (N := 31) (v := .ref (ad 35 0)) hx hb hts inX5 hown hE hH 20 0 (by decide) rfl rfl 15 (by decide) (hts _ tw_630) rfl dX5_form_45 ?_
    refine lv_iconst (v := (1 : Int32)) hx hb dX5_form_48 (by decide) ?_
    obtain ⟨hk12, hf⟩ := oa_ck hf
    refine oa_ild (v := (M8 35 0 (1 : Int32).toNatClampNeg)) hx hb hE hH 35 0 (by decide) 3 rfl rfl (oa_in_vp hk12) dX5_form_49 ?_
    refine lv_if_le (tgt := 57) hx hb dX5_form_50 (by decide) (fun hq13 => ?_) (fun hq13 => ?_)
    · rw [if_pos hq13] at hf
      refine lv_aload_n hx hb dX5_form_57 rfl (lv_at hl 2 rfl) ?_
      refine oa_get (ci := 5) (C := RX5) (T := TX5) (N := 31) (v := .ref (ad 35 0)) hx hb hts inX5 hown hE hH 20 0 (by decide) rfl rfl 15 (by decide) (hts _ tw_630) rfl dX5_form_58 ?_
      refine lv_iconst (v := (0 : Int32)) hx hb dX5_form_61 (by decide) ?_
      obtain ⟨hk14, hf⟩ := oa_ck hf
      refine oa_ild (v := (M8 35 0 (0 : Int32).toNatClampNeg)) hx hb hE hH 35 0 (by decide) 3 rfl rfl (oa_in_vp hk14) dX5_form_62 ?_
      refine lv_if_le (tgt := 70) hx hb dX5_form_63 (by decide) (fun hq15 => ?_) (fun hq15 => ?_)
      · rw [if_pos hq15] at hf
        refine lv_iconst (v := (0 : Int32)) hx hb dX5_form_70 (by decide) ?_
        exact bX5_form_71 C n r1 r7 (0 : Int32) _ hf _ _ hH hS _ (lv_sub hl [2, 1, 0] rfl)
      · rw [if_neg hq15] at hf
        refine lv_iconst (v := (1 : Int32)) hx hb dX5_form_66 (by decide) ?_
        refine lv_goto (tgt := 71) hx hb dX5_form_67 (by decide) ?_
        exact bX5_form_71 C n r1 r7 (1 : Int32) _ hf _ _ hH hS _ (lv_sub hl [2, 1, 0] rfl)
    · rw [if_neg hq13] at hf
      refine lv_iconst (v := (2 : Int32)) hx hb dX5_form_53 (by decide) ?_
      refine lv_goto (tgt := 71) hx hb dX5_form_54 (by decide) ?_
      exact bX5_form_71 C n r1 r7 (2 : Int32) _ hf _ _ hH hS _ (lv_sub hl [2, 1, 0] rfl)
  · rw [if_neg hq11] at hf
    refine lv_iconst (v := (3 : Int32)) hx hb dX5_form_40 (by decide) ?_
    refine lv_goto (tgt := 71) hx hb dX5_form_41 (by decide) ?_
    exact bX5_form_71 C n r1 r7 (3 : Int32) _ hf _ _ hH hS _ (lv_sub hl [2, 1, 0] rfl)
theorem cX5_form_ok (l : Launch) (D : va_G) (ca : Nat → ClassId) (ad : Nat → Nat → Nat) (b0 : Nat) (hw : oa_W ad b0) (n : Nat)  (M : oa_M) (r : Int32) (M' : oa_M) (hf : FX5_form n  M = some (r, M')) : oa_Mi l yX5_form (oa_w yX5_form cX5_form 5 (some .int)) ({ frames := 2, cells := 0, slots := 0, locals := 44 } : Room) D ca ad b0 [.ref (ad 20 0)] M r M' := cX5_form_k l D ca ad b0 hw n  M (r, M') hf
def BX5_outside_15 (n : Nat) (x0 : Int32) (x1 : Int32) (x2 : Int32) (z0 : Int32) (M : oa_M) : Option (Int32 × oa_M) := (some (oa_nz z0, M))
def BX5_outside_10 (n : Nat) (x0 : Int32) (x1 : Int32) (x2 : Int32) (M : oa_M) : Option (Int32 × oa_M) := (BX5_outside_15 n x0 x1 x2 (1 : Int32) M)
def FX5_outside (n : Nat) (x0 : Int32) (x1 : Int32) (x2 : Int32) (M : oa_M) : Option (Int32 × oa_M) := (if x0 < x1 then (BX5_outside_10 n x0 x1 x2 M) else (if x0 ≤ x2 then (BX5_outside_15 n x0 x1 x2 (0 : Int32) M) else (BX5_outside_10 n x0 x1 x2 M)))
set_option maxHeartbeats 4000000 in
set_option maxRecDepth 100000 in
theorem bX5_outside_15 {p : Program} {l : Launch} {e : Env} {s : State} {m : MethodId} {args : Array Value} {below : List Frame} {meth : Method} {c : Code} {D : va_G} {ca : Nat → ClassId} {ad : Nat → Nat → Nat} {b0 : Nat} {o : Int32 × oa_M} (C : oa_Cx p s m args meth c cX5_outside 3 (some .boolean) RX5 D ca b0 ad) : ∀ (n : Nat), ∀ (x0 : Int32) (x1 : Int32) (x2 : Int32) (z0 : Int32) (M : oa_M), BX5_outside_15 n x0 x1 x2 z0 M = some o → ∀ (H : Heap) (locs : List Loc), oa_H D ca ad M H → va_S (fun q => b0 ≤ q) s.heap H locs → ∀ (ls : Array Slot), lv_has ls 3 [(0, .int x0), (1, .int x1), (2, .int x2)] → W p l e ({ frames := 0, cells := 0, slots := 0, locals := 0 } : Room) s m args below meth c H locs 0 0 (MQ below (va_Qi (fun (r' : Int32) (u : oa_M) => r' = o.1 ∧ u = o.2) (fun u t => oa_H D ca ad u t.heap) (fun q => b0 ≤ q)) args s 0 0 (fun q => b0 ≤ q)) (F0 m 15 ls [.int z0]) := by
  obtain ⟨hx, hb, hml, hr, hlocks, hown, hts, hE, hw⟩ := id C
  intro n x0 x1 x2 z0 M hf H locs hH hS ls hl
  unfold BX5_outside_15 at hf
  cases hf
  exact oa_reti hx hb hr hlocks rfl hS hH dX5_outside_15
set_option maxHeartbeats 4000000 in
set_option maxRecDepth 100000 in
theorem bX5_outside_10 {p : Program} {l : Launch} {e : Env} {s : State} {m : MethodId} {args : Array Value} {below : List Frame} {meth : Method} {c : Code} {D : va_G} {ca : Nat → ClassId} {ad : Nat → Nat → Nat} {b0 : Nat} {o : Int32 × oa_M} (C : oa_Cx p s m args meth c cX5_outside 3 (some .boolean) RX5 D ca b0 ad) : ∀ (n : Nat), ∀ (x0 : Int32) (x1 : Int32) (x2 : Int32) (M : oa_M), BX5_outside_10 n x0 x1 x2 M = some o → ∀ (H : Heap) (locs : List Loc), oa_H D ca ad M H → va_S (fun q => b0 ≤ q) s.heap H locs → ∀ (ls : Array Slot), lv_has ls 3 [(0, .int x0), (1, .int x1), (2, .int x2)] → W p l e ({ frames := 0, cells := 0, slots := 0, locals := 0 } : Room) s m args below meth c H locs 0 0 (MQ below (va_Qi (fun (r' : Int32) (u : oa_M) => r' = o.1 ∧ u = o.2) (fun u t => oa_H D ca ad u t.heap) (fun q => b0 ≤ q)) args s 0 0 (fun q => b0 ≤ q)) (F0 m 10 ls []) := by
  obtain ⟨hx, hb, hml, hr, hlocks, hown, hts, hE, hw⟩ := id C
  intro n x0 x1 x2 M hf H locs hH hS ls hl
  unfold BX5_outside_10 at hf
  refine lv_iconst (v := (1 : Int32)) hx hb dX5_outside_10 (by decide) ?_
  refine lv_goto (tgt := 15) hx hb dX5_outside_11 (by decide) ?_
  exact bX5_outside_15 C n x0 x1 x2 (1 : Int32) _ hf _ _ hH hS _ (lv_sub hl [0, 1, 2] rfl)
set_option maxHeartbeats 4000000 in
set_option maxRecDepth 100000 in
theorem cX5_outside_k (l : Launch) (D : va_G) (ca : Nat → ClassId) (ad : Nat → Nat → Nat) (b0 : Nat) (hw : oa_W ad b0) (n : Nat) (x0 : Int32) (x1 : Int32) (x2 : Int32) (M : oa_M) (o : Int32 × oa_M) (hf : FX5_outside n x0 x1 x2 M = some o) : oa_Mi l yX5_outside (oa_w yX5_outside cX5_outside 3 (some .boolean)) ({ frames := 0, cells := 0, slots := 0, locals := 0 } : Room) D ca ad b0 [.int x0, .int x1, .int x2] M o.1 o.2 := by
  refine oa_ofW (cc := cX5_outside) (maxL := 3) (ret := some .boolean) (by decide) rfl (Nat.le_of_ble_eq_true rfl) ?_
  intro p e s m below meth c hx hb hml hr hlocks hown hts0 hP ls hl
  obtain ⟨hH, hE⟩ := hP
  have hts : ∀ w ∈ oa_T, w.before _ s = true := fun w h => hts0 w (List.mem_cons_of_mem _ h)
  have hS : va_S (fun q => b0 ≤ q) s.heap s.heap [] := va_S.rf
  have C : oa_Cx p s m _ meth c cX5_outside 3 (some .boolean) RX5 D ca b0 ad := ⟨hx, hb, hml, hr, hlocks, hown, hts, hE, hw⟩
  have hl : lv_has ls 3 [(0, .int x0), (1, .int x1), (2, .int x2)] := hl
  unfold FX5_outside at hf
  refine lv_iload_n hx hb dX5_outside_0 rfl (lv_at hl 0 rfl) ?_
  refine lv_iload_n hx hb dX5_outside_1 rfl (lv_at hl 1 rfl) ?_
  refine lv_icmp_lt (tgt := 10) hx hb dX5_outside_2 (by decide) (fun hq1 => ?_) (fun hq1 => ?_)
  · rw [if_pos hq1] at hf
    exact bX5_outside_10 C n x0 x1 x2 _ hf _ _ hH hS _ (lv_sub hl [0, 1, 2] rfl)
  · rw [if_neg hq1] at hf
    refine lv_iload_n hx hb dX5_outside_5 rfl (lv_at hl 0 rfl) ?_
    refine lv_iload_n hx hb dX5_outside_6 rfl (lv_at hl 2 rfl) ?_
    refine lv_icmp_le (tgt := 14) hx hb dX5_outside_7 (by decide) (fun hq2 => ?_) (fun hq2 => ?_)
    · rw [if_pos hq2] at hf
      refine lv_iconst (v := (0 : Int32)) hx hb dX5_outside_14 (by decide) ?_
      exact bX5_outside_15 C n x0 x1 x2 (0 : Int32) _ hf _ _ hH hS _ (lv_sub hl [0, 1, 2] rfl)
    · rw [if_neg hq2] at hf
      exact bX5_outside_10 C n x0 x1 x2 _ hf _ _ hH hS _ (lv_sub hl [0, 1, 2] rfl)
theorem cX5_outside_ok (l : Launch) (D : va_G) (ca : Nat → ClassId) (ad : Nat → Nat → Nat) (b0 : Nat) (hw : oa_W ad b0) (n : Nat) (x0 : Int32) (x1 : Int32) (x2 : Int32) (M : oa_M) (r : Int32) (M' : oa_M) (hf : FX5_outside n x0 x1 x2 M = some (r, M')) : oa_Mi l yX5_outside (oa_w yX5_outside cX5_outside 3 (some .boolean)) ({ frames := 0, cells := 0, slots := 0, locals := 0 } : Room) D ca ad b0 [.int x0, .int x1, .int x2] M r M' := cX5_outside_k l D ca ad b0 hw n x0 x1 x2 M (r, M') hf
def BX5_operand_92 (n : Nat) (x1 : Int32) (x2 : Int32) (x3 : Int32) (x4 : Int32) (x5 : Int32) (x6 : Int32) (z1 : Int32) (M : oa_M) : Option (Int32 × oa_M) := (if z1 = 0 then (if oa_in (((3 : Int32) * x1) + x2) 36 = true then (if oa_in (((3 : Int32) * x1) + x2) 36 = true then (if oa_in (((3 : Int32) * x1) + x2) 36 = true then (if oa_in (((3 : Int32) * x1) + x2) 36 = true then (some ((M 29 0 (((3 : Int32) * x1) + x2).toNatClampNeg), (oa_up (oa_up (oa_up (oa_up M 20 0 30 z1) 30 0 (((3 : Int32) * x1) + x2).toNatClampNeg x3) 31 0 (((3 : Int32) * x1) + x2).toNatClampNeg x4) 32 0 (((3 : Int32) * x1) + x2).toNatClampNeg x5))) else none) else none) else none) else none) else (some ((0 : Int32), (oa_up M 20 0 30 z1))))
def BX5_operand_87 (n : Nat) (x1 : Int32) (x2 : Int32) (x3 : Int32) (x4 : Int32) (x5 : Int32) (x6 : Int32) (M : oa_M) : Option (Int32 × oa_M) := (BX5_operand_92 n x1 x2 x3 x4 x5 x6 (1 : Int32) M)
def BX5_operand_47 (n : Nat) (x1 : Int32) (x2 : Int32) (x3 : Int32) (x4 : Int32) (x5 : Int32) (z0 : Int32) (M : oa_M) : Option (Int32 × oa_M) := (if z0 = 0 then (BX5_operand_87 n x1 x2 x3 x4 x5 z0 M) else (oa_bd (FX5_outside n x3 (0 : Int32) (2 : Int32) M) (fun r2 M3 => (if r2 = 0 then (oa_bd (FX5_outside n x4 (1 : Int32) (8 : Int32) M3) (fun r6 M7 => (if r6 = 0 then (oa_bd (FX5_outside n x5 (-100 : Int32) (100 : Int32) M7) (fun r10 M11 => (if r10 = 0 then (BX5_operand_92 n x1 x2 x3 x4 x5 z0 (0 : Int32) M11) else (BX5_operand_87 n x1 x2 x3 x4 x5 z0 M11)))) else (BX5_operand_87 n x1 x2 x3 x4 x5 z0 M7)))) else (BX5_operand_87 n x1 x2 x3 x4 x5 z0 M3)))))
def BX5_operand_46 (n : Nat) (x1 : Int32) (x2 : Int32) (x3 : Int32) (x4 : Int32) (x5 : Int32) (M : oa_M) : Option (Int32 × oa_M) := (BX5_operand_47 n x1 x2 x3 x4 x5 (0 : Int32) M)
def BX5_operand_38 (n : Nat) (x1 : Int32) (x2 : Int32) (x3 : Int32) (x4 : Int32) (x5 : Int32) (z0 : Int32) (z2 : Int32) (M : oa_M) : Option (Int32 × oa_M) := (if oa_in z2 12 = true then (if (M 28 0 z2.toNatClampNeg) ≤ z0 then (BX5_operand_46 n x1 x2 x3 x4 x5 M) else (BX5_operand_47 n x1 x2 x3 x4 x5 (1 : Int32) M)) else none)
def BX5_operand_33 (n : Nat) (x1 : Int32) (x2 : Int32) (x3 : Int32) (x4 : Int32) (x5 : Int32) (z0 : Int32) (M : oa_M) : Option (Int32 × oa_M) := (BX5_operand_38 n x1 x2 x3 x4 x5 z0 (0 : Int32) M)
def FX5_operand (n : Nat) (x1 : Int32) (x2 : Int32) (x3 : Int32) (x4 : Int32) (x5 : Int32) (M : oa_M) : Option (Int32 × oa_M) := (if x1 < 0 then (BX5_operand_46 n x1 x2 x3 x4 x5 M) else (if (M 20 0 4) ≤ x1 then (BX5_operand_46 n x1 x2 x3 x4 x5 M) else (if x2 < 0 then (BX5_operand_46 n x1 x2 x3 x4 x5 M) else (if x1 < 0 then (BX5_operand_33 n x1 x2 x3 x4 x5 x2 M) else (if x1 < (M 20 0 4) then (BX5_operand_38 n x1 x2 x3 x4 x5 x2 x1 M) else (BX5_operand_33 n x1 x2 x3 x4 x5 x2 M))))))
set_option maxHeartbeats 4000000 in
set_option maxRecDepth 100000 in
theorem bX5_operand_92 {p : Program} {l : Launch} {e : Env} {s : State} {m : MethodId} {args : Array Value} {below : List Frame} {meth : Method} {c : Code} {D : va_G} {ca : Nat → ClassId} {ad : Nat → Nat → Nat} {b0 : Nat} {o : Int32 × oa_M} (C : oa_Cx p s m args meth c cX5_operand 7 (some .int) RX5 D ca b0 ad) : ∀ (n : Nat), ∀ (x1 : Int32) (x2 : Int32) (x3 : Int32) (x4 : Int32) (x5 : Int32) (x6 : Int32) (z1 : Int32) (M : oa_M), BX5_operand_92 n x1 x2 x3 x4 x5 x6 z1 M = some o → ∀ (H : Heap) (locs : List Loc), oa_H D ca ad M H → va_S (fun q => b0 ≤ q) s.heap H locs → ∀ (ls : Array Slot), lv_has ls 7 [(0, .ref (ad 20 0)), (1, .int x1), (2, .int x2), (3, .int x3), (4, .int x4), (5, .int x5), (6, .int x6)] → W p l e ({ frames := 1, cells := 0, slots := 0, locals := 22 } : Room) s m args below meth c H locs 0 0 (MQ below (va_Qi (fun (r' : Int32) (u : oa_M) => r' = o.1 ∧ u = o.2) (fun u t => oa_H D ca ad u t.heap) (fun q => b0 ≤ q)) args s 0 0 (fun q => b0 ≤ q)) (F0 m 92 ls [.int z1, .ref (ad 20 0)]) := by
  obtain ⟨hx, hb, hml, hr, hlocks, hown, hts, hE, hw⟩ := id C
  intro n x1 x2 x3 x4 x5 x6 z1 M hf H locs hH hS ls hl
  unfold BX5_operand_92 at hf
  refine oa_put (ci := 5) (C := RX5) (T := TX5) (N := 31) (v := .int z1) (x := z1) hx hb hts inX5 tyX5 tyX5_ok nmX5 hown hE hw hH hS 20 0 (by decide) rfl rfl 30 (by decide) (hts _ tw_645) rfl rfl rfl (Nat.le_of_ble_eq_true rfl) rfl dX5_operand_92 (fun H locs hH hS => ?_)
  refine lv_aload_n hx hb dX5_operand_95 rfl (lv_at hl 0 rfl) ?_
  refine oa_get (ci := 5) (C := RX5) (T := TX5) (N := 31) (v := .int z1) hx hb hts inX5 hown hE hH 20 0 (by decide) rfl rfl 30 (by decide) (hts _ tw_645) rfl dX5_operand_96 ?_
  refine lv_if_eq (tgt := 104) hx hb dX5_operand_99 (by decide) (fun hq1 => ?_) (fun hq1 => ?_)
  · rw [if_pos hq1] at hf
    refine lv_aload_n hx hb dX5_operand_104 rfl (lv_at hl 0 rfl) ?_
    refine oa_get (ci := 5) (C := RX5) (T := TX5) (N := 31) (v := .ref (ad 30 0)) hx hb hts inX5 hown hE hH 20 0 (by decide) rfl rfl 10 (by decide) (hts _ tw_625) rfl dX5_operand_105 ?_
    refine lv_iconst (v := (3 : Int32)) hx hb dX5_operand_108 (by decide) ?_
    refine lv_iload_n hx hb dX5_operand_109 rfl (lv_at hl 1 rfl) ?_
    refine lv_imul hx hb dX5_operand_110 ?_
    refine lv_iload_n hx hb dX5_operand_111 rfl (lv_at hl 2 rfl) ?_
    refine lv_iadd hx hb dX5_operand_112 ?_
    refine lv_iload_n hx hb dX5_operand_113 rfl (lv_at hl 3 rfl) ?_
    obtain ⟨hk2, hf⟩ := oa_ck hf
    refine oa_ist hx hb hE hw hH hS 30 0 (by decide) 36 (fun _ => rfl) (oa_in_vp hk2) dX5_operand_114 (fun H locs hH hS => ?_)
    refine lv_aload_n hx hb dX5_operand_115 rfl (lv_at hl 0 rfl) ?_
    refine oa_get (ci := 5) (C := RX5) (T := TX5) (N := 31) (v := .ref (ad 31 0)) hx hb hts inX5 hown hE hH 20 0 (by decide) rfl rfl 11 (by decide) (hts _ tw_626) rfl dX5_operand_116 ?_
    refine lv_iconst (v := (3 : Int32)) hx hb dX5_operand_119 (by decide) ?_
    refine lv_iload_n hx hb dX5_operand_120 rfl (lv_at hl 1 rfl) ?_
    refine lv_imul hx hb dX5_operand_121 ?_
    refine lv_iload_n hx hb dX5_operand_122 rfl (lv_at hl 2 rfl) ?_
    refine lv_iadd hx hb dX5_operand_123 ?_
    refine lv_iload hx hb dX5_operand_124 (lv_at hl 4 rfl) ?_
    obtain ⟨hk3, hf⟩ := oa_ck hf
    refine oa_ist hx hb hE hw hH hS 31 0 (by decide) 36 (fun _ => rfl) (oa_in_vp hk3) dX5_operand_126 (fun H locs hH hS => ?_)
    refine lv_aload_n hx hb dX5_operand_127 rfl (lv_at hl 0 rfl) ?_
    refine oa_get (ci := 5) (C := RX5) (T := TX5) (N := 31) (v := .ref (ad 32 0)) hx hb hts inX5 hown hE hH 20 0 (by decide) rfl rfl 12 (by decide) (hts _ tw_627) rfl dX5_operand_128 ?_
    refine lv_iconst (v := (3 : Int32)) hx hb dX5_operand_131 (by decide) ?_
    refine lv_iload_n hx hb dX5_operand_132 rfl (lv_at hl 1 rfl) ?_
    refine lv_imul hx hb dX5_operand_133 ?_
    refine lv_iload_n hx hb dX5_operand_134 rfl (lv_at hl 2 rfl) ?_
    refine lv_iadd hx hb dX5_operand_135 ?_
    refine lv_iload hx hb dX5_operand_136 (lv_at hl 5 rfl) ?_
    obtain ⟨hk4, hf⟩ := oa_ck hf
    refine oa_ist hx hb hE hw hH hS 32 0 (by decide) 36 (fun _ => rfl) (oa_in_vp hk4) dX5_operand_138 (fun H locs hH hS => ?_)
    refine lv_aload_n hx hb dX5_operand_139 rfl (lv_at hl 0 rfl) ?_
    refine oa_get (ci := 5) (C := RX5) (T := TX5) (N := 31) (v := .ref (ad 29 0)) hx hb hts inX5 hown hE hH 20 0 (by decide) rfl rfl 9 (by decide) (hts _ tw_624) rfl dX5_operand_140 ?_
    refine lv_iconst (v := (3 : Int32)) hx hb dX5_operand_143 (by decide) ?_
    refine lv_iload_n hx hb dX5_operand_144 rfl (lv_at hl 1 rfl) ?_
    refine lv_imul hx hb dX5_operand_145 ?_
    refine lv_iload_n hx hb dX5_operand_146 rfl (lv_at hl 2 rfl) ?_
    refine lv_iadd hx hb dX5_operand_147 ?_
    obtain ⟨hk5, hf⟩ := oa_ck hf
    refine oa_ild (v := (M 29 0 (((3 : Int32) * x1) + x2).toNatClampNeg)) hx hb hE hH 29 0 (by decide) 36 rfl rfl (oa_in_vp hk5) dX5_operand_148 ?_
    cases hf
    exact oa_reti hx hb hr hlocks rfl hS hH dX5_operand_149
  · rw [if_neg hq1] at hf
    refine lv_iconst (v := (0 : Int32)) hx hb dX5_operand_102 (by decide) ?_
    cases hf
    exact oa_reti hx hb hr hlocks rfl hS hH dX5_operand_103
set_option maxHeartbeats 4000000 in
set_option maxRecDepth 100000 in
theorem bX5_operand_87 {p : Program} {l : Launch} {e : Env} {s : State} {m : MethodId} {args : Array Value} {below : List Frame} {meth : Method} {c : Code} {D : va_G} {ca : Nat → ClassId} {ad : Nat → Nat → Nat} {b0 : Nat} {o : Int32 × oa_M} (C : oa_Cx p s m args meth c cX5_operand 7 (some .int) RX5 D ca b0 ad) : ∀ (n : Nat), ∀ (x1 : Int32) (x2 : Int32) (x3 : Int32) (x4 : Int32) (x5 : Int32) (x6 : Int32) (M : oa_M), BX5_operand_87 n x1 x2 x3 x4 x5 x6 M = some o → ∀ (H : Heap) (locs : List Loc), oa_H D ca ad M H → va_S (fun q => b0 ≤ q) s.heap H locs → ∀ (ls : Array Slot), lv_has ls 7 [(0, .ref (ad 20 0)), (1, .int x1), (2, .int x2), (3, .int x3), (4, .int x4), (5, .int x5), (6, .int x6)] → W p l e ({ frames := 1, cells := 0, slots := 0, locals := 22 } : Room) s m args below meth c H locs 0 0 (MQ below (va_Qi (fun (r' : Int32) (u : oa_M) => r' = o.1 ∧ u = o.2) (fun u t => oa_H D ca ad u t.heap) (fun q => b0 ≤ q)) args s 0 0 (fun q => b0 ≤ q)) (F0 m 87 ls [.ref (ad 20 0)]) := by
  obtain ⟨hx, hb, hml, hr, hlocks, hown, hts, hE, hw⟩ := id C
  intro n x1 x2 x3 x4 x5 x6 M hf H locs hH hS ls hl
  unfold BX5_operand_87 at hf
  refine lv_iconst (v := (1 : Int32)) hx hb dX5_operand_87 (by decide) ?_
  refine lv_goto (tgt := 92) hx hb dX5_operand_88 (by decide) ?_
  exact bX5_operand_92 C n x1 x2 x3 x4 x5 x6 (1 : Int32) _ hf _ _ hH hS _ (lv_sub hl [0, 1, 2, 3, 4, 5, 6] rfl)
set_option maxHeartbeats 4000000 in
set_option maxRecDepth 100000 in
theorem bX5_operand_47 {p : Program} {l : Launch} {e : Env} {s : State} {m : MethodId} {args : Array Value} {below : List Frame} {meth : Method} {c : Code} {D : va_G} {ca : Nat → ClassId} {ad : Nat → Nat → Nat} {b0 : Nat} {o : Int32 × oa_M} (C : oa_Cx p s m args meth c cX5_operand 7 (some .int) RX5 D ca b0 ad) : ∀ (n : Nat), ∀ (x1 : Int32) (x2 : Int32) (x3 : Int32) (x4 : Int32) (x5 : Int32) (z0 : Int32) (M : oa_M), BX5_operand_47 n x1 x2 x3 x4 x5 z0 M = some o → ∀ (H : Heap) (locs : List Loc), oa_H D ca ad M H → va_S (fun q => b0 ≤ q) s.heap H locs → ∀ (ls : Array Slot), lv_has ls 7 [(0, .ref (ad 20 0)), (1, .int x1), (2, .int x2), (3, .int x3), (4, .int x4), (5, .int x5)] → W p l e ({ frames := 1, cells := 0, slots := 0, locals := 22 } : Room) s m args below meth c H locs 0 0 (MQ below (va_Qi (fun (r' : Int32) (u : oa_M) => r' = o.1 ∧ u = o.2) (fun u t => oa_H D ca ad u t.heap) (fun q => b0 ≤ q)) args s 0 0 (fun q => b0 ≤ q)) (F0 m 47 ls [.int z0]) := by
  obtain ⟨hx, hb, hml, hr, hlocks, hown, hts, hE, hw⟩ := id C
  intro n x1 x2 x3 x4 x5 z0 M hf H locs hH hS ls hl
  unfold BX5_operand_47 at hf
  refine lv_istore (lv' := [(6, .int z0), (0, .ref (ad 20 0)), (1, .int x1), (2, .int x2), (3, .int x3), (4, .int x4), (5, .int x5)]) hx hb dX5_operand_47 hl (by decide) rfl (fun ls hl => ?_)
  refine lv_aload_n hx hb dX5_operand_49 rfl (lv_at hl 1 rfl) ?_
  refine lv_iload hx hb dX5_operand_50 (lv_at hl 0 rfl) ?_
  refine lv_if_eq (tgt := 87) hx hb dX5_operand_52 (by decide) (fun hq1 => ?_) (fun hq1 => ?_)
  · rw [if_pos hq1] at hf
    exact bX5_operand_87 C n x1 x2 x3 x4 x5 z0 _ hf _ _ hH hS _ (lv_sub hl [1, 2, 3, 4, 5, 6, 0] rfl)
  · rw [if_neg hq1] at hf
    refine lv_iload_n hx hb dX5_operand_55 rfl (lv_at hl 4 rfl) ?_
    refine lv_iconst (v := (0 : Int32)) hx hb dX5_operand_56 (by decide) ?_
    refine lv_iconst (v := (2 : Int32)) hx hb dX5_operand_57 (by decide) ?_
    obtain ⟨r2, M3, hc4, hf⟩ := oa_bdE hf
    refine oa_csi (As := [.int x3, .int (0 : Int32), .int (2 : Int32)]) (rest := [.ref (ad 20 0)]) ⟨hx, hb, hml, hown, hts⟩ (cX5_outside_ok l D ca ad b0 hw n x3 (0 : Int32) (2 : Int32) _ _ _ hc4) (va_cwS 3 hts (oa_gS tw_753 tw_754 tw_49 tw_755) rfl rfl rfl (by decide +kernel) ⟨Nat.le_of_ble_eq_true rfl, Nat.le_of_ble_eq_true rfl⟩) hE hH hS rfl hl.1 rfl (Nat.le_of_ble_eq_true rfl) dX5_operand_58 ⟨by decide, by decide⟩ (fun H locs hH hS => ?_)
    refine lv_if_ne (tgt := 87) hx hb dX5_operand_61 (by decide) (fun hq5 => ?_) (fun hq5 => ?_)
    · rw [if_neg hq5] at hf
      exact bX5_operand_87 C n x1 x2 x3 x4 x5 z0 _ hf _ _ hH hS _ (lv_sub hl [1, 2, 3, 4, 5, 6, 0] rfl)
    · rw [if_pos hq5] at hf
      refine lv_iload hx hb dX5_operand_64 (lv_at hl 5 rfl) ?_
      refine lv_iconst (v := (1 : Int32)) hx hb dX5_operand_66 (by decide) ?_
      refine lv_bipush (v := (8 : Int32)) hx hb dX5_operand_67 (by decide) ?_
      obtain ⟨r6, M7, hc8, hf⟩ := oa_bdE hf
      refine oa_csi (As := [.int x4, .int (1 : Int32), .int (8 : Int32)]) (rest := [.ref (ad 20 0)]) ⟨hx, hb, hml, hown, hts⟩ (cX5_outside_ok l D ca ad b0 hw n x4 (1 : Int32) (8 : Int32) _ _ _ hc8) (va_cwS 3 hts (oa_gS tw_753 tw_754 tw_49 tw_755) rfl rfl rfl (by decide +kernel) ⟨Nat.le_of_ble_eq_true rfl, Nat.le_of_ble_eq_true rfl⟩) hE hH hS rfl hl.1 rfl (Nat.le_of_ble_eq_true rfl) dX5_operand_69 ⟨by decide, by decide⟩ (fun H locs hH hS => ?_)
      refine lv_if_ne (tgt := 87) hx hb dX5_operand_72 (by decide) (fun hq9 => ?_) (fun hq9 => ?_)
      · rw [if_neg hq9] at hf
        exact bX5_operand_87 C n x1 x2 x3 x4 x5 z0 _ hf _ _ hH hS _ (lv_sub hl [1, 2, 3, 4, 5, 6, 0] rfl)
      · rw [if_pos hq9] at hf
        refine lv_iload hx hb dX5_operand_75 (lv_at hl 6 rfl) ?_
        refine lv_bipush (v := (-100 : Int32)) hx hb dX5_operand_77 (by decide) ?_
        refine lv_bipush (v := (100 : Int32)) hx hb dX5_operand_79 (by decide) ?_
        obtain ⟨r10, M11, hc12, hf⟩ := oa_bdE hf
        refine oa_csi (As := [.int x5, .int (-100 : Int32), .int (100 : Int32)]) (rest := [.ref (ad 20 0)]) ⟨hx, hb, hml, hown, hts⟩ (cX5_outside_ok l D ca ad b0 hw n x5 (-100 : Int32) (100 : Int32) _ _ _ hc12) (va_cwS 3 hts (oa_gS tw_753 tw_754 tw_49 tw_755) rfl rfl rfl (by decide +kernel) ⟨Nat.le_of_ble_eq_true rfl, Nat.le_of_ble_eq_true rfl⟩) hE hH hS rfl hl.1 rfl (Nat.le_of_ble_eq_true rfl) dX5_operand_81 ⟨by decide, by decide⟩ (fun H locs hH hS => ?_)
        refine lv_if_eq (tgt := 91) hx hb dX5_operand_84 (by decide) (fun hq13 => ?_) (fun hq13 => ?_)
        · rw [if_pos hq13] at hf
          refine lv_iconst (v := (0 : Int32)) hx hb dX5_operand_91 (by decide) ?_
          exact bX5_operand_92 C n x1 x2 x3 x4 x5 z0 (0 : Int32) _ hf _ _ hH hS _ (lv_sub hl [1, 2, 3, 4, 5, 6, 0] rfl)
        · rw [if_neg hq13] at hf
          exact bX5_operand_87 C n x1 x2 x3 x4 x5 z0 _ hf _ _ hH hS _ (lv_sub hl [1, 2, 3, 4, 5, 6, 0] rfl)
set_option maxHeartbeats 4000000 in
set_option maxRecDepth 100000 in
theorem bX5_operand_46 {p : Program} {l : Launch} {e : Env} {s : State} {m : MethodId} {args : Array Value} {below : List Frame} {meth : Method} {c : Code} {D : va_G} {ca : Nat → ClassId} {ad : Nat → Nat → Nat} {b0 : Nat} {o : Int32 × oa_M} (C : oa_Cx p s m args meth c cX5_operand 7 (some .int) RX5 D ca b0 ad) : ∀ (n : Nat), ∀ (x1 : Int32) (x2 : Int32) (x3 : Int32) (x4 : Int32) (x5 : Int32) (M : oa_M), BX5_operand_46 n x1 x2 x3 x4 x5 M = some o → ∀ (H : Heap) (locs : List Loc), oa_H D ca ad M H → va_S (fun q => b0 ≤ q) s.heap H locs → ∀ (ls : Array Slot), lv_has ls 7 [(0, .ref (ad 20 0)), (1, .int x1), (2, .int x2), (3, .int x3), (4, .int x4), (5, .int x5)] → W p l e ({ frames := 1, cells := 0, slots := 0, locals := 22 } : Room) s m args below meth c H locs 0 0 (MQ below (va_Qi (fun (r' : Int32) (u : oa_M) => r' = o.1 ∧ u = o.2) (fun u t => oa_H D ca ad u t.heap) (fun q => b0 ≤ q)) args s 0 0 (fun q => b0 ≤ q)) (F0 m 46 ls []) := by
  obtain ⟨hx, hb, hml, hr, hlocks, hown, hts, hE, hw⟩ := id C
  intro n x1 x2 x3 x4 x5 M hf H locs hH hS ls hl
  unfold BX5_operand_46 at hf
  refine lv_iconst (v := (0 : Int32)) hx hb dX5_operand_46 (by decide) ?_
  exact bX5_operand_47 C n x1 x2 x3 x4 x5 (0 : Int32) _ hf _ _ hH hS _ (lv_sub hl [0, 1, 2, 3, 4, 5] rfl)
set_option maxHeartbeats 4000000 in
set_option maxRecDepth 100000 in
theorem bX5_operand_38 {p : Program} {l : Launch} {e : Env} {s : State} {m : MethodId} {args : Array Value} {below : List Frame} {meth : Method} {c : Code} {D : va_G} {ca : Nat → ClassId} {ad : Nat → Nat → Nat} {b0 : Nat} {o : Int32 × oa_M} (C : oa_Cx p s m args meth c cX5_operand 7 (some .int) RX5 D ca b0 ad) : ∀ (n : Nat), ∀ (x1 : Int32) (x2 : Int32) (x3 : Int32) (x4 : Int32) (x5 : Int32) (z0 : Int32) (z2 : Int32) (M : oa_M), BX5_operand_38 n x1 x2 x3 x4 x5 z0 z2 M = some o → ∀ (H : Heap) (locs : List Loc), oa_H D ca ad M H → va_S (fun q => b0 ≤ q) s.heap H locs → ∀ (ls : Array Slot), lv_has ls 7 [(0, .ref (ad 20 0)), (1, .int x1), (2, .int x2), (3, .int x3), (4, .int x4), (5, .int x5)] → W p l e ({ frames := 1, cells := 0, slots := 0, locals := 22 } : Room) s m args below meth c H locs 0 0 (MQ below (va_Qi (fun (r' : Int32) (u : oa_M) => r' = o.1 ∧ u = o.2) (fun u t => oa_H D ca ad u t.heap) (fun q => b0 ≤ q)) args s 0 0 (fun q => b0 ≤ q)) (F0 m 38 ls [.int z2, .ref (ad 28 0), .int z0]) := by
  obtain ⟨hx, hb, hml, hr, hlocks, hown, hts, hE, hw⟩ := id C
  intro n x1 x2 x3 x4 x5 z0 z2 M hf H locs hH hS ls hl
  unfold BX5_operand_38 at hf
  obtain ⟨hk1, hf⟩ := oa_ck hf
  refine oa_ild (v := (M 28 0 z2.toNatClampNeg)) hx hb hE hH 28 0 (by decide) 12 rfl rfl (oa_in_vp hk1) dX5_operand_38 ?_
  refine lv_icmp_ge (tgt := 46) hx hb dX5_operand_39 (by decide) (fun hq2 => ?_) (fun hq2 => ?_)
  · rw [if_pos hq2] at hf
    exact bX5_operand_46 C n x1 x2 x3 x4 x5 _ hf _ _ hH hS _ (lv_sub hl [0, 1, 2, 3, 4, 5] rfl)
  · rw [if_neg hq2] at hf
    refine lv_iconst (v := (1 : Int32)) hx hb dX5_operand_42 (by decide) ?_
    refine lv_goto (tgt := 47) hx hb dX5_operand_43 (by decide) ?_
    exact bX5_operand_47 C n x1 x2 x3 x4 x5 (1 : Int32) _ hf _ _ hH hS _ (lv_sub hl [0, 1, 2, 3, 4, 5] rfl)
set_option maxHeartbeats 4000000 in
set_option maxRecDepth 100000 in
theorem bX5_operand_33 {p : Program} {l : Launch} {e : Env} {s : State} {m : MethodId} {args : Array Value} {below : List Frame} {meth : Method} {c : Code} {D : va_G} {ca : Nat → ClassId} {ad : Nat → Nat → Nat} {b0 : Nat} {o : Int32 × oa_M} (C : oa_Cx p s m args meth c cX5_operand 7 (some .int) RX5 D ca b0 ad) : ∀ (n : Nat), ∀ (x1 : Int32) (x2 : Int32) (x3 : Int32) (x4 : Int32) (x5 : Int32) (z0 : Int32) (M : oa_M), BX5_operand_33 n x1 x2 x3 x4 x5 z0 M = some o → ∀ (H : Heap) (locs : List Loc), oa_H D ca ad M H → va_S (fun q => b0 ≤ q) s.heap H locs → ∀ (ls : Array Slot), lv_has ls 7 [(0, .ref (ad 20 0)), (1, .int x1), (2, .int x2), (3, .int x3), (4, .int x4), (5, .int x5)] → W p l e ({ frames := 1, cells := 0, slots := 0, locals := 22 } : Room) s m args below meth c H locs 0 0 (MQ below (va_Qi (fun (r' : Int32) (u : oa_M) => r' = o.1 ∧ u = o.2) (fun u t => oa_H D ca ad u t.heap) (fun q => b0 ≤ q)) args s 0 0 (fun q => b0 ≤ q)) (F0 m 33 ls [.ref (ad 28 0), .int z0]) := by
  obtain ⟨hx, hb, hml, hr, hlocks, hown, hts, hE, hw⟩ := id C
  intro n x1 x2 x3 x4 x5 z0 M hf H locs hH hS ls hl
  unfold BX5_operand_33 at hf
  refine lv_iconst (v := (0 : Int32)) hx hb dX5_operand_33 (by decide) ?_
  refine lv_goto (tgt := 38) hx hb dX5_operand_34 (by decide) ?_
  exact bX5_operand_38 C n x1 x2 x3 x4 x5 z0 (0 : Int32) _ hf _ _ hH hS _ (lv_sub hl [0, 1, 2, 3, 4, 5] rfl)
set_option maxHeartbeats 4000000 in
set_option maxRecDepth 100000 in
theorem cX5_operand_k (l : Launch) (D : va_G) (ca : Nat → ClassId) (ad : Nat → Nat → Nat) (b0 : Nat) (hw : oa_W ad b0) (n : Nat) (x1 : Int32) (x2 : Int32) (x3 : Int32) (x4 : Int32) (x5 : Int32) (M : oa_M) (o : Int32 × oa_M) (hf : FX5_operand n x1 x2 x3 x4 x5 M = some o) : oa_Mi l yX5_operand (oa_w yX5_operand cX5_operand 7 (some .int)) ({ frames := 1, cells := 0, slots := 0, locals := 22 } : Room) D ca ad b0 [.ref (ad 20 0), .int x1, .int x2, .int x3, .int x4, .int x5] M o.1 o.2 := by
  refine oa_ofW (cc := cX5_operand) (maxL := 7) (ret := some .int) (by decide) rfl (Nat.le_of_ble_eq_true rfl) ?_
  intro p e s m below meth c hx hb hml hr hlocks hown hts0 hP ls hl
  obtain ⟨hH, hE⟩ := hP
  have hts : ∀ w ∈ oa_T, w.before _ s = true := fun w h => hts0 w (List.mem_cons_of_mem _ h)
  have hS : va_S (fun q => b0 ≤ q) s.heap s.heap [] := va_S.rf
  have C : oa_Cx p s m _ meth c cX5_operand 7 (some .int) RX5 D ca b0 ad := ⟨hx, hb, hml, hr, hlocks, hown, hts, hE, hw⟩
  have hl : lv_has ls 7 [(0, .ref (ad 20 0)), (1, .int x1), (2, .int x2), (3, .int x3), (4, .int x4), (5, .int x5)] := hl
  unfold FX5_operand at hf
  refine lv_iload_n hx hb dX5_operand_0 rfl (lv_at hl 1 rfl) ?_
  refine lv_if_lt (tgt := 46) hx hb dX5_operand_1 (by decide) (fun hq1 => ?_) (fun hq1 => ?_)
  · rw [if_pos hq1] at hf
    exact bX5_operand_46 C n x1 x2 x3 x4 x5 _ hf _ _ hH hS _ (lv_sub hl [0, 1, 2, 3, 4, 5] rfl)
  · rw [if_neg hq1] at hf
    refine lv_iload_n hx hb dX5_operand_4 rfl (lv_at hl 1 rfl) ?_
    refine lv_aload_n hx hb dX5_operand_5 rfl (lv_at hl 0 rfl) ?_
    refine oa_get (ci := 5) (C := RX5) (T := TX5) (N := 31) (v := .int (M 20 0 4)) hx hb hts inX5 hown hE hH 20 0 (by decide) rfl rfl 4 (by decide) (hts _ tw_619) rfl dX5_operand_6 ?_
    refine lv_icmp_ge (tgt := 46) hx hb dX5_operand_9 (by decide) (fun hq2 => ?_) (fun hq2 => ?_)
    · rw [if_pos hq2] at hf
      exact bX5_operand_46 C n x1 x2 x3 x4 x5 _ hf _ _ hH hS _ (lv_sub hl [0, 1, 2, 3, 4, 5] rfl)
    · rw [if_neg hq2] at hf
      refine lv_iload_n hx hb dX5_operand_12 rfl (lv_at hl 2 rfl) ?_
      refine lv_if_lt (tgt := 46) hx hb dX5_operand_13 (by decide) (fun hq3 => ?_) (fun hq3 => ?_)
      · rw [if_pos hq3] at hf
        exact bX5_operand_46 C n x1 x2 x3 x4 x5 _ hf _ _ hH hS _ (lv_sub hl [0, 1, 2, 3, 4, 5] rfl)
      · rw [if_neg hq3] at hf
        refine lv_iload_n hx hb dX5_operand_16 rfl (lv_at hl 2 rfl) ?_
        refine lv_aload_n hx hb dX5_operand_17 rfl (lv_at hl 0 rfl) ?_
        refine oa_get (ci := 5) (C := RX5) (T := TX5) (N := 31) (v := .ref (ad 28 0)) hx hb hts inX5 hown hE hH 20 0 (by decide) rfl rfl 8 (by decide) (hts _ tw_623) rfl dX5_operand_18 ?_
        refine lv_iload_n hx hb dX5_operand_21 rfl (lv_at hl 1 rfl) ?_
        refine lv_if_lt (tgt := 33) hx hb dX5_operand_22 (by decide) (fun hq4 => ?_) (fun hq4 => ?_)
        · rw [if_pos hq4] at hf
          exact bX5_operand_33 C n x1 x2 x3 x4 x5 x2 _ hf _ _ hH hS _ (lv_sub hl [0, 1, 2, 3, 4, 5] rfl)
        · rw [if_neg hq4] at hf
          refine lv_iload_n hx hb dX5_operand_25 rfl (lv_at hl 1 rfl) ?_
          refine lv_aload_n hx hb dX5_operand_26 rfl (lv_at hl 0 rfl) ?_
          refine oa_get (ci := 5) (C := RX5) (T := TX5) (N := 31) (v := .int (M 20 0 4)) hx hb hts inX5 hown hE hH 20 0 (by decide) rfl rfl 4 (by decide) (hts _ tw_619) rfl dX5_operand_27 ?_
          refine lv_icmp_lt (tgt := 37) hx hb dX5_operand_30 (by decide) (fun hq5 => ?_) (fun hq5 => ?_)
          · rw [if_pos hq5] at hf
            refine lv_iload_n hx hb dX5_operand_37 rfl (lv_at hl 1 rfl) ?_
            exact bX5_operand_38 C n x1 x2 x3 x4 x5 x2 x1 _ hf _ _ hH hS _ (lv_sub hl [0, 1, 2, 3, 4, 5] rfl)
          · rw [if_neg hq5] at hf
            exact bX5_operand_33 C n x1 x2 x3 x4 x5 x2 _ hf _ _ hH hS _ (lv_sub hl [0, 1, 2, 3, 4, 5] rfl)
theorem cX5_operand_ok (l : Launch) (D : va_G) (ca : Nat → ClassId) (ad : Nat → Nat → Nat) (b0 : Nat) (hw : oa_W ad b0) (n : Nat) (x1 : Int32) (x2 : Int32) (x3 : Int32) (x4 : Int32) (x5 : Int32) (M : oa_M) (r : Int32) (M' : oa_M) (hf : FX5_operand n x1 x2 x3 x4 x5 M = some (r, M')) : oa_Mi l yX5_operand (oa_w yX5_operand cX5_operand 7 (some .int)) ({ frames := 1, cells := 0, slots := 0, locals := 22 } : Room) D ca ad b0 [.ref (ad 20 0), .int x1, .int x2, .int x3, .int x4, .int x5] M r M' := cX5_operand_k l D ca ad b0 hw n x1 x2 x3 x4 x5 M (r, M') hf
def BX5_fixed_40 (n : Nat) (x1 : Int32) (x2 : Int32) (z0 : Int32) (M : oa_M) : Option (Int32 × oa_M) := (some (z0, M))
def BX5_fixed_39 (n : Nat) (x1 : Int32) (x2 : Int32) (M : oa_M) : Option (Int32 × oa_M) := (BX5_fixed_40 n x1 x2 (-1 : Int32) M)
def FX5_fixed (n : Nat) (x1 : Int32) (x2 : Int32) (M : oa_M) : Option (Int32 × oa_M) := (if oa_in x1 12 = true then (if (M 26 0 x1.toNatClampNeg) ≤ x2 then (BX5_fixed_39 n x1 x2 M) else (if oa_in (((24 : Int32) * x1) + x2) 288 = true then (if (2 : Int32) ≤ (M 27 0 (((24 : Int32) * x1) + x2).toNatClampNeg) then (BX5_fixed_39 n x1 x2 M) else (if oa_in (((24 : Int32) * x1) + x2) 288 = true then (BX5_fixed_40 n x1 x2 (M 27 0 (((24 : Int32) * x1) + x2).toNatClampNeg) M) else none)) else none)) else none)
set_option maxHeartbeats 4000000 in
set_option maxRecDepth 100000 in
theorem bX5_fixed_40 {p : Program} {l : Launch} {e : Env} {s : State} {m : MethodId} {args : Array Value} {below : List Frame} {meth : Method} {c : Code} {D : va_G} {ca : Nat → ClassId} {ad : Nat → Nat → Nat} {b0 : Nat} {o : Int32 × oa_M} (C : oa_Cx p s m args meth c cX5_fixed 3 (some .int) RX5 D ca b0 ad) : ∀ (n : Nat), ∀ (x1 : Int32) (x2 : Int32) (z0 : Int32) (M : oa_M), BX5_fixed_40 n x1 x2 z0 M = some o → ∀ (H : Heap) (locs : List Loc), oa_H D ca ad M H → va_S (fun q => b0 ≤ q) s.heap H locs → ∀ (ls : Array Slot), lv_has ls 3 [(0, .ref (ad 20 0)), (1, .int x1), (2, .int x2)] → W p l e ({ frames := 0, cells := 0, slots := 0, locals := 0 } : Room) s m args below meth c H locs 0 0 (MQ below (va_Qi (fun (r' : Int32) (u : oa_M) => r' = o.1 ∧ u = o.2) (fun u t => oa_H D ca ad u t.heap) (fun q => b0 ≤ q)) args s 0 0 (fun q => b0 ≤ q)) (F0 m 40 ls [.int z0]) := by
  obtain ⟨hx, hb, hml, hr, hlocks, hown, hts, hE, hw⟩ := id C
  intro n x1 x2 z0 M hf H locs hH hS ls hl
  unfold BX5_fixed_40 at hf
  cases hf
  exact oa_reti hx hb hr hlocks rfl hS hH dX5_fixed_40
set_option maxHeartbeats 4000000 in
set_option maxRecDepth 100000 in
theorem bX5_fixed_39 {p : Program} {l : Launch} {e : Env} {s : State} {m : MethodId} {args : Array Value} {below : List Frame} {meth : Method} {c : Code} {D : va_G} {ca : Nat → ClassId} {ad : Nat → Nat → Nat} {b0 : Nat} {o : Int32 × oa_M} (C : oa_Cx p s m args meth c cX5_fixed 3 (some .int) RX5 D ca b0 ad) : ∀ (n : Nat), ∀ (x1 : Int32) (x2 : Int32) (M : oa_M), BX5_fixed_39 n x1 x2 M = some o → ∀ (H : Heap) (locs : List Loc), oa_H D ca ad M H → va_S (fun q => b0 ≤ q) s.heap H locs → ∀ (ls : Array Slot), lv_has ls 3 [(0, .ref (ad 20 0)), (1, .int x1), (2, .int x2)] → W p l e ({ frames := 0, cells := 0, slots := 0, locals := 0 } : Room) s m args below meth c H locs 0 0 (MQ below (va_Qi (fun (r' : Int32) (u : oa_M) => r' = o.1 ∧ u = o.2) (fun u t => oa_H D ca ad u t.heap) (fun q => b0 ≤ q)) args s 0 0 (fun q => b0 ≤ q)) (F0 m 39 ls []) := by
  obtain ⟨hx, hb, hml, hr, hlocks, hown, hts, hE, hw⟩ := id C
  intro n x1 x2 M hf H locs hH hS ls hl
  unfold BX5_fixed_39 at hf
  refine lv_iconst (v := (-1 : Int32)) hx hb dX5_fixed_39 (by decide) ?_
  exact bX5_fixed_40 C n x1 x2 (-1 : Int32) _ hf _ _ hH hS _ (lv_sub hl [0, 1, 2] rfl)
set_option maxHeartbeats 4000000 in
set_option maxRecDepth 100000 in
theorem cX5_fixed_k (l : Launch) (D : va_G) (ca : Nat → ClassId) (ad : Nat → Nat → Nat) (b0 : Nat) (hw : oa_W ad b0) (n : Nat) (x1 : Int32) (x2 : Int32) (M : oa_M) (o : Int32 × oa_M) (hf : FX5_fixed n x1 x2 M = some o) : oa_Mi l yX5_fixed (oa_w yX5_fixed cX5_fixed 3 (some .int)) ({ frames := 0, cells := 0, slots := 0, locals := 0 } : Room) D ca ad b0 [.ref (ad 20 0), .int x1, .int x2] M o.1 o.2 := by
  refine oa_ofW (cc := cX5_fixed) (maxL := 3) (ret := some .int) (by decide) rfl (Nat.le_of_ble_eq_true rfl) ?_
  intro p e s m below meth c hx hb hml hr hlocks hown hts0 hP ls hl
  obtain ⟨hH, hE⟩ := hP
  have hts : ∀ w ∈ oa_T, w.before _ s = true := fun w h => hts0 w (List.mem_cons_of_mem _ h)
  have hS : va_S (fun q => b0 ≤ q) s.heap s.heap [] := va_S.rf
  have C : oa_Cx p s m _ meth c cX5_fixed 3 (some .int) RX5 D ca b0 ad := ⟨hx, hb, hml, hr, hlocks, hown, hts, hE, hw⟩
  have hl : lv_has ls 3 [(0, .ref (ad 20 0)), (1, .int x1), (2, .int x2)] := hl
  unfold FX5_fixed at hf
  refine lv_iload_n hx hb dX5_fixed_0 rfl (lv_at hl 2 rfl) ?_
  refine lv_aload_n hx hb dX5_fixed_1 rfl (lv_at hl 0 rfl) ?_
  refine oa_get (ci := 5) (C := RX5) (T := TX5) (N := 31) (v := .ref (ad 26 0)) hx hb hts inX5 hown hE hH 20 0 (by decide) rfl rfl 6 (by decide) (hts _ tw_621) rfl dX5_fixed_2 ?_
  refine lv_iload_n hx hb dX5_fixed_5 rfl (lv_at hl 1 rfl) ?_
  obtain ⟨hk1, hf⟩ := oa_ck hf
  refine oa_ild (v := (M 26 0 x1.toNatClampNeg)) hx hb hE hH 26 0 (by decide) 12 rfl rfl (oa_in_vp hk1) dX5_fixed_6 ?_
  refine lv_icmp_ge (tgt := 39) hx hb dX5_fixed_7 (by decide) (fun hq2 => ?_) (fun hq2 => ?_)
  · rw [if_pos hq2] at hf
    exact bX5_fixed_39 C n x1 x2 _ hf _ _ hH hS _ (lv_sub hl [0, 1, 2] rfl)
  · rw [if_neg hq2] at hf
    refine lv_aload_n hx hb dX5_fixed_10 rfl (lv_at hl 0 rfl) ?_
    refine oa_get (ci := 5) (C := RX5) (T := TX5) (N := 31) (v := .ref (ad 27 0)) hx hb hts inX5 hown hE hH 20 0 (by decide) rfl rfl 7 (by decide) (hts _ tw_622) rfl dX5_fixed_11 ?_
    refine lv_bipush (v := (24 : Int32)) hx hb dX5_fixed_14 (by decide) ?_
    refine lv_iload_n hx hb dX5_fixed_16 rfl (lv_at hl 1 rfl) ?_
    refine lv_imul hx hb dX5_fixed_17 ?_
    refine lv_iload_n hx hb dX5_fixed_18 rfl (lv_at hl 2 rfl) ?_
    refine lv_iadd hx hb dX5_fixed_19 ?_
    obtain ⟨hk3, hf⟩ := oa_ck hf
    refine oa_ild (v := (M 27 0 (((24 : Int32) * x1) + x2).toNatClampNeg)) hx hb hE hH 27 0 (by decide) 288 rfl rfl (oa_in_vp hk3) dX5_fixed_20 ?_
    refine lv_iconst (v := (2 : Int32)) hx hb dX5_fixed_21 (by decide) ?_
    refine lv_icmp_ge (tgt := 39) hx hb dX5_fixed_22 (by decide) (fun hq4 => ?_) (fun hq4 => ?_)
    · rw [if_pos hq4] at hf
      exact bX5_fixed_39 C n x1 x2 _ hf _ _ hH hS _ (lv_sub hl [0, 1, 2] rfl)
    · rw [if_neg hq4] at hf
      refine lv_aload_n hx hb dX5_fixed_25 rfl (lv_at hl 0 rfl) ?_
      refine oa_get (ci := 5) (C := RX5) (T := TX5) (N := 31) (v := .ref (ad 27 0)) hx hb hts inX5 hown hE hH 20 0 (by decide) rfl rfl 7 (by decide) (hts _ tw_622) rfl dX5_fixed_26 ?_
      refine lv_bipush (v := (24 : Int32)) hx hb dX5_fixed_29 (by decide) ?_
      refine lv_iload_n hx hb dX5_fixed_31 rfl (lv_at hl 1 rfl) ?_
      refine lv_imul hx hb dX5_fixed_32 ?_
      refine lv_iload_n hx hb dX5_fixed_33 rfl (lv_at hl 2 rfl) ?_
      refine lv_iadd hx hb dX5_fixed_34 ?_
      obtain ⟨hk5, hf⟩ := oa_ck hf
      refine oa_ild (v := (M 27 0 (((24 : Int32) * x1) + x2).toNatClampNeg)) hx hb hE hH 27 0 (by decide) 288 rfl rfl (oa_in_vp hk5) dX5_fixed_35 ?_
      refine lv_goto (tgt := 40) hx hb dX5_fixed_36 (by decide) ?_
      exact bX5_fixed_40 C n x1 x2 (M 27 0 (((24 : Int32) * x1) + x2).toNatClampNeg) _ hf _ _ hH hS _ (lv_sub hl [0, 1, 2] rfl)
theorem cX5_fixed_ok (l : Launch) (D : va_G) (ca : Nat → ClassId) (ad : Nat → Nat → Nat) (b0 : Nat) (hw : oa_W ad b0) (n : Nat) (x1 : Int32) (x2 : Int32) (M : oa_M) (r : Int32) (M' : oa_M) (hf : FX5_fixed n x1 x2 M = some (r, M')) : oa_Mi l yX5_fixed (oa_w yX5_fixed cX5_fixed 3 (some .int)) ({ frames := 0, cells := 0, slots := 0, locals := 0 } : Room) D ca ad b0 [.ref (ad 20 0), .int x1, .int x2] M r M' := cX5_fixed_k l D ca ad b0 hw n x1 x2 M (r, M') hf
def BX5_isNarrower_114 (n : Nat) (x1 : Int32) (x2 : Int32) (x3 : Int32) (x4 : Int32) (x5 : Int32) (z0 : Int32) (M : oa_M) : Option (Int32 × oa_M) := (some (oa_nz z0, M))
def BX5_isNarrower_113 (n : Nat) (x1 : Int32) (x2 : Int32) (x3 : Int32) (x4 : Int32) (x5 : Int32) (M : oa_M) : Option (Int32 × oa_M) := (BX5_isNarrower_114 n x1 x2 x3 x4 x5 (0 : Int32) M)
def BX5_isNarrower_109 (n : Nat) (x1 : Int32) (x2 : Int32) (x3 : Int32) (x4 : Int32) (x5 : Int32) (M : oa_M) : Option (Int32 × oa_M) := (BX5_isNarrower_114 n x1 x2 x3 x4 x5 (1 : Int32) M)
def BX5_isNarrower_74 (rec8 : Int32 → Int32 → Int32 → Int32 → Int32 → oa_M → Option (Int32 × oa_M)) (n : Nat) (x1 : Int32) (x2 : Int32) (x3 : Int32) (x4 : Int32) (x5 : Int32) (x6 : Int32) (x7 : Int32) (z0 : Int32) (M : oa_M) : Option (Int32 × oa_M) := (rec8 x1 x2 x3 z0 (x5 + (1 : Int32)) M)
def BX5_isNarrower_59 (rec8 : Int32 → Int32 → Int32 → Int32 → Int32 → oa_M → Option (Int32 × oa_M)) (n : Nat) (x1 : Int32) (x2 : Int32) (x3 : Int32) (x4 : Int32) (x5 : Int32) (x6 : Int32) (x7 : Int32) (z0 : Int32) (M : oa_M) : Option (Int32 × oa_M) := (if x7 < 0 then (BX5_isNarrower_74 rec8 n x1 x2 z0 x4 x5 x6 x7 x4 M) else (BX5_isNarrower_74 rec8 n x1 x2 z0 x4 x5 x6 x7 (x4 + (1 : Int32)) M))
def BX5_isNarrower_47 (rec8 : Int32 → Int32 → Int32 → Int32 → Int32 → oa_M → Option (Int32 × oa_M)) (n : Nat) (x1 : Int32) (x2 : Int32) (x3 : Int32) (x4 : Int32) (x5 : Int32) (x6 : Int32) (x7 : Int32) (M : oa_M) : Option (Int32 × oa_M) := (if x6 < 0 then (BX5_isNarrower_59 rec8 n x1 x2 x3 x4 x5 x6 x7 x3 M) else (BX5_isNarrower_59 rec8 n x1 x2 x3 x4 x5 x6 x7 (x3 + (1 : Int32)) M))
def BX5_isNarrower_8 : Nat → Int32 → Int32 → Int32 → Int32 → Int32 → oa_M → Option (Int32 × oa_M)
  | 0, _, _, _, _, _, _ => none
  | n + 1, x1, x2, x3, x4, x5, M => (if (24 : Int32) ≤ x5 then (if x4 < x3 then (BX5_isNarrower_109 n x1 x2 x3 x4 x5 M) else (if x3 = x4 then (if oa_in x1 12 = true then (if oa_in x2 12 = true then (if (M 26 0 x1.toNatClampNeg) ≤ (M 26 0 x2.toNatClampNeg) then (BX5_isNarrower_113 n x1 x2 x3 x4 x5 M) else (BX5_isNarrower_109 n x1 x2 x3 x4 x5 M)) else none) else none) else (BX5_isNarrower_113 n x1 x2 x3 x4 x5 M))) else (oa_bd (FX5_fixed n x1 x5 M) (fun r7 M8 => (oa_bd (FX5_fixed n x2 x5 M8) (fun r10 M11 => (if r10 < 0 then (BX5_isNarrower_47 (BX5_isNarrower_8 n) n x1 x2 x3 x4 x5 r7 r10 M11) else (if r7 = r10 then (BX5_isNarrower_47 (BX5_isNarrower_8 n) n x1 x2 x3 x4 x5 r7 r10 M11) else (some ((0 : Int32), M11)))))))))
def FX5_isNarrower (n : Nat) (x1 : Int32) (x2 : Int32) (M : oa_M) : Option (Int32 × oa_M) := (BX5_isNarrower_8 n x1 x2 (0 : Int32) (0 : Int32) (0 : Int32) M)
set_option maxHeartbeats 4000000 in
set_option maxRecDepth 100000 in
theorem bX5_isNarrower_114 {p : Program} {l : Launch} {e : Env} {s : State} {m : MethodId} {args : Array Value} {below : List Frame} {meth : Method} {c : Code} {D : va_G} {ca : Nat → ClassId} {ad : Nat → Nat → Nat} {b0 : Nat} {o : Int32 × oa_M} (C : oa_Cx p s m args meth c cX5_isNarrower 8 (some .boolean) RX5 D ca b0 ad) : ∀ (n : Nat), ∀ (x1 : Int32) (x2 : Int32) (x3 : Int32) (x4 : Int32) (x5 : Int32) (z0 : Int32) (M : oa_M), BX5_isNarrower_114 n x1 x2 x3 x4 x5 z0 M = some o → ∀ (H : Heap) (locs : List Loc), oa_H D ca ad M H → va_S (fun q => b0 ≤ q) s.heap H locs → ∀ (ls : Array Slot), lv_has ls 8 [(0, .ref (ad 20 0)), (1, .int x1), (2, .int x2), (3, .int x3), (4, .int x4), (5, .int x5)] → W p l e ({ frames := 1, cells := 0, slots := 0, locals := 22 } : Room) s m args below meth c H locs 0 0 (MQ below (va_Qi (fun (r' : Int32) (u : oa_M) => r' = o.1 ∧ u = o.2) (fun u t => oa_H D ca ad u t.heap) (fun q => b0 ≤ q)) args s 0 0 (fun q => b0 ≤ q)) (F0 m 114 ls [.int z0]) := by
  obtain ⟨hx, hb, hml, hr, hlocks, hown, hts, hE, hw⟩ := id C
  intro n x1 x2 x3 x4 x5 z0 M hf H locs hH hS ls hl
  unfold BX5_isNarrower_114 at hf
  cases hf
  exact oa_reti hx hb hr hlocks rfl hS hH dX5_isNarrower_114
set_option maxHeartbeats 4000000 in
set_option maxRecDepth 100000 in
theorem bX5_isNarrower_113 {p : Program} {l : Launch} {e : Env} {s : State} {m : MethodId} {args : Array Value} {below : List Frame} {meth : Method} {c : Code} {D : va_G} {ca : Nat → ClassId} {ad : Nat → Nat → Nat} {b0 : Nat} {o : Int32 × oa_M} (C : oa_Cx p s m args meth c cX5_isNarrower 8 (some .boolean) RX5 D ca b0 ad) : ∀ (n : Nat), ∀ (x1 : Int32) (x2 : Int32) (x3 : Int32) (x4 : Int32) (x5 : Int32) (M : oa_M), BX5_isNarrower_113 n x1 x2 x3 x4 x5 M = some o → ∀ (H : Heap) (locs : List Loc), oa_H D ca ad M H → va_S (fun q => b0 ≤ q) s.heap H locs → ∀ (ls : Array Slot), lv_has ls 8 [(0, .ref (ad 20 0)), (1, .int x1), (2, .int x2), (3, .int x3), (4, .int x4), (5, .int x5)] → W p l e ({ frames := 1, cells := 0, slots := 0, locals := 22 } : Room) s m args below meth c H locs 0 0 (MQ below (va_Qi (fun (r' : Int32) (u : oa_M) => r' = o.1 ∧ u = o.2) (fun u t => oa_H D ca ad u t.heap) (fun q => b0 ≤ q)) args s 0 0 (fun q => b0 ≤ q)) (F0 m 113 ls []) := by
  obtain ⟨hx, hb, hml, hr, hlocks, hown, hts, hE, hw⟩ := id C
  intro n x1 x2 x3 x4 x5 M hf H locs hH hS ls hl
  unfold BX5_isNarrower_113 at hf
  refine lv_iconst (v := (0 : Int32)) hx hb dX5_isNarrower_113 (by decide) ?_
  exact bX5_isNarrower_114 C n x1 x2 x3 x4 x5 (0 : Int32) _ hf _ _ hH hS _ (lv_sub hl [0, 1, 2, 3, 4, 5] rfl)
set_option maxHeartbeats 4000000 in
set_option maxRecDepth 100000 in
theorem bX5_isNarrower_109 {p : Program} {l : Launch} {e : Env} {s : State} {m : MethodId} {args : Array Value} {below : List Frame} {meth : Method} {c : Code} {D : va_G} {ca : Nat → ClassId} {ad : Nat → Nat → Nat} {b0 : Nat} {o : Int32 × oa_M} (C : oa_Cx p s m args meth c cX5_isNarrower 8 (some .boolean) RX5 D ca b0 ad) : ∀ (n : Nat), ∀ (x1 : Int32) (x2 : Int32) (x3 : Int32) (x4 : Int32) (x5 : Int32) (M : oa_M), BX5_isNarrower_109 n x1 x2 x3 x4 x5 M = some o → ∀ (H : Heap) (locs : List Loc), oa_H D ca ad M H → va_S (fun q => b0 ≤ q) s.heap H locs → ∀ (ls : Array Slot), lv_has ls 8 [(0, .ref (ad 20 0)), (1, .int x1), (2, .int x2), (3, .int x3), (4, .int x4), (5, .int x5)] → W p l e ({ frames := 1, cells := 0, slots := 0, locals := 22 } : Room) s m args below meth c H locs 0 0 (MQ below (va_Qi (fun (r' : Int32) (u : oa_M) => r' = o.1 ∧ u = o.2) (fun u t => oa_H D ca ad u t.heap) (fun q => b0 ≤ q)) args s 0 0 (fun q => b0 ≤ q)) (F0 m 109 ls []) := by
  obtain ⟨hx, hb, hml, hr, hlocks, hown, hts, hE, hw⟩ := id C
  intro n x1 x2 x3 x4 x5 M hf H locs hH hS ls hl
  unfold BX5_isNarrower_109 at hf
  refine lv_iconst (v := (1 : Int32)) hx hb dX5_isNarrower_109 (by decide) ?_
  refine lv_goto (tgt := 114) hx hb dX5_isNarrower_110 (by decide) ?_
  exact bX5_isNarrower_114 C n x1 x2 x3 x4 x5 (1 : Int32) _ hf _ _ hH hS _ (lv_sub hl [0, 1, 2, 3, 4, 5] rfl)
set_option maxHeartbeats 4000000 in
set_option maxRecDepth 100000 in
theorem bX5_isNarrower_74 {p : Program} {l : Launch} {e : Env} {s : State} {m : MethodId} {args : Array Value} {below : List Frame} {meth : Method} {c : Code} {D : va_G} {ca : Nat → ClassId} {ad : Nat → Nat → Nat} {b0 : Nat} {o : Int32 × oa_M} (C : oa_Cx p s m args meth c cX5_isNarrower 8 (some .boolean) RX5 D ca b0 ad) (rec8 : Int32 → Int32 → Int32 → Int32 → Int32 → oa_M → Option (Int32 × oa_M)) (hrec8 : ∀ (x1 : Int32) (x2 : Int32) (x3 : Int32) (x4 : Int32) (x5 : Int32) (M : oa_M), rec8 x1 x2 x3 x4 x5 M = some o → ∀ (H : Heap) (locs : List Loc), oa_H D ca ad M H → va_S (fun q => b0 ≤ q) s.heap H locs → ∀ (ls : Array Slot), lv_has ls 8 [(0, .ref (ad 20 0)), (1, .int x1), (2, .int x2), (3, .int x3), (4, .int x4), (5, .int x5)] → W p l e ({ frames := 1, cells := 0, slots := 0, locals := 22 } : Room) s m args below meth c H locs 0 0 (MQ below (va_Qi (fun (r' : Int32) (u : oa_M) => r' = o.1 ∧ u = o.2) (fun u t => oa_H D ca ad u t.heap) (fun q => b0 ≤ q)) args s 0 0 (fun q => b0 ≤ q)) (F0 m 8 ls [])) : ∀ (n : Nat), ∀ (x1 : Int32) (x2 : Int32) (x3 : Int32) (x4 : Int32) (x5 : Int32) (x6 : Int32) (x7 : Int32) (z0 : Int32) (M : oa_M), BX5_isNarrower_74 rec8 n x1 x2 x3 x4 x5 x6 x7 z0 M = some o → ∀ (H : Heap) (locs : List Loc), oa_H D ca ad M H → va_S (fun q => b0 ≤ q) s.heap H locs → ∀ (ls : Array Slot), lv_has ls 8 [(0, .ref (ad 20 0)), (1, .int x1), (2, .int x2), (3, .int x3), (4, .int x4), (5, .int x5), (6, .int x6), (7, .int x7)] → W p l e ({ frames := 1, cells := 0, slots := 0, locals := 22 } : Room) s m args below meth c H locs 0 0 (MQ below (va_Qi (fun (r' : Int32) (u : oa_M) => r' = o.1 ∧ u = o.2) (fun u t => oa_H D ca ad u t.heap) (fun q => b0 ≤ q)) args s 0 0 (fun q => b0 ≤ q)) (F0 m 74 ls [.int z0]) := by
  obtain ⟨hx, hb, hml, hr, hlocks, hown, hts, hE, hw⟩ := id C
  intro n x1 x2 x3 x4 x5 x6 x7 z0 M hf H locs hH hS ls hl
  unfold BX5_isNarrower_74 at hf
  refine lv_istore (lv' := [(4, .int z0), (0, .ref (ad 20 0)), (1, .int x1), (2, .int x2), (3, .int x3), (5, .int x5), (6, .int x6), (7, .int x7)]) hx hb dX5_isNarrower_74 hl (by decide) rfl (fun ls hl => ?_)
  refine lv_iinc (v := (x5 + (1 : Int32))) (lv' := [(5, .int (x5 + (1 : Int32))), (4, .int z0), (0, .ref (ad 20 0)), (1, .int x1), (2, .int x2), (3, .int x3), (6, .int x6), (7, .int x7)]) hx hb dX5_isNarrower_76 hl (k := 5) rfl rfl (by decide) rfl (fun ls hl => ?_)
  refine lv_goto (tgt := 8) hx hb dX5_isNarrower_79 (by decide) ?_
  exact hrec8 x1 x2 x3 z0 (x5 + (1 : Int32)) _ hf _ _ hH hS _ (lv_sub hl [2, 3, 4, 5, 1, 0] rfl)
set_option maxHeartbeats 4000000 in
set_option maxRecDepth 100000 in
theorem bX5_isNarrower_59 {p : Program} {l : Launch} {e : Env} {s : State} {m : MethodId} {args : Array Value} {below : List Frame} {meth : Method} {c : Code} {D : va_G} {ca : Nat → ClassId} {ad : Nat → Nat → Nat} {b0 : Nat} {o : Int32 × oa_M} (C : oa_Cx p s m args meth c cX5_isNarrower 8 (some .boolean) RX5 D ca b0 ad) (rec8 : Int32 → Int32 → Int32 → Int32 → Int32 → oa_M → Option (Int32 × oa_M)) (hrec8 : ∀ (x1 : Int32) (x2 : Int32) (x3 : Int32) (x4 : Int32) (x5 : Int32) (M : oa_M), rec8 x1 x2 x3 x4 x5 M = some o → ∀ (H : Heap) (locs : List Loc), oa_H D ca ad M H → va_S (fun q => b0 ≤ q) s.heap H locs → ∀ (ls : Array Slot), lv_has ls 8 [(0, .ref (ad 20 0)), (1, .int x1), (2, .int x2), (3, .int x3), (4, .int x4), (5, .int x5)] → W p l e ({ frames := 1, cells := 0, slots := 0, locals := 22 } : Room) s m args below meth c H locs 0 0 (MQ below (va_Qi (fun (r' : Int32) (u : oa_M) => r' = o.1 ∧ u = o.2) (fun u t => oa_H D ca ad u t.heap) (fun q => b0 ≤ q)) args s 0 0 (fun q => b0 ≤ q)) (F0 m 8 ls [])) : ∀ (n : Nat), ∀ (x1 : Int32) (x2 : Int32) (x3 : Int32) (x4 : Int32) (x5 : Int32) (x6 : Int32) (x7 : Int32) (z0 : Int32) (M : oa_M), BX5_isNarrower_59 rec8 n x1 x2 x3 x4 x5 x6 x7 z0 M = some o → ∀ (H : Heap) (locs : List Loc), oa_H D ca ad M H → va_S (fun q => b0 ≤ q) s.heap H locs → ∀ (ls : Array Slot), lv_has ls 8 [(0, .ref (ad 20 0)), (1, .int x1), (2, .int x2), (3, .int x3), (4, .int x4), (5, .int x5), (6, .int x6), (7, .int x7)] → W p l e ({ frames := 1, cells := 0, slots := 0, locals := 22 } : Room) s m args below meth c H locs 0 0 (MQ below (va_Qi (fun (r' : Int32) (u : oa_M) => r' = o.1 ∧ u = o.2) (fun u t => oa_H D ca ad u t.heap) (fun q => b0 ≤ q)) args s 0 0 (fun q => b0 ≤ q)) (F0 m 59 ls [.int z0]) := by
  obtain ⟨hx, hb, hml, hr, hlocks, hown, hts, hE, hw⟩ := id C
  intro n x1 x2 x3 x4 x5 x6 x7 z0 M hf H locs hH hS ls hl
  unfold BX5_isNarrower_59 at hf
  refine lv_istore_n (lv' := [(3, .int z0), (0, .ref (ad 20 0)), (1, .int x1), (2, .int x2), (4, .int x4), (5, .int x5), (6, .int x6), (7, .int x7)]) hx hb dX5_isNarrower_59 rfl hl (by decide) rfl (fun ls hl => ?_)
  refine lv_iload hx hb dX5_isNarrower_60 (lv_at hl 7 rfl) ?_
  refine lv_if_lt (tgt := 72) hx hb dX5_isNarrower_62 (by decide) (fun hq1 => ?_) (fun hq1 => ?_)
  · rw [if_pos hq1] at hf
    refine lv_iload hx hb dX5_isNarrower_72 (lv_at hl 4 rfl) ?_
    exact bX5_isNarrower_74 C _ hrec8 n x1 x2 z0 x4 x5 x6 x7 x4 _ hf _ _ hH hS _ (lv_sub hl [1, 2, 3, 0, 4, 5, 6, 7] rfl)
  · rw [if_neg hq1] at hf
    refine lv_iload hx hb dX5_isNarrower_65 (lv_at hl 4 rfl) ?_
    refine lv_iconst (v := (1 : Int32)) hx hb dX5_isNarrower_67 (by decide) ?_
    refine lv_iadd hx hb dX5_isNarrower_68 ?_
    refine lv_goto (tgt := 74) hx hb dX5_isNarrower_69 (by decide) ?_
    exact bX5_isNarrower_74 C _ hrec8 n x1 x2 z0 x4 x5 x6 x7 (x4 + (1 : Int32)) _ hf _ _ hH hS _ (lv_sub hl [1, 2, 3, 0, 4, 5, 6, 7] rfl)
set_option maxHeartbeats 4000000 in
set_option maxRecDepth 100000 in
theorem bX5_isNarrower_47 {p : Program} {l : Launch} {e : Env} {s : State} {m : MethodId} {args : Array Value} {below : List Frame} {meth : Method} {c : Code} {D : va_G} {ca : Nat → ClassId} {ad : Nat → Nat → Nat} {b0 : Nat} {o : Int32 × oa_M} (C : oa_Cx p s m args meth c cX5_isNarrower 8 (some .boolean) RX5 D ca b0 ad) (rec8 : Int32 → Int32 → Int32 → Int32 → Int32 → oa_M → Option (Int32 × oa_M)) (hrec8 : ∀ (x1 : Int32) (x2 : Int32) (x3 : Int32) (x4 : Int32) (x5 : Int32) (M : oa_M), rec8 x1 x2 x3 x4 x5 M = some o → ∀ (H : Heap) (locs : List Loc), oa_H D ca ad M H → va_S (fun q => b0 ≤ q) s.heap H locs → ∀ (ls : Array Slot), lv_has ls 8 [(0, .ref (ad 20 0)), (1, .int x1), (2, .int x2), (3, .int x3), (4, .int x4), (5, .int x5)] → W p l e ({ frames := 1, cells := 0, slots := 0, locals := 22 } : Room) s m args below meth c H locs 0 0 (MQ below (va_Qi (fun (r' : Int32) (u : oa_M) => r' = o.1 ∧ u = o.2) (fun u t => oa_H D ca ad u t.heap) (fun q => b0 ≤ q)) args s 0 0 (fun q => b0 ≤ q)) (F0 m 8 ls [])) : ∀ (n : Nat), ∀ (x1 : Int32) (x2 : Int32) (x3 : Int32) (x4 : Int32) (x5 : Int32) (x6 : Int32) (x7 : Int32) (M : oa_M), BX5_isNarrower_47 rec8 n x1 x2 x3 x4 x5 x6 x7 M = some o → ∀ (H : Heap) (locs : List Loc), oa_H D ca ad M H → va_S (fun q => b0 ≤ q) s.heap H locs → ∀ (ls : Array Slot), lv_has ls 8 [(0, .ref (ad 20 0)), (1, .int x1), (2, .int x2), (3, .int x3), (4, .int x4), (5, .int x5), (6, .int x6), (7, .int x7)] → W p l e ({ frames := 1, cells := 0, slots := 0, locals := 22 } : Room) s m args below meth c H locs 0 0 (MQ below (va_Qi (fun (r' : Int32) (u : oa_M) => r' = o.1 ∧ u = o.2) (fun u t => oa_H D ca ad u t.heap) (fun q => b0 ≤ q)) args s 0 0 (fun q => b0 ≤ q)) (F0 m 47 ls []) := by
  obtain ⟨hx, hb, hml, hr, hlocks, hown, hts, hE, hw⟩ := id C
  intro n x1 x2 x3 x4 x5 x6 x7 M hf H locs hH hS ls hl
  unfold BX5_isNarrower_47 at hf
  refine lv_iload hx hb dX5_isNarrower_47 (lv_at hl 6 rfl) ?_
  refine lv_if_lt (tgt := 58) hx hb dX5_isNarrower_49 (by decide) (fun hq1 => ?_) (fun hq1 => ?_)
  · rw [if_pos hq1] at hf
    refine lv_iload_n hx hb dX5_isNarrower_58 rfl (lv_at hl 3 rfl) ?_
    exact bX5_isNarrower_59 C _ hrec8 n x1 x2 x3 x4 x5 x6 x7 x3 _ hf _ _ hH hS _ (lv_sub hl [0, 1, 2, 3, 4, 5, 6, 7] rfl)
  · rw [if_neg hq1] at hf
    refine lv_iload_n hx hb dX5_isNarrower_52 rfl (lv_at hl 3 rfl) ?_
    refine lv_iconst (v := (1 : Int32)) hx hb dX5_isNarrower_53 (by decide) ?_
    refine lv_iadd hx hb dX5_isNarrower_54 ?_
    refine lv_goto (tgt := 59) hx hb dX5_isNarrower_55 (by decide) ?_
    exact bX5_isNarrower_59 C _ hrec8 n x1 x2 x3 x4 x5 x6 x7 (x3 + (1 : Int32)) _ hf _ _ hH hS _ (lv_sub hl [0, 1, 2, 3, 4, 5, 6, 7] rfl)
set_option maxHeartbeats 4000000 in
set_option maxRecDepth 100000 in
theorem bX5_isNarrower_8 {p : Program} {l : Launch} {e : Env} {s : State} {m : MethodId} {args : Array Value} {below : List Frame} {meth : Method} {c : Code} {D : va_G} {ca : Nat → ClassId} {ad : Nat → Nat → Nat} {b0 : Nat} {o : Int32 × oa_M} (C : oa_Cx p s m args meth c cX5_isNarrower 8 (some .boolean) RX5 D ca b0 ad) : ∀ (n : Nat), ∀ (x1 : Int32) (x2 : Int32) (x3 : Int32) (x4 : Int32) (x5 : Int32) (M : oa_M), BX5_isNarrower_8 n x1 x2 x3 x4 x5 M = some o → ∀ (H : Heap) (locs : List Loc), oa_H D ca ad M H → va_S (fun q => b0 ≤ q) s.heap H locs → ∀ (ls : Array Slot), lv_has ls 8 [(0, .ref (ad 20 0)), (1, .int x1), (2, .int x2), (3, .int x3), (4, .int x4), (5, .int x5)] → W p l e ({ frames := 1, cells := 0, slots := 0, locals := 22 } : Room) s m args below meth c H locs 0 0 (MQ below (va_Qi (fun (r' : Int32) (u : oa_M) => r' = o.1 ∧ u = o.2) (fun u t => oa_H D ca ad u t.heap) (fun q => b0 ≤ q)) args s 0 0 (fun q => b0 ≤ q)) (F0 m 8 ls []) := by
  obtain ⟨hx, hb, hml, hr, hlocks, hown, hts, hE, hw⟩ := id C
  intro n
  induction n with
  | zero => intro x1 x2 x3 x4 x5 M hf; cases hf
  | succ n ih =>
    intro x1 x2 x3 x4 x5 M hf H locs hH hS ls hl
    have hrec8 := ih
    unfold BX5_isNarrower_8 at hf
    refine lv_iload hx hb dX5_isNarrower_8 (lv_at hl 5 rfl) ?_
    refine lv_bipush (v := (24 : Int32)) hx hb dX5_isNarrower_10 (by decide) ?_
    refine lv_icmp_ge (tgt := 82) hx hb dX5_isNarrower_12 (by decide) (fun hq1 => ?_) (fun hq1 => ?_)
    · rw [if_pos hq1] at hf
      refine lv_iload_n hx hb dX5_isNarrower_82 rfl (lv_at hl 3 rfl) ?_
      refine lv_iload hx hb dX5_isNarrower_83 (lv_at hl 4 rfl) ?_
      refine lv_icmp_gt (tgt := 109) hx hb dX5_isNarrower_85 (by decide) (fun hq2 => ?_) (fun hq2 => ?_)
      · rw [if_pos hq2] at hf
        exact bX5_isNarrower_109 C n x1 x2 x3 x4 x5 _ hf _ _ hH hS _ (lv_sub hl [0, 1, 2, 3, 4, 5] rfl)
      · rw [if_neg hq2] at hf
        refine lv_iload_n hx hb dX5_isNarrower_88 rfl (lv_at hl 3 rfl) ?_
        refine lv_iload hx hb dX5_isNarrower_89 (lv_at hl 4 rfl) ?_
        refine lv_icmp_ne (tgt := 113) hx hb dX5_isNarrower_91 (by decide) (fun hq3 => ?_) (fun hq3 => ?_)
        · rw [if_neg hq3] at hf
          exact bX5_isNarrower_113 C n x1 x2 x3 x4 x5 _ hf _ _ hH hS _ (lv_sub hl [0, 1, 2, 3, 4, 5] rfl)
        · rw [if_pos hq3] at hf
          refine lv_aload_n hx hb dX5_isNarrower_94 rfl (lv_at hl 0 rfl) ?_
          refine oa_get (ci := 5) (C := RX5) (T := TX5) (N := 31) (v := .ref (ad 26 0)) hx hb hts inX5 hown hE hH 20 0 (by decide) rfl rfl 6 (by decide) (hts _ tw_621) rfl dX5_isNarrower_95 ?_
          refine lv_iload_n hx hb dX5_isNarrower_98 rfl (lv_at hl 1 rfl) ?_
          obtain ⟨hk4, hf⟩ := oa_ck hf
          refine oa_ild (v := (M 26 0 x1.toNatClampNeg)) hx hb hE hH 26 0 (by decide) 12 rfl rfl (oa_in_vp hk4) dX5_isNarrower_99 ?_
          refine lv_aload_n hx hb dX5_isNarrower_100 rfl (lv_at hl 0 rfl) ?_
          refine oa_get (ci := 5) (C := RX5) (T := TX5) (N := 31) (v := .ref (ad 26 0)) hx hb hts inX5 hown hE hH 20 0 (by decide) rfl rfl 6 (by decide) (hts _ tw_621) rfl dX5_isNarrower_101 ?_
          refine lv_iload_n hx hb dX5_isNarrower_104 rfl (lv_at hl 2 rfl) ?_
          obtain ⟨hk5, hf⟩ := oa_ck hf
          refine oa_ild (v := (M 26 0 x2.toNatClampNeg)) hx hb hE hH 26 0 (by decide) 12 rfl rfl (oa_in_vp hk5) dX5_isNarrower_105 ?_
          refine lv_icmp_le (tgt := 113) hx hb dX5_isNarrower_106 (by decide) (fun hq6 => ?_) (fun hq6 => ?_)
          · rw [if_pos hq6] at hf
            exact bX5_isNarrower_113 C n x1 x2 x3 x4 x5 _ hf _ _ hH hS _ (lv_sub hl [0, 1, 2, 3, 4, 5] rfl)
          · rw [if_neg hq6] at hf
            exact bX5_isNarrower_109 C n x1 x2 x3 x4 x5 _ hf _ _ hH hS _ (lv_sub hl [0, 1, 2, 3, 4, 5] rfl)
    · rw [if_neg hq1] at hf
      refine lv_aload_n hx hb dX5_isNarrower_15 rfl (lv_at hl 0 rfl) ?_
      refine lv_iload_n hx hb dX5_isNarrower_16 rfl (lv_at hl 1 rfl) ?_
      refine lv_iload hx hb dX5_isNarrower_17 (lv_at hl 5 rfl) ?_
      obtain ⟨r7, M8, hc9, hf⟩ := oa_bdE hf
      refine oa_cvi (As := [.int x1, .int x5]) (rest := []) ⟨hx, hb, hml, hown, hts⟩ (cX5_fixed_ok l D ca ad b0 hw n x1 x5 _ _ _ hc9) (cwV 2 hts (oa_gV tw_764 tw_766 tw_27 tw_49 tw_767) rfl rfl rfl (by decide +kernel) ⟨Nat.le_of_ble_eq_true rfl, Nat.le_of_ble_eq_true rfl⟩) hE hH hS (oa_recv (k := 20) (ci := 5) hE hH (by decide) rfl rfl) rfl hl.1 rfl (Nat.le_of_ble_eq_true rfl) dX5_isNarrower_19 ⟨by decide, by decide⟩ (fun H locs hH hS => ?_)
      refine lv_istore (lv' := [(6, .int r7), (0, .ref (ad 20 0)), (1, .int x1), (2, .int x2), (3, .int x3), (4, .int x4), (5, .int x5)]) hx hb dX5_isNarrower_22 hl (by decide) rfl (fun ls hl => ?_)
      refine lv_aload_n hx hb dX5_isNarrower_24 rfl (lv_at hl 1 rfl) ?_
      refine lv_iload_n hx hb dX5_isNarrower_25 rfl (lv_at hl 3 rfl) ?_
      refine lv_iload hx hb dX5_isNarrower_26 (lv_at hl 6 rfl) ?_
      obtain ⟨r10, M11, hc12, hf⟩ := oa_bdE hf
      refine oa_cvi (As := [.int x2, .int x5]) (rest := []) ⟨hx, hb, hml, hown, hts⟩ (cX5_fixed_ok l D ca ad b0 hw n x2 x5 _ _ _ hc12) (cwV 2 hts (oa_gV tw_764 tw_766 tw_27 tw_49 tw_767) rfl rfl rfl (by decide +kernel) ⟨Nat.le_of_ble_eq_true rfl, Nat.le_of_ble_eq_true rfl⟩) hE hH hS (oa_recv (k := 20) (ci := 5) hE hH (by decide) rfl rfl) rfl hl.1 rfl (Nat.le_of_ble_eq_true rfl) dX5_isNarrower_28 ⟨by decide, by decide⟩ (fun H locs hH hS => ?_)
      refine lv_istore (lv' := [(7, .int r10), (6, .int r7), (0, .ref (ad 20 0)), (1, .int x1), (2, .int x2), (3, .int x3), (4, .int x4), (5, .int x5)]) hx hb dX5_isNarrower_31 hl (by decide) rfl (fun ls hl => ?_)
      refine lv_iload hx hb dX5_isNarrower_33 (lv_at hl 0 rfl) ?_
      refine lv_if_lt (tgt := 47) hx hb dX5_isNarrower_35 (by decide) (fun hq13 => ?_) (fun hq13 => ?_)
      · rw [if_pos hq13] at hf
        exact bX5_isNarrower_47 C _ hrec8 n x1 x2 x3 x4 x5 r7 r10 _ hf _ _ hH hS _ (lv_sub hl [2, 3, 4, 5, 6, 7, 1, 0] rfl)
      · rw [if_neg hq13] at hf
        refine lv_iload hx hb dX5_isNarrower_38 (lv_at hl 1 rfl) ?_
        refine lv_iload hx hb dX5_isNarrower_40 (lv_at hl 0 rfl) ?_
        refine lv_icmp_eq (tgt := 47) hx hb dX5_isNarrower_42 (by decide) (fun hq14 => ?_) (fun hq14 => ?_)
        · rw [if_pos hq14] at hf
          exact bX5_isNarrower_47 C _ hrec8 n x1 x2 x3 x4 x5 r7 r10 _ hf _ _ hH hS _ (lv_sub hl [2, 3, 4, 5, 6, 7, 1, 0] rfl)
        · rw [if_neg hq14] at hf
          refine lv_iconst (v := (0 : Int32)) hx hb dX5_isNarrower_45 (by decide) ?_
          cases hf
          exact oa_reti hx hb hr hlocks rfl hS hH dX5_isNarrower_46
set_option maxHeartbeats 4000000 in
set_option maxRecDepth 100000 in
theorem cX5_isNarrower_k (l : Launch) (D : va_G) (ca : Nat → ClassId) (ad : Nat → Nat → Nat) (b0 : Nat) (hw : oa_W ad b0) (n : Nat) (x1 : Int32) (x2 : Int32) (M : oa_M) (o : Int32 × oa_M) (hf : FX5_isNarrower n x1 x2 M = some o) : oa_Mi l yX5_isNarrower (oa_w yX5_isNarrower cX5_isNarrower 8 (some .boolean)) ({ frames := 1, cells := 0, slots := 0, locals := 22 } : Room) D ca ad b0 [.ref (ad 20 0), .int x1, .int x2] M o.1 o.2 := by
  refine oa_ofW (cc := cX5_isNarrower) (maxL := 8) (ret := some .boolean) (by decide) rfl (Nat.le_of_ble_eq_true rfl) ?_
  intro p e s m below meth c hx hb hml hr hlocks hown hts0 hP ls hl
  obtain ⟨hH, hE⟩ := hP
  have hts : ∀ w ∈ oa_T, w.before _ s = true := fun w h => hts0 w (List.mem_cons_of_mem _ h)
  have hS : va_S (fun q => b0 ≤ q) s.heap s.heap [] := va_S.rf
  have C : oa_Cx p s m _ meth c cX5_isNarrower 8 (some .boolean) RX5 D ca b0 ad := ⟨hx, hb, hml, hr, hlocks, hown, hts, hE, hw⟩
  have hl : lv_has ls 8 [(0, .ref (ad 20 0)), (1, .int x1), (2, .int x2)] := hl
  unfold FX5_isNarrower at hf
  refine lv_iconst (v := (0 : Int32)) hx hb dX5_isNarrower_0 (by decide) ?_
  refine lv_istore_n (lv' := [(3, .int (0 : Int32)), (0, .ref (ad 20 0)), (1, .int x1), (2, .int x2)]) hx hb dX5_isNarrower_1 rfl hl (by decide) rfl (fun ls hl => ?_)
  refine lv_iconst (v := (0 : Int32)) hx hb dX5_isNarrower_2 (by decide) ?_
  refine lv_istore (lv' := [(4, .int (0 : Int32)), (3, .int (0 : Int32)), (0, .ref (ad 20 0)), (1, .int x1), (2, .int x2)]) hx hb dX5_isNarrower_3 hl (by decide) rfl (fun ls hl => ?_)
  refine lv_iconst (v := (0 : Int32)) hx hb dX5_isNarrower_5 (by decide) ?_
  refine lv_istore (lv' := [(5, .int (0 : Int32)), (4, .int (0 : Int32)), (3, .int (0 : Int32)), (0, .ref (ad 20 0)), (1, .int x1), (2, .int x2)]) hx hb dX5_isNarrower_6 hl (by decide) rfl (fun ls hl => ?_)
  exact bX5_isNarrower_8 C n x1 x2 (0 : Int32) (0 : Int32) (0 : Int32) _ hf _ _ hH hS _ (lv_sub hl [3, 4, 5, 2, 1, 0] rfl)
theorem cX5_isNarrower_ok (l : Launch) (D : va_G) (ca : Nat → ClassId) (ad : Nat → Nat → Nat) (b0 : Nat) (hw : oa_W ad b0) (n : Nat) (x1 : Int32) (x2 : Int32) (M : oa_M) (r : Int32) (M' : oa_M) (hf : FX5_isNarrower n x1 x2 M = some (r, M')) : oa_Mi l yX5_isNarrower (oa_w yX5_isNarrower cX5_isNarrower 8 (some .boolean)) ({ frames := 1, cells := 0, slots := 0, locals := 22 } : Room) D ca ad b0 [.ref (ad 20 0), .int x1, .int x2] M r M' := cX5_isNarrower_k l D ca ad b0 hw n x1 x2 M (r, M') hf
def BX5_clash_72 (n : Nat) (x1 : Int32) (x2 : Int32) (x3 : Int32) (z0 : Int32) (M : oa_M) : Option (Int32 × oa_M) := (some (oa_nz z0, M))
def BX5_clash_71 (n : Nat) (x1 : Int32) (x2 : Int32) (x3 : Int32) (M : oa_M) : Option (Int32 × oa_M) := (BX5_clash_72 n x1 x2 x3 (0 : Int32) M)
def BX5_clash_43 (rec2 : Int32 → Int32 → Int32 → oa_M → Option (Int32 × oa_M)) (n : Nat) (x1 : Int32) (x2 : Int32) (x3 : Int32) (x4 : Int32) (x5 : Int32) (M : oa_M) : Option (Int32 × oa_M) := (rec2 x1 x2 (x3 + (1 : Int32)) M)
def BX5_clash_2 : Nat → Int32 → Int32 → Int32 → oa_M → Option (Int32 × oa_M)
  | 0, _, _, _, _ => none
  | n + 1, x1, x2, x3, M => (if (24 : Int32) ≤ x3 then (oa_bd (FX5_isNarrower n x1 x2 M) (fun r2 M3 => (if r2 = 0 then (oa_bd (FX5_isNarrower n x2 x1 M3) (fun r6 M7 => (if r6 = 0 then (BX5_clash_72 n x1 x2 x3 (1 : Int32) M7) else (BX5_clash_71 n x1 x2 x3 M7)))) else (BX5_clash_71 n x1 x2 x3 M3)))) else (oa_bd (FX5_fixed n x1 x3 M) (fun r10 M11 => (oa_bd (FX5_fixed n x2 x3 M11) (fun r13 M14 => (if r10 < 0 then (BX5_clash_43 (BX5_clash_2 n) n x1 x2 x3 r10 r13 M14) else (if r13 < 0 then (BX5_clash_43 (BX5_clash_2 n) n x1 x2 x3 r10 r13 M14) else (if r10 = r13 then (BX5_clash_43 (BX5_clash_2 n) n x1 x2 x3 r10 r13 M14) else (some ((0 : Int32), M14))))))))))
def FX5_clash (n : Nat) (x1 : Int32) (x2 : Int32) (M : oa_M) : Option (Int32 × oa_M) := (BX5_clash_2 n x1 x2 (0 : Int32) M)
set_option maxHeartbeats 4000000 in
set_option maxRecDepth 100000 in
theorem bX5_clash_72 {p : Program} {l : Launch} {e : Env} {s : State} {m : MethodId} {args : Array Value} {below : List Frame} {meth : Method} {c : Code} {D : va_G} {ca : Nat → ClassId} {ad : Nat → Nat → Nat} {b0 : Nat} {o : Int32 × oa_M} (C : oa_Cx p s m args meth c cX5_clash 6 (some .boolean) RX5 D ca b0 ad) : ∀ (n : Nat), ∀ (x1 : Int32) (x2 : Int32) (x3 : Int32) (z0 : Int32) (M : oa_M), BX5_clash_72 n x1 x2 x3 z0 M = some o → ∀ (H : Heap) (locs : List Loc), oa_H D ca ad M H → va_S (fun q => b0 ≤ q) s.heap H locs → ∀ (ls : Array Slot), lv_has ls 6 [(0, .ref (ad 20 0)), (1, .int x1), (2, .int x2), (3, .int x3)] → W p l e ({ frames := 2, cells := 0, slots := 0, locals := 49 } : Room) s m args below meth c H locs 0 0 (MQ below (va_Qi (fun (r' : Int32) (u : oa_M) => r' = o.1 ∧ u = o.2) (fun u t => oa_H D ca ad u t.heap) (fun q => b0 ≤ q)) args s 0 0 (fun q => b0 ≤ q)) (F0 m 72 ls [.int z0]) := by
  obtain ⟨hx, hb, hml, hr, hlocks, hown, hts, hE, hw⟩ := id C
  intro n x1 x2 x3 z0 M hf H locs hH hS ls hl
  unfold BX5_clash_72 at hf
  cases hf
  exact oa_reti hx hb hr hlocks rfl hS hH dX5_clash_72
set_option maxHeartbeats 4000000 in
set_option maxRecDepth 100000 in
theorem bX5_clash_71 {p : Program} {l : Launch} {e : Env} {s : State} {m : MethodId} {args : Array Value} {below : List Frame} {meth : Method} {c : Code} {D : va_G} {ca : Nat → ClassId} {ad : Nat → Nat → Nat} {b0 : Nat} {o : Int32 × oa_M} (C : oa_Cx p s m args meth c cX5_clash 6 (some .boolean) RX5 D ca b0 ad) : ∀ (n : Nat), ∀ (x1 : Int32) (x2 : Int32) (x3 : Int32) (M : oa_M), BX5_clash_71 n x1 x2 x3 M = some o → ∀ (H : Heap) (locs : List Loc), oa_H D ca ad M H → va_S (fun q => b0 ≤ q) s.heap H locs → ∀ (ls : Array Slot), lv_has ls 6 [(0, .ref (ad 20 0)), (1, .int x1), (2, .int x2), (3, .int x3)] → W p l e ({ frames := 2, cells := 0, slots := 0, locals := 49 } : Room) s m args below meth c H locs 0 0 (MQ below (va_Qi (fun (r' : Int32) (u : oa_M) => r' = o.1 ∧ u = o.2) (fun u t => oa_H D ca ad u t.heap) (fun q => b0 ≤ q)) args s 0 0 (fun q => b0 ≤ q)) (F0 m 71 ls []) := by
  obtain ⟨hx, hb, hml, hr, hlocks, hown, hts, hE, hw⟩ := id C
  intro n x1 x2 x3 M hf H locs hH hS ls hl
  unfold BX5_clash_71 at hf
  refine lv_iconst (v := (0 : Int32)) hx hb dX5_clash_71 (by decide) ?_
  exact bX5_clash_72 C n x1 x2 x3 (0 : Int32) _ hf _ _ hH hS _ (lv_sub hl [0, 1, 2, 3] rfl)
set_option maxHeartbeats 4000000 in
set_option maxRecDepth 100000 in
theorem bX5_clash_43 {p : Program} {l : Launch} {e : Env} {s : State} {m : MethodId} {args : Array Value} {below : List Frame} {meth : Method} {c : Code} {D : va_G} {ca : Nat → ClassId} {ad : Nat → Nat → Nat} {b0 : Nat} {o : Int32 × oa_M} (C : oa_Cx p s m args meth c cX5_clash 6 (some .boolean) RX5 D ca b0 ad) (rec2 : Int32 → Int32 → Int32 → oa_M → Option (Int32 × oa_M)) (hrec2 : ∀ (x1 : Int32) (x2 : Int32) (x3 : Int32) (M : oa_M), rec2 x1 x2 x3 M = some o → ∀ (H : Heap) (locs : List Loc), oa_H D ca ad M H → va_S (fun q => b0 ≤ q) s.heap H locs → ∀ (ls : Array Slot), lv_has ls 6 [(0, .ref (ad 20 0)), (1, .int x1), (2, .int x2), (3, .int x3)] → W p l e ({ frames := 2, cells := 0, slots := 0, locals := 49 } : Room) s m args below meth c H locs 0 0 (MQ below (va_Qi (fun (r' : Int32) (u : oa_M) => r' = o.1 ∧ u = o.2) (fun u t => oa_H D ca ad u t.heap) (fun q => b0 ≤ q)) args s 0 0 (fun q => b0 ≤ q)) (F0 m 2 ls [])) : ∀ (n : Nat), ∀ (x1 : Int32) (x2 : Int32) (x3 : Int32) (x4 : Int32) (x5 : Int32) (M : oa_M), BX5_clash_43 rec2 n x1 x2 x3 x4 x5 M = some o → ∀ (H : Heap) (locs : List Loc), oa_H D ca ad M H → va_S (fun q => b0 ≤ q) s.heap H locs → ∀ (ls : Array Slot), lv_has ls 6 [(0, .ref (ad 20 0)), (1, .int x1), (2, .int x2), (3, .int x3), (4, .int x4), (5, .int x5)] → W p l e ({ frames := 2, cells := 0, slots := 0, locals := 49 } : Room) s m args below meth c H locs 0 0 (MQ below (va_Qi (fun (r' : Int32) (u : oa_M) => r' = o.1 ∧ u = o.2) (fun u t => oa_H D ca ad u t.heap) (fun q => b0 ≤ q)) args s 0 0 (fun q => b0 ≤ q)) (F0 m 43 ls []) := by
  obtain ⟨hx, hb, hml, hr, hlocks, hown, hts, hE, hw⟩ := id C
  intro n x1 x2 x3 x4 x5 M hf H locs hH hS ls hl
  unfold BX5_clash_43 at hf
  refine lv_iinc (v := (x3 + (1 : Int32))) (lv' := [(3, .int (x3 + (1 : Int32))), (0, .ref (ad 20 0)), (1, .int x1), (2, .int x2), (4, .int x4), (5, .int x5)]) hx hb dX5_clash_43 hl (k := 3) rfl rfl (by decide) rfl (fun ls hl => ?_)
  refine lv_goto (tgt := 2) hx hb dX5_clash_46 (by decide) ?_
  exact hrec2 x1 x2 (x3 + (1 : Int32)) _ hf _ _ hH hS _ (lv_sub hl [1, 2, 3, 0] rfl)
set_option maxHeartbeats 4000000 in
set_option maxRecDepth 100000 in
theorem bX5_clash_2 {p : Program} {l : Launch} {e : Env} {s : State} {m : MethodId} {args : Array Value} {below : List Frame} {meth : Method} {c : Code} {D : va_G} {ca : Nat → ClassId} {ad : Nat → Nat → Nat} {b0 : Nat} {o : Int32 × oa_M} (C : oa_Cx p s m args meth c cX5_clash 6 (some .boolean) RX5 D ca b0 ad) : ∀ (n : Nat), ∀ (x1 : Int32) (x2 : Int32) (x3 : Int32) (M : oa_M), BX5_clash_2 n x1 x2 x3 M = some o → ∀ (H : Heap) (locs : List Loc), oa_H D ca ad M H → va_S (fun q => b0 ≤ q) s.heap H locs → ∀ (ls : Array Slot), lv_has ls 6 [(0, .ref (ad 20 0)), (1, .int x1), (2, .int x2), (3, .int x3)] → W p l e ({ frames := 2, cells := 0, slots := 0, locals := 49 } : Room) s m args below meth c H locs 0 0 (MQ below (va_Qi (fun (r' : Int32) (u : oa_M) => r' = o.1 ∧ u = o.2) (fun u t => oa_H D ca ad u t.heap) (fun q => b0 ≤ q)) args s 0 0 (fun q => b0 ≤ q)) (F0 m 2 ls []) := by
  obtain ⟨hx, hb, hml, hr, hlocks, hown, hts, hE, hw⟩ := id C
  intro n
  induction n with
  | zero => intro x1 x2 x3 M hf; cases hf
  | succ n ih =>
    intro x1 x2 x3 M hf H locs hH hS ls hl
    have hrec2 := ih
    unfold BX5_clash_2 at hf
    refine lv_iload_n hx hb dX5_clash_2 rfl (lv_at hl 3 rfl) ?_
    refine lv_bipush (v := (24 : Int32)) hx hb dX5_clash_3 (by decide) ?_
    refine lv_icmp_ge (tgt := 49) hx hb dX5_clash_5 (by decide) (fun hq1 => ?_) (fun hq1 => ?_)
    · rw [if_pos hq1] at hf
      refine lv_aload_n hx hb dX5_clash_49 rfl (lv_at hl 0 rfl) ?_
      refine lv_iload_n hx hb dX5_clash_50 rfl (lv_at hl 1 rfl) ?_
      refine lv_iload_n hx hb dX5_clash_51 rfl (lv_at hl 2 rfl) ?_
      obtain ⟨r2, M3, hc4, hf⟩ := oa_bdE hf
      refine oa_cvi (As := [.int x1, .int x2]) (rest := []) ⟨hx, hb, hml, hown, hts⟩ (cX5_isNarrower_ok l D ca ad b0 hw n x1 x2 _ _ _ hc4) (cwV 2 hts (oa_gV tw_768 tw_770 tw_28 tw_49 tw_771) rfl rfl rfl (by decide +kernel) ⟨Nat.le_of_ble_eq_true rfl, Nat.le_of_ble_eq_true rfl⟩) hE hH hS (oa_recv (k := 20) (ci := 5) hE hH (by decide) rfl rfl) rfl hl.1 rfl (Nat.le_of_ble_eq_true rfl) dX5_clash_52 ⟨by decide, by decide⟩ (fun H locs hH hS => ?_)
      refine lv_if_ne (tgt := 71) hx hb dX5_clash_55 (by decide) (fun hq5 => ?_) (fun hq5 => ?_)
      · rw [if_neg hq5] at hf
        exact bX5_clash_71 C n x1 x2 x3 _ hf _ _ hH hS _ (lv_sub hl [0, 1, 2, 3] rfl)
      · rw [if_pos hq5] at hf
        refine lv_aload_n hx hb dX5_clash_58 rfl (lv_at hl 0 rfl) ?_
        refine lv_iload_n hx hb dX5_clash_59 rfl (lv_at hl 2 rfl) ?_
        refine lv_iload_n hx hb dX5_clash_60 rfl (lv_at hl 1 rfl) ?_
        obtain ⟨r6, M7, hc8, hf⟩ := oa_bdE hf
        refine oa_cvi (As := [.int x2, .int x1]) (rest := []) ⟨hx, hb, hml, hown, hts⟩ (cX5_isNarrower_ok l D ca ad b0 hw n x2 x1 _ _ _ hc8) (cwV 2 hts (oa_gV tw_768 tw_770 tw_28 tw_49 tw_771) rfl rfl rfl (by decide +kernel) ⟨Nat.le_of_ble_eq_true rfl, Nat.le_of_ble_eq_true rfl⟩) hE hH hS (oa_recv (k := 20) (ci := 5) hE hH (by decide) rfl rfl) rfl hl.1 rfl (Nat.le_of_ble_eq_true rfl) dX5_clash_61 ⟨by decide, by decide⟩ (fun H locs hH hS => ?_)
        refine lv_if_ne (tgt := 71) hx hb dX5_clash_64 (by decide) (fun hq9 => ?_) (fun hq9 => ?_)
        · rw [if_neg hq9] at hf
          exact bX5_clash_71 C n x1 x2 x3 _ hf _ _ hH hS _ (lv_sub hl [0, 1, 2, 3] rfl)
        · rw [if_pos hq9] at hf
          refine lv_iconst (v := (1 : Int32)) hx hb dX5_clash_67 (by decide) ?_
          refine lv_goto (tgt := 72) hx hb dX5_clash_68 (by decide) ?_
          exact bX5_clash_72 C n x1 x2 x3 (1 : Int32) _ hf _ _ hH hS _ (lv_sub hl [0, 1, 2, 3] rfl)
    · rw [if_neg hq1] at hf
      refine lv_aload_n hx hb dX5_clash_8 rfl (lv_at hl 0 rfl) ?_
      refine lv_iload_n hx hb dX5_clash_9 rfl (lv_at hl 1 rfl) ?_
      refine lv_iload_n hx hb dX5_clash_10 rfl (lv_at hl 3 rfl) ?_
      obtain ⟨r10, M11, hc12, hf⟩ := oa_bdE hf
      refine oa_cvi (As := [.int x1, .int x3]) (rest := []) ⟨hx, hb, hml, hown, hts⟩ (cX5_fixed_ok l D ca ad b0 hw n x1 x3 _ _ _ hc12) (cwV 2 hts (oa_gV tw_764 tw_766 tw_27 tw_49 tw_767) rfl rfl rfl (by decide +kernel) ⟨Nat.le_of_ble_eq_true rfl, Nat.le_of_ble_eq_true rfl⟩) hE hH hS (oa_recv (k := 20) (ci := 5) hE hH (by decide) rfl rfl) rfl hl.1 rfl (Nat.le_of_ble_eq_true rfl) dX5_clash_11 ⟨by decide, by decide⟩ (fun H locs hH hS => ?_)
      refine lv_istore (lv' := [(4, .int r10), (0, .ref (ad 20 0)), (1, .int x1), (2, .int x2), (3, .int x3)]) hx hb dX5_clash_14 hl (by decide) rfl (fun ls hl => ?_)
      refine lv_aload_n hx hb dX5_clash_16 rfl (lv_at hl 1 rfl) ?_
      refine lv_iload_n hx hb dX5_clash_17 rfl (lv_at hl 3 rfl) ?_
      refine lv_iload_n hx hb dX5_clash_18 rfl (lv_at hl 4 rfl) ?_
      obtain ⟨r13, M14, hc15, hf⟩ := oa_bdE hf
      refine oa_cvi (As := [.int x2, .int x3]) (rest := []) ⟨hx, hb, hml, hown, hts⟩ (cX5_fixed_ok l D ca ad b0 hw n x2 x3 _ _ _ hc15) (cwV 2 hts (oa_gV tw_764 tw_766 tw_27 tw_49 tw_767) rfl rfl rfl (by decide +kernel) ⟨Nat.le_of_ble_eq_true rfl, Nat.le_of_ble_eq_true rfl⟩) hE hH hS (oa_recv (k := 20) (ci := 5) hE hH (by decide) rfl rfl) rfl hl.1 rfl (Nat.le_of_ble_eq_true rfl) dX5_clash_19 ⟨by decide, by decide⟩ (fun H locs hH hS => ?_)
      refine lv_istore (lv' := [(5, .int r13), (4, .int r10), (0, .ref (ad 20 0)), (1, .int x1), (2, .int x2), (3, .int x3)]) hx hb dX5_clash_22 hl (by decide) rfl (fun ls hl => ?_)
      refine lv_iload hx hb dX5_clash_24 (lv_at hl 1 rfl) ?_
      refine lv_if_lt (tgt := 43) hx hb dX5_clash_26 (by decide) (fun hq16 => ?_) (fun hq16 => ?_)
      · rw [if_pos hq16] at hf
        exact bX5_clash_43 C _ hrec2 n x1 x2 x3 r10 r13 _ hf _ _ hH hS _ (lv_sub hl [2, 3, 4, 5, 1, 0] rfl)
      · rw [if_neg hq16] at hf
        refine lv_iload hx hb dX5_clash_29 (lv_at hl 0 rfl) ?_
        refine lv_if_lt (tgt := 43) hx hb dX5_clash_31 (by decide) (fun hq17 => ?_) (fun hq17 => ?_)
        · rw [if_pos hq17] at hf
          exact bX5_clash_43 C _ hrec2 n x1 x2 x3 r10 r13 _ hf _ _ hH hS _ (lv_sub hl [2, 3, 4, 5, 1, 0] rfl)
        · rw [if_neg hq17] at hf
          refine lv_iload hx hb dX5_clash_34 (lv_at hl 1 rfl) ?_
          refine lv_iload hx hb dX5_clash_36 (lv_at hl 0 rfl) ?_
          refine lv_icmp_eq (tgt := 43) hx hb dX5_clash_38 (by decide) (fun hq18 => ?_) (fun hq18 => ?_)
          · rw [if_pos hq18] at hf
            exact bX5_clash_43 C _ hrec2 n x1 x2 x3 r10 r13 _ hf _ _ hH hS _ (lv_sub hl [2, 3, 4, 5, 1, 0] rfl)
          · rw [if_neg hq18] at hf
            refine lv_iconst (v := (0 : Int32)) hx hb dX5_clash_41 (by decide) ?_
            cases hf
            exact oa_reti hx hb hr hlocks rfl hS hH dX5_clash_42
set_option maxHeartbeats 4000000 in
set_option maxRecDepth 100000 in
theorem cX5_clash_k (l : Launch) (D : va_G) (ca : Nat → ClassId) (ad : Nat → Nat → Nat) (b0 : Nat) (hw : oa_W ad b0) (n : Nat) (x1 : Int32) (x2 : Int32) (M : oa_M) (o : Int32 × oa_M) (hf : FX5_clash n x1 x2 M = some o) : oa_Mi l yX5_clash (oa_w yX5_clash cX5_clash 6 (some .boolean)) ({ frames := 2, cells := 0, slots := 0, locals := 49 } : Room) D ca ad b0 [.ref (ad 20 0), .int x1, .int x2] M o.1 o.2 := by
  refine oa_ofW (cc := cX5_clash) (maxL := 6) (ret := some .boolean) (by decide) rfl (Nat.le_of_ble_eq_true rfl) ?_
  intro p e s m below meth c hx hb hml hr hlocks hown hts0 hP ls hl
  obtain ⟨hH, hE⟩ := hP
  have hts : ∀ w ∈ oa_T, w.before _ s = true := fun w h => hts0 w (List.mem_cons_of_mem _ h)
  have hS : va_S (fun q => b0 ≤ q) s.heap s.heap [] := va_S.rf
  have C : oa_Cx p s m _ meth c cX5_clash 6 (some .boolean) RX5 D ca b0 ad := ⟨hx, hb, hml, hr, hlocks, hown, hts, hE, hw⟩
  have hl : lv_has ls 6 [(0, .ref (ad 20 0)), (1, .int x1), (2, .int x2)] := hl
  unfold FX5_clash at hf
  refine lv_iconst (v := (0 : Int32)) hx hb dX5_clash_0 (by decide) ?_
  refine lv_istore_n (lv' := [(3, .int (0 : Int32)), (0, .ref (ad 20 0)), (1, .int x1), (2, .int x2)]) hx hb dX5_clash_1 rfl hl (by decide) rfl (fun ls hl => ?_)
  exact bX5_clash_2 C n x1 x2 (0 : Int32) _ hf _ _ hH hS _ (lv_sub hl [1, 2, 3, 0] rfl)
theorem cX5_clash_ok (l : Launch) (D : va_G) (ca : Nat → ClassId) (ad : Nat → Nat → Nat) (b0 : Nat) (hw : oa_W ad b0) (n : Nat) (x1 : Int32) (x2 : Int32) (M : oa_M) (r : Int32) (M' : oa_M) (hf : FX5_clash n x1 x2 M = some (r, M')) : oa_Mi l yX5_clash (oa_w yX5_clash cX5_clash 6 (some .boolean)) ({ frames := 2, cells := 0, slots := 0, locals := 49 } : Room) D ca ad b0 [.ref (ad 20 0), .int x1, .int x2] M r M' := cX5_clash_k l D ca ad b0 hw n x1 x2 M (r, M') hf
def BX5_test_24 (rec12 : Int32 → oa_M → Option (Int32 × oa_M)) : Nat → Int32 → Int32 → oa_M → Option (Int32 × oa_M)
  | 0, _, _, _ => none
  | n + 1, x1, x2, M => (if (M 20 0 4) ≤ x2 then (rec12 (x1 + (1 : Int32)) M) else (oa_bd (FX5_clash n x1 x2 M) (fun r2 M3 => (if r2 = 0 then (BX5_test_24 rec12 n x1 (x2 + (1 : Int32)) M3) else (some ((((1 : Int32) + ((16 : Int32) * x1)) + x2), M3))))))
def BX5_test_12 : Nat → Int32 → oa_M → Option (Int32 × oa_M)
  | 0, _, _ => none
  | n + 1, x1, M => (if (M 20 0 4) ≤ x1 then (some ((0 : Int32), (oa_up M 20 0 13 (1 : Int32)))) else (BX5_test_24 (BX5_test_12 n) n x1 (x1 + (1 : Int32)) M))
def FX5_test (n : Nat)  (M : oa_M) : Option (Int32 × oa_M) := (BX5_test_12 n (0 : Int32) (oa_up (oa_up M 20 0 30 (0 : Int32)) 20 0 13 (0 : Int32)))
set_option maxHeartbeats 4000000 in
set_option maxRecDepth 100000 in
theorem bX5_test_24 {p : Program} {l : Launch} {e : Env} {s : State} {m : MethodId} {args : Array Value} {below : List Frame} {meth : Method} {c : Code} {D : va_G} {ca : Nat → ClassId} {ad : Nat → Nat → Nat} {b0 : Nat} {o : Int32 × oa_M} (C : oa_Cx p s m args meth c cX5_test 3 (some .int) RX5 D ca b0 ad) (rec12 : Int32 → oa_M → Option (Int32 × oa_M)) (hrec12 : ∀ (x1 : Int32) (M : oa_M), rec12 x1 M = some o → ∀ (H : Heap) (locs : List Loc), oa_H D ca ad M H → va_S (fun q => b0 ≤ q) s.heap H locs → ∀ (ls : Array Slot), lv_has ls 3 [(0, .ref (ad 20 0)), (1, .int x1)] → W p l e ({ frames := 3, cells := 0, slots := 0, locals := 74 } : Room) s m args below meth c H locs 0 0 (MQ below (va_Qi (fun (r' : Int32) (u : oa_M) => r' = o.1 ∧ u = o.2) (fun u t => oa_H D ca ad u t.heap) (fun q => b0 ≤ q)) args s 0 0 (fun q => b0 ≤ q)) (F0 m 12 ls [])) : ∀ (n : Nat), ∀ (x1 : Int32) (x2 : Int32) (M : oa_M), BX5_test_24 rec12 n x1 x2 M = some o → ∀ (H : Heap) (locs : List Loc), oa_H D ca ad M H → va_S (fun q => b0 ≤ q) s.heap H locs → ∀ (ls : Array Slot), lv_has ls 3 [(0, .ref (ad 20 0)), (1, .int x1), (2, .int x2)] → W p l e ({ frames := 3, cells := 0, slots := 0, locals := 74 } : Room) s m args below meth c H locs 0 0 (MQ below (va_Qi (fun (r' : Int32) (u : oa_M) => r' = o.1 ∧ u = o.2) (fun u t => oa_H D ca ad u t.heap) (fun q => b0 ≤ q)) args s 0 0 (fun q => b0 ≤ q)) (F0 m 24 ls []) := by
  obtain ⟨hx, hb, hml, hr, hlocks, hown, hts, hE, hw⟩ := id C
  intro n
  induction n with
  | zero => intro x1 x2 M hf; cases hf
  | succ n ih =>
    intro x1 x2 M hf H locs hH hS ls hl
    have hrec24 := ih
    unfold BX5_test_24 at hf
    refine lv_iload_n hx hb dX5_test_24 rfl (lv_at hl 2 rfl) ?_
    refine lv_aload_n hx hb dX5_test_25 rfl (lv_at hl 0 rfl) ?_
    refine oa_get (ci := 5) (C := RX5) (T := TX5) (N := 31) (v := .int (M 20 0 4)) hx hb hts inX5 hown hE hH 20 0 (by decide) rfl rfl 4 (by decide) (hts _ tw_619) rfl dX5_test_26 ?_
    refine lv_icmp_ge (tgt := 56) hx hb dX5_test_29 (by decide) (fun hq1 => ?_) (fun hq1 => ?_)
    · rw [if_pos hq1] at hf
      refine lv_iinc (v := (x1 + (1 : Int32))) (lv' := [(1, .int (x1 + (1 : Int32))), (0, .ref (ad 20 0)), (2, .int x2)]) hx hb dX5_test_56 hl (k := 1) rfl rfl (by decide) rfl (fun ls hl => ?_)
      refine lv_goto (tgt := 12) hx hb dX5_test_59 (by decide) ?_
      exact hrec12 (x1 + (1 : Int32)) _ hf _ _ hH hS _ (lv_sub hl [1, 0] rfl)
    · rw [if_neg hq1] at hf
      refine lv_aload_n hx hb dX5_test_32 rfl (lv_at hl 0 rfl) ?_
      refine lv_iload_n hx hb dX5_test_33 rfl (lv_at hl 1 rfl) ?_
      refine lv_iload_n hx hb dX5_test_34 rfl (lv_at hl 2 rfl) ?_
      obtain ⟨r2, M3, hc4, hf⟩ := oa_bdE hf
      refine oa_cvi (As := [.int x1, .int x2]) (rest := []) ⟨hx, hb, hml, hown, hts⟩ (cX5_clash_ok l D ca ad b0 hw n x1 x2 _ _ _ hc4) (cwV 2 hts (oa_gV tw_760 tw_762 tw_26 tw_49 tw_763) rfl rfl rfl (by decide +kernel) ⟨Nat.le_of_ble_eq_true rfl, Nat.le_of_ble_eq_true rfl⟩) hE hH hS (oa_recv (k := 20) (ci := 5) hE hH (by decide) rfl rfl) rfl hl.1 rfl (Nat.le_of_ble_eq_true rfl) dX5_test_35 ⟨by decide, by decide⟩ (fun H locs hH hS => ?_)
      refine lv_if_eq (tgt := 50) hx hb dX5_test_38 (by decide) (fun hq5 => ?_) (fun hq5 => ?_)
      · rw [if_pos hq5] at hf
        refine lv_iinc (v := (x2 + (1 : Int32))) (lv' := [(2, .int (x2 + (1 : Int32))), (0, .ref (ad 20 0)), (1, .int x1)]) hx hb dX5_test_50 hl (k := 2) rfl rfl (by decide) rfl (fun ls hl => ?_)
        refine lv_goto (tgt := 24) hx hb dX5_test_53 (by decide) ?_
        exact hrec24 x1 (x2 + (1 : Int32)) _ hf _ _ hH hS _ (lv_sub hl [1, 2, 0] rfl)
      · rw [if_neg hq5] at hf
        refine lv_iconst (v := (1 : Int32)) hx hb dX5_test_41 (by decide) ?_
        refine lv_bipush (v := (16 : Int32)) hx hb dX5_test_42 (by decide) ?_
        refine lv_iload_n hx hb dX5_test_44 rfl (lv_at hl 1 rfl) ?_
        refine lv_imul hx hb dX5_test_45 ?_
        refine lv_iadd hx hb dX5_test_46 ?_
        refine lv_iload_n hx hb dX5_test_47 rfl (lv_at hl 2 rfl) ?_
        refine lv_iadd hx hb dX5_test_48 ?_
        cases hf
        exact oa_reti hx hb hr hlocks rfl hS hH dX5_test_49
set_option maxHeartbeats 4000000 in
set_option maxRecDepth 100000 in
theorem bX5_test_12 {p : Program} {l : Launch} {e : Env} {s : State} {m : MethodId} {args : Array Value} {below : List Frame} {meth : Method} {c : Code} {D : va_G} {ca : Nat → ClassId} {ad : Nat → Nat → Nat} {b0 : Nat} {o : Int32 × oa_M} (C : oa_Cx p s m args meth c cX5_test 3 (some .int) RX5 D ca b0 ad) : ∀ (n : Nat), ∀ (x1 : Int32) (M : oa_M), BX5_test_12 n x1 M = some o → ∀ (H : Heap) (locs : List Loc), oa_H D ca ad M H → va_S (fun q => b0 ≤ q) s.heap H locs → ∀ (ls : Array Slot), lv_has ls 3 [(0, .ref (ad 20 0)), (1, .int x1)] → W p l e ({ frames := 3, cells := 0, slots := 0, locals := 74 } : Room) s m args below meth c H locs 0 0 (MQ below (va_Qi (fun (r' : Int32) (u : oa_M) => r' = o.1 ∧ u = o.2) (fun u t => oa_H D ca ad u t.heap) (fun q => b0 ≤ q)) args s 0 0 (fun q => b0 ≤ q)) (F0 m 12 ls []) := by
  obtain ⟨hx, hb, hml, hr, hlocks, hown, hts, hE, hw⟩ := id C
  intro n
  induction n with
  | zero => intro x1 M hf; cases hf
  | succ n ih =>
    intro x1 M hf H locs hH hS ls hl
    have hrec12 := ih
    unfold BX5_test_12 at hf
    refine lv_iload_n hx hb dX5_test_12 rfl (lv_at hl 1 rfl) ?_
    refine lv_aload_n hx hb dX5_test_13 rfl (lv_at hl 0 rfl) ?_
    refine oa_get (ci := 5) (C := RX5) (T := TX5) (N := 31) (v := .int (M 20 0 4)) hx hb hts inX5 hown hE hH 20 0 (by decide) rfl rfl 4 (by decide) (hts _ tw_619) rfl dX5_test_14 ?_
    refine lv_icmp_ge (tgt := 62) hx hb dX5_test_17 (by decide) (fun hq1 => ?_) (fun hq1 => ?_)
    · rw [if_pos hq1] at hf
      refine lv_aload_n hx hb dX5_test_62 rfl (lv_at hl 0 rfl) ?_
      refine lv_iconst (v := (1 : Int32)) hx hb dX5_test_63 (by decide) ?_
      refine oa_put (ci := 5) (C := RX5) (T := TX5) (N := 31) (v := .int (1 : Int32)) (x := (1 : Int32)) hx hb hts inX5 tyX5 tyX5_ok nmX5 hown hE hw hH hS 20 0 (by decide) rfl rfl 13 (by decide) (hts _ tw_628) rfl rfl (by decide) (Nat.le_of_ble_eq_true rfl) rfl dX5_test_64 (fun H locs hH hS => ?_)
      refine lv_iconst (v := (0 : Int32)) hx hb dX5_test_67 (by decide) ?_
      cases hf
      exact oa_reti hx hb hr hlocks rfl hS hH dX5_test_68
    · rw [if_neg hq1] at hf
      refine lv_iload_n hx hb dX5_test_20 rfl (lv_at hl 1 rfl) ?_
      refine lv_iconst (v := (1 : Int32)) hx hb dX5_test_21 (by decide) ?_
      refine lv_iadd hx hb dX5_test_22 ?_
      refine lv_istore_n (lv' := [(2, .int (x1 + (1 : Int32))), (0, .ref (ad 20 0)), (1, .int x1)]) hx hb dX5_test_23 rfl hl (by decide) rfl (fun ls hl => ?_)
      exact bX5_test_24 C _ hrec12 n x1 (x1 + (1 : Int32)) _ hf _ _ hH hS _ (lv_sub hl [1, 2, 0] rfl)
set_option maxHeartbeats 4000000 in
set_option maxRecDepth 100000 in
theorem cX5_test_k (l : Launch) (D : va_G) (ca : Nat → ClassId) (ad : Nat → Nat → Nat) (b0 : Nat) (hw : oa_W ad b0) (n : Nat)  (M : oa_M) (o : Int32 × oa_M) (hf : FX5_test n  M = some o) : oa_Mi l yX5_test (oa_w yX5_test cX5_test 3 (some .int)) ({ frames := 3, cells := 0, slots := 0, locals := 74 } : Room) D ca ad b0 [.ref (ad 20 0)] M o.1 o.2 := by
  refine oa_ofW (cc := cX5_test) (maxL := 3) (ret := some .int) (by decide) rfl (Nat.le_of_ble_eq_true rfl) ?_
  intro p e s m below meth c hx hb hml hr hlocks hown hts0 hP ls hl
  obtain ⟨hH, hE⟩ := hP
  have hts : ∀ w ∈ oa_T, w.before _ s = true := fun w h => hts0 w (List.mem_cons_of_mem _ h)
  have hS : va_S (fun q => b0 ≤ q) s.heap s.heap [] := va_S.rf
  have C : oa_Cx p s m _ meth c cX5_test 3 (some .int) RX5 D ca b0 ad := ⟨hx, hb, hml, hr, hlocks, hown, hts, hE, hw⟩
  have hl : lv_has ls 3 [(0, .ref (ad 20 0))] := hl
  unfold FX5_test at hf
  refine lv_aload_n hx hb dX5_test_0 rfl (lv_at hl 0 rfl) ?_
  refine lv_iconst (v := (0 : Int32)) hx hb dX5_test_1 (by decide) ?_
  refine oa_put (ci := 5) (C := RX5) (T := TX5) (N := 31) (v := .int (0 : Int32)) (x := (0 : Int32)) hx hb hts inX5 tyX5 tyX5_ok nmX5 hown hE hw hH hS 20 0 (by decide) rfl rfl 30 (by decide) (hts _ tw_645) rfl rfl rfl (Nat.le_of_ble_eq_true rfl) rfl dX5_test_2 (fun H locs hH hS => ?_)
  refine lv_aload_n hx hb dX5_test_5 rfl (lv_at hl 0 rfl) ?_
  refine lv_iconst (v := (0 : Int32)) hx hb dX5_test_6 (by decide) ?_
  refine oa_put (ci := 5) (C := RX5) (T := TX5) (N := 31) (v := .int (0 : Int32)) (x := (0 : Int32)) hx hb hts inX5 tyX5 tyX5_ok nmX5 hown hE hw hH hS 20 0 (by decide) rfl rfl 13 (by decide) (hts _ tw_628) rfl rfl (by decide) (Nat.le_of_ble_eq_true rfl) rfl dX5_test_7 (fun H locs hH hS => ?_)
  refine lv_iconst (v := (0 : Int32)) hx hb dX5_test_10 (by decide) ?_
  refine lv_istore_n (lv' := [(1, .int (0 : Int32)), (0, .ref (ad 20 0))]) hx hb dX5_test_11 rfl hl (by decide) rfl (fun ls hl => ?_)
  exact bX5_test_12 C n (0 : Int32) _ hf _ _ hH hS _ (lv_sub hl [1, 0] rfl)
theorem cX5_test_ok (l : Launch) (D : va_G) (ca : Nat → ClassId) (ad : Nat → Nat → Nat) (b0 : Nat) (hw : oa_W ad b0) (n : Nat)  (M : oa_M) (r : Int32) (M' : oa_M) (hf : FX5_test n  M = some (r, M')) : oa_Mi l yX5_test (oa_w yX5_test cX5_test 3 (some .int)) ({ frames := 3, cells := 0, slots := 0, locals := 74 } : Room) D ca ad b0 [.ref (ad 20 0)] M r M' := cX5_test_k l D ca ad b0 hw n  M (r, M') hf
def BX5_poke_16 (n : Nat) (x1 : Int32) (x2 : Int32) (z1 : Int32) (M : oa_M) : Option (Int32 × oa_M) := (if z1 = 0 then (if oa_in x1 64 = true then (if oa_in x1 64 = true then (some ((M 36 0 x1.toNatClampNeg), (oa_up (oa_up M 20 0 30 z1) 36 0 x1.toNatClampNeg (x2 &&& (255 : Int32))))) else none) else none) else (some ((0 : Int32), (oa_up M 20 0 30 z1))))
def FX5_poke (n : Nat) (x1 : Int32) (x2 : Int32) (M : oa_M) : Option (Int32 × oa_M) := (oa_bd (FX5_outside n x1 (0 : Int32) (63 : Int32) M) (fun r1 M2 => (if r1 = 0 then (BX5_poke_16 n x1 x2 (0 : Int32) M2) else (BX5_poke_16 n x1 x2 (1 : Int32) M2))))
set_option maxHeartbeats 4000000 in
set_option maxRecDepth 100000 in
theorem bX5_poke_16 {p : Program} {l : Launch} {e : Env} {s : State} {m : MethodId} {args : Array Value} {below : List Frame} {meth : Method} {c : Code} {D : va_G} {ca : Nat → ClassId} {ad : Nat → Nat → Nat} {b0 : Nat} {o : Int32 × oa_M} (C : oa_Cx p s m args meth c cX5_poke 4 (some .int) RX5 D ca b0 ad) : ∀ (n : Nat), ∀ (x1 : Int32) (x2 : Int32) (z1 : Int32) (M : oa_M), BX5_poke_16 n x1 x2 z1 M = some o → ∀ (H : Heap) (locs : List Loc), oa_H D ca ad M H → va_S (fun q => b0 ≤ q) s.heap H locs → ∀ (ls : Array Slot), lv_has ls 4 [(0, .ref (ad 20 0)), (1, .int x1), (2, .int x2)] → W p l e ({ frames := 1, cells := 0, slots := 0, locals := 22 } : Room) s m args below meth c H locs 0 0 (MQ below (va_Qi (fun (r' : Int32) (u : oa_M) => r' = o.1 ∧ u = o.2) (fun u t => oa_H D ca ad u t.heap) (fun q => b0 ≤ q)) args s 0 0 (fun q => b0 ≤ q)) (F0 m 16 ls [.int z1, .ref (ad 20 0)]) := by
  obtain ⟨hx, hb, hml, hr, hlocks, hown, hts, hE, hw⟩ := id C
  intro n x1 x2 z1 M hf H locs hH hS ls hl
  unfold BX5_poke_16 at hf
  refine oa_put (ci := 5) (C := RX5) (T := TX5) (N := 31) (v := .int z1) (x := z1) hx hb hts inX5 tyX5 tyX5_ok nmX5 hown hE hw hH hS 20 0 (by decide) rfl rfl 30 (by decide) (hts _ tw_645) rfl rfl rfl (Nat.le_of_ble_eq_true rfl) rfl dX5_poke_16 (fun H locs hH hS => ?_)
  refine lv_aload_n hx hb dX5_poke_19 rfl (lv_at hl 0 rfl) ?_
  refine oa_get (ci := 5) (C := RX5) (T := TX5) (N := 31) (v := .int z1) hx hb hts inX5 hown hE hH 20 0 (by decide) rfl rfl 30 (by decide) (hts _ tw_645) rfl dX5_poke_20 ?_
  refine lv_if_eq (tgt := 28) hx hb dX5_poke_23 (by decide) (fun hq1 => ?_) (fun hq1 => ?_)
  · rw [if_pos hq1] at hf
    refine lv_aload_n hx hb dX5_poke_28 rfl (lv_at hl 0 rfl) ?_
    refine oa_get (ci := 5) (C := RX5) (T := TX5) (N := 31) (v := .ref (ad 36 0)) hx hb hts inX5 hown hE hH 20 0 (by decide) rfl rfl 16 (by decide) (hts _ tw_631) rfl dX5_poke_29 ?_
    refine lv_iload_n hx hb dX5_poke_32 rfl (lv_at hl 1 rfl) ?_
    obtain ⟨hk2, hf⟩ := oa_ck hf
    refine oa_ild (v := (M 36 0 x1.toNatClampNeg)) hx hb hE hH 36 0 (by decide) 64 rfl rfl (oa_in_vp hk2) dX5_poke_33 ?_
    refine lv_istore_n (lv' := [(3, .int (M 36 0 x1.toNatClampNeg)), (0, .ref (ad 20 0)), (1, .int x1), (2, .int x2)]) hx hb dX5_poke_34 rfl hl (by decide) rfl (fun ls hl => ?_)
    refine lv_aload_n hx hb dX5_poke_35 rfl (lv_at hl 1 rfl) ?_
    refine oa_get (ci := 5) (C := RX5) (T := TX5) (N := 31) (v := .ref (ad 36 0)) hx hb hts inX5 hown hE hH 20 0 (by decide) rfl rfl 16 (by decide) (hts _ tw_631) rfl dX5_poke_36 ?_
    refine lv_iload_n hx hb dX5_poke_39 rfl (lv_at hl 2 rfl) ?_
    refine lv_iload_n hx hb dX5_poke_40 rfl (lv_at hl 3 rfl) ?_
    refine lv_sipush (v := (255 : Int32)) hx hb dX5_poke_41 (by decide) ?_
    refine lv_iand hx hb dX5_poke_44 ?_
    obtain ⟨hk3, hf⟩ := oa_ck hf
    refine oa_ist hx hb hE hw hH hS 36 0 (by decide) 64 (fun _ => rfl) (oa_in_vp hk3) dX5_poke_45 (fun H locs hH hS => ?_)
    refine lv_iload_n hx hb dX5_poke_46 rfl (lv_at hl 0 rfl) ?_
    cases hf
    exact oa_reti hx hb hr hlocks rfl hS hH dX5_poke_47
  · rw [if_neg hq1] at hf
    refine lv_iconst (v := (0 : Int32)) hx hb dX5_poke_26 (by decide) ?_
    cases hf
    exact oa_reti hx hb hr hlocks rfl hS hH dX5_poke_27
set_option maxHeartbeats 4000000 in
set_option maxRecDepth 100000 in
theorem cX5_poke_k (l : Launch) (D : va_G) (ca : Nat → ClassId) (ad : Nat → Nat → Nat) (b0 : Nat) (hw : oa_W ad b0) (n : Nat) (x1 : Int32) (x2 : Int32) (M : oa_M) (o : Int32 × oa_M) (hf : FX5_poke n x1 x2 M = some o) : oa_Mi l yX5_poke (oa_w yX5_poke cX5_poke 4 (some .int)) ({ frames := 1, cells := 0, slots := 0, locals := 22 } : Room) D ca ad b0 [.ref (ad 20 0), .int x1, .int x2] M o.1 o.2 := by
  refine oa_ofW (cc := cX5_poke) (maxL := 4) (ret := some .int) (by decide) rfl (Nat.le_of_ble_eq_true rfl) ?_
  intro p e s m below meth c hx hb hml hr hlocks hown hts0 hP ls hl
  obtain ⟨hH, hE⟩ := hP
  have hts : ∀ w ∈ oa_T, w.before _ s = true := fun w h => hts0 w (List.mem_cons_of_mem _ h)
  have hS : va_S (fun q => b0 ≤ q) s.heap s.heap [] := va_S.rf
  have C : oa_Cx p s m _ meth c cX5_poke 4 (some .int) RX5 D ca b0 ad := ⟨hx, hb, hml, hr, hlocks, hown, hts, hE, hw⟩
  have hl : lv_has ls 4 [(0, .ref (ad 20 0)), (1, .int x1), (2, .int x2)] := hl
  unfold FX5_poke at hf
  refine lv_aload_n hx hb dX5_poke_0 rfl (lv_at hl 0 rfl) ?_
  refine lv_iload_n hx hb dX5_poke_1 rfl (lv_at hl 1 rfl) ?_
  refine lv_iconst (v := (0 : Int32)) hx hb dX5_poke_2 (by decide) ?_
  refine lv_bipush (v := (63 : Int32)) hx hb dX5_poke_3 (by decide) ?_
  obtain ⟨r1, M2, hc3, hf⟩ := oa_bdE hf
  refine oa_csi (As := [.int x1, .int (0 : Int32), .int (63 : Int32)]) (rest := [.ref (ad 20 0)]) ⟨hx, hb, hml, hown, hts⟩ (cX5_outside_ok l D ca ad b0 hw n x1 (0 : Int32) (63 : Int32) _ _ _ hc3) (va_cwS 3 hts (oa_gS tw_753 tw_754 tw_49 tw_755) rfl rfl rfl (by decide +kernel) ⟨Nat.le_of_ble_eq_true rfl, Nat.le_of_ble_eq_true rfl⟩) hE hH hS rfl hl.1 rfl (Nat.le_of_ble_eq_true rfl) dX5_poke_5 ⟨by decide, by decide⟩ (fun H locs hH hS => ?_)
  refine lv_if_eq (tgt := 15) hx hb dX5_poke_8 (by decide) (fun hq4 => ?_) (fun hq4 => ?_)
  · rw [if_pos hq4] at hf
    refine lv_iconst (v := (0 : Int32)) hx hb dX5_poke_15 (by decide) ?_
    exact bX5_poke_16 C n x1 x2 (0 : Int32) _ hf _ _ hH hS _ (lv_sub hl [0, 1, 2] rfl)
  · rw [if_neg hq4] at hf
    refine lv_iconst (v := (1 : Int32)) hx hb dX5_poke_11 (by decide) ?_
    refine lv_goto (tgt := 16) hx hb dX5_poke_12 (by decide) ?_
    exact bX5_poke_16 C n x1 x2 (1 : Int32) _ hf _ _ hH hS _ (lv_sub hl [0, 1, 2] rfl)
theorem cX5_poke_ok (l : Launch) (D : va_G) (ca : Nat → ClassId) (ad : Nat → Nat → Nat) (b0 : Nat) (hw : oa_W ad b0) (n : Nat) (x1 : Int32) (x2 : Int32) (M : oa_M) (r : Int32) (M' : oa_M) (hf : FX5_poke n x1 x2 M = some (r, M')) : oa_Mi l yX5_poke (oa_w yX5_poke cX5_poke 4 (some .int)) ({ frames := 1, cells := 0, slots := 0, locals := 22 } : Room) D ca ad b0 [.ref (ad 20 0), .int x1, .int x2] M r M' := cX5_poke_k l D ca ad b0 hw n x1 x2 M (r, M') hf
def BX5_peek_36 (n : Nat) (x1 : Int32) (z0 : Int32) (M : oa_M) : Option (Int32 × oa_M) := (some (z0, M))
def BX5_peek_16 (n : Nat) (x1 : Int32) (z1 : Int32) (M : oa_M) : Option (Int32 × oa_M) := (if z1 = 0 then (if oa_in x1 64 = true then (BX5_peek_36 n x1 (M 36 0 x1.toNatClampNeg) (oa_up M 20 0 30 z1)) else none) else (BX5_peek_36 n x1 (0 : Int32) (oa_up M 20 0 30 z1)))
def FX5_peek (n : Nat) (x1 : Int32) (M : oa_M) : Option (Int32 × oa_M) := (oa_bd (FX5_outside n x1 (0 : Int32) (63 : Int32) M) (fun r1 M2 => (if r1 = 0 then (BX5_peek_16 n x1 (0 : Int32) M2) else (BX5_peek_16 n x1 (1 : Int32) M2))))
set_option maxHeartbeats 4000000 in
set_option maxRecDepth 100000 in
theorem bX5_peek_36 {p : Program} {l : Launch} {e : Env} {s : State} {m : MethodId} {args : Array Value} {below : List Frame} {meth : Method} {c : Code} {D : va_G} {ca : Nat → ClassId} {ad : Nat → Nat → Nat} {b0 : Nat} {o : Int32 × oa_M} (C : oa_Cx p s m args meth c cX5_peek 2 (some .int) RX5 D ca b0 ad) : ∀ (n : Nat), ∀ (x1 : Int32) (z0 : Int32) (M : oa_M), BX5_peek_36 n x1 z0 M = some o → ∀ (H : Heap) (locs : List Loc), oa_H D ca ad M H → va_S (fun q => b0 ≤ q) s.heap H locs → ∀ (ls : Array Slot), lv_has ls 2 [(0, .ref (ad 20 0)), (1, .int x1)] → W p l e ({ frames := 1, cells := 0, slots := 0, locals := 22 } : Room) s m args below meth c H locs 0 0 (MQ below (va_Qi (fun (r' : Int32) (u : oa_M) => r' = o.1 ∧ u = o.2) (fun u t => oa_H D ca ad u t.heap) (fun q => b0 ≤ q)) args s 0 0 (fun q => b0 ≤ q)) (F0 m 36 ls [.int z0]) := by
  obtain ⟨hx, hb, hml, hr, hlocks, hown, hts, hE, hw⟩ := id C
  intro n x1 z0 M hf H locs hH hS ls hl
  unfold BX5_peek_36 at hf
  cases hf
  exact oa_reti hx hb hr hlocks rfl hS hH dX5_peek_36
set_option maxHeartbeats 4000000 in
set_option maxRecDepth 100000 in
theorem bX5_peek_16 {p : Program} {l : Launch} {e : Env} {s : State} {m : MethodId} {args : Array Value} {below : List Frame} {meth : Method} {c : Code} {D : va_G} {ca : Nat → ClassId} {ad : Nat → Nat → Nat} {b0 : Nat} {o : Int32 × oa_M} (C : oa_Cx p s m args meth c cX5_peek 2 (some .int) RX5 D ca b0 ad) : ∀ (n : Nat), ∀ (x1 : Int32) (z1 : Int32) (M : oa_M), BX5_peek_16 n x1 z1 M = some o → ∀ (H : Heap) (locs : List Loc), oa_H D ca ad M H → va_S (fun q => b0 ≤ q) s.heap H locs → ∀ (ls : Array Slot), lv_has ls 2 [(0, .ref (ad 20 0)), (1, .int x1)] → W p l e ({ frames := 1, cells := 0, slots := 0, locals := 22 } : Room) s m args below meth c H locs 0 0 (MQ below (va_Qi (fun (r' : Int32) (u : oa_M) => r' = o.1 ∧ u = o.2) (fun u t => oa_H D ca ad u t.heap) (fun q => b0 ≤ q)) args s 0 0 (fun q => b0 ≤ q)) (F0 m 16 ls [.int z1, .ref (ad 20 0)]) := by
  obtain ⟨hx, hb, hml, hr, hlocks, hown, hts, hE, hw⟩ := id C
  intro n x1 z1 M hf H locs hH hS ls hl
  unfold BX5_peek_16 at hf
  refine oa_put (ci := 5) (C := RX5) (T := TX5) (N := 31) (v := .int z1) (x := z1) hx hb hts inX5 tyX5 tyX5_ok nmX5 hown hE hw hH hS 20 0 (by decide) rfl rfl 30 (by decide) (hts _ tw_645) rfl rfl rfl (Nat.le_of_ble_eq_true rfl) rfl dX5_peek_16 (fun H locs hH hS => ?_)
  refine lv_aload_n hx hb dX5_peek_19 rfl (lv_at hl 0 rfl) ?_
  refine oa_get (ci := 5) (C := RX5) (T := TX5) (N := 31) (v := .int z1) hx hb hts inX5 hown hE hH 20 0 (by decide) rfl rfl 30 (by decide) (hts _ tw_645) rfl dX5_peek_20 ?_
  refine lv_if_ne (tgt := 35) hx hb dX5_peek_23 (by decide) (fun hq1 => ?_) (fun hq1 => ?_)
  · rw [if_neg hq1] at hf
    refine lv_iconst (v := (0 : Int32)) hx hb dX5_peek_35 (by decide) ?_
    exact bX5_peek_36 C n x1 (0 : Int32) _ hf _ _ hH hS _ (lv_sub hl [0, 1] rfl)
  · rw [if_pos hq1] at hf
    refine lv_aload_n hx hb dX5_peek_26 rfl (lv_at hl 0 rfl) ?_
    refine oa_get (ci := 5) (C := RX5) (T := TX5) (N := 31) (v := .ref (ad 36 0)) hx hb hts inX5 hown hE hH 20 0 (by decide) rfl rfl 16 (by decide) (hts _ tw_631) rfl dX5_peek_27 ?_
    refine lv_iload_n hx hb dX5_peek_30 rfl (lv_at hl 1 rfl) ?_
    obtain ⟨hk2, hf⟩ := oa_ck hf
    refine oa_ild (v := (M 36 0 x1.toNatClampNeg)) hx hb hE hH 36 0 (by decide) 64 rfl rfl (oa_in_vp hk2) dX5_peek_31 ?_
    refine lv_goto (tgt := 36) hx hb dX5_peek_32 (by decide) ?_
    exact bX5_peek_36 C n x1 (M 36 0 x1.toNatClampNeg) _ hf _ _ hH hS _ (lv_sub hl [0, 1] rfl)
set_option maxHeartbeats 4000000 in
set_option maxRecDepth 100000 in
theorem cX5_peek_k (l : Launch) (D : va_G) (ca : Nat → ClassId) (ad : Nat → Nat → Nat) (b0 : Nat) (hw : oa_W ad b0) (n : Nat) (x1 : Int32) (M : oa_M) (o : Int32 × oa_M) (hf : FX5_peek n x1 M = some o) : oa_Mi l yX5_peek (oa_w yX5_peek cX5_peek 2 (some .int)) ({ frames := 1, cells := 0, slots := 0, locals := 22 } : Room) D ca ad b0 [.ref (ad 20 0), .int x1] M o.1 o.2 := by
  refine oa_ofW (cc := cX5_peek) (maxL := 2) (ret := some .int) (by decide) rfl (Nat.le_of_ble_eq_true rfl) ?_
  intro p e s m below meth c hx hb hml hr hlocks hown hts0 hP ls hl
  obtain ⟨hH, hE⟩ := hP
  have hts : ∀ w ∈ oa_T, w.before _ s = true := fun w h => hts0 w (List.mem_cons_of_mem _ h)
  have hS : va_S (fun q => b0 ≤ q) s.heap s.heap [] := va_S.rf
  have C : oa_Cx p s m _ meth c cX5_peek 2 (some .int) RX5 D ca b0 ad := ⟨hx, hb, hml, hr, hlocks, hown, hts, hE, hw⟩
  have hl : lv_has ls 2 [(0, .ref (ad 20 0)), (1, .int x1)] := hl
  unfold FX5_peek at hf
  refine lv_aload_n hx hb dX5_peek_0 rfl (lv_at hl 0 rfl) ?_
  refine lv_iload_n hx hb dX5_peek_1 rfl (lv_at hl 1 rfl) ?_
  refine lv_iconst (v := (0 : Int32)) hx hb dX5_peek_2 (by decide) ?_
  refine lv_bipush (v := (63 : Int32)) hx hb dX5_peek_3 (by decide) ?_
  obtain ⟨r1, M2, hc3, hf⟩ := oa_bdE hf
  refine oa_csi (As := [.int x1, .int (0 : Int32), .int (63 : Int32)]) (rest := [.ref (ad 20 0)]) ⟨hx, hb, hml, hown, hts⟩ (cX5_outside_ok l D ca ad b0 hw n x1 (0 : Int32) (63 : Int32) _ _ _ hc3) (va_cwS 3 hts (oa_gS tw_753 tw_754 tw_49 tw_755) rfl rfl rfl (by decide +kernel) ⟨Nat.le_of_ble_eq_true rfl, Nat.le_of_ble_eq_true rfl⟩) hE hH hS rfl hl.1 rfl (Nat.le_of_ble_eq_true rfl) dX5_peek_5 ⟨by decide, by decide⟩ (fun H locs hH hS => ?_)
  refine lv_if_eq (tgt := 15) hx hb dX5_peek_8 (by decide) (fun hq4 => ?_) (fun hq4 => ?_)
  · rw [if_pos hq4] at hf
    refine lv_iconst (v := (0 : Int32)) hx hb dX5_peek_15 (by decide) ?_
    exact bX5_peek_16 C n x1 (0 : Int32) _ hf _ _ hH hS _ (lv_sub hl [0, 1] rfl)
  · rw [if_neg hq4] at hf
    refine lv_iconst (v := (1 : Int32)) hx hb dX5_peek_11 (by decide) ?_
    refine lv_goto (tgt := 16) hx hb dX5_peek_12 (by decide) ?_
    exact bX5_peek_16 C n x1 (1 : Int32) _ hf _ _ hH hS _ (lv_sub hl [0, 1] rfl)
theorem cX5_peek_ok (l : Launch) (D : va_G) (ca : Nat → ClassId) (ad : Nat → Nat → Nat) (b0 : Nat) (hw : oa_W ad b0) (n : Nat) (x1 : Int32) (M : oa_M) (r : Int32) (M' : oa_M) (hf : FX5_peek n x1 M = some (r, M')) : oa_Mi l yX5_peek (oa_w yX5_peek cX5_peek 2 (some .int)) ({ frames := 1, cells := 0, slots := 0, locals := 22 } : Room) D ca ad b0 [.ref (ad 20 0), .int x1] M r M' := cX5_peek_k l D ca ad b0 hw n x1 M (r, M') hf
def FX5_bitAt (n : Nat) (x1 : Int32) (x2 : Int32) (M : oa_M) : Option (Int32 × oa_M) := (if oa_in (x1 + (x2 / (8 : Int32))) 64 = true then (some ((((M 36 0 (x1 + (x2 / (8 : Int32))).toNatClampNeg) >>> (((7 : Int32) - (oa_rem x2 (8 : Int32))) &&& 31)) &&& (1 : Int32)), M)) else none)
set_option maxHeartbeats 4000000 in
set_option maxRecDepth 100000 in
theorem cX5_bitAt_k (l : Launch) (D : va_G) (ca : Nat → ClassId) (ad : Nat → Nat → Nat) (b0 : Nat) (hw : oa_W ad b0) (n : Nat) (x1 : Int32) (x2 : Int32) (M : oa_M) (o : Int32 × oa_M) (hf : FX5_bitAt n x1 x2 M = some o) : oa_Mi l yX5_bitAt (oa_w yX5_bitAt cX5_bitAt 3 (some .int)) ({ frames := 0, cells := 0, slots := 0, locals := 0 } : Room) D ca ad b0 [.ref (ad 20 0), .int x1, .int x2] M o.1 o.2 := by
  refine oa_ofW (cc := cX5_bitAt) (maxL := 3) (ret := some .int) (by decide) rfl (Nat.le_of_ble_eq_true rfl) ?_
  intro p e s m below meth c hx hb hml hr hlocks hown hts0 hP ls hl
  obtain ⟨hH, hE⟩ := hP
  have hts : ∀ w ∈ oa_T, w.before _ s = true := fun w h => hts0 w (List.mem_cons_of_mem _ h)
  have hS : va_S (fun q => b0 ≤ q) s.heap s.heap [] := va_S.rf
  have C : oa_Cx p s m _ meth c cX5_bitAt 3 (some .int) RX5 D ca b0 ad := ⟨hx, hb, hml, hr, hlocks, hown, hts, hE, hw⟩
  have hl : lv_has ls 3 [(0, .ref (ad 20 0)), (1, .int x1), (2, .int x2)] := hl
  unfold FX5_bitAt at hf
  refine lv_aload_n hx hb dX5_bitAt_0 rfl (lv_at hl 0 rfl) ?_
  refine oa_get (ci := 5) (C := RX5) (T := TX5) (N := 31) (v := .ref (ad 36 0)) hx hb hts inX5 hown hE hH 20 0 (by decide) rfl rfl 16 (by decide) (hts _ tw_631) rfl dX5_bitAt_1 ?_
  refine lv_iload_n hx hb dX5_bitAt_4 rfl (lv_at hl 1 rfl) ?_
  refine lv_iload_n hx hb dX5_bitAt_5 rfl (lv_at hl 2 rfl) ?_
  refine lv_bipush (v := (8 : Int32)) hx hb dX5_bitAt_6 (by decide) ?_
  refine lv_idiv hx hb dX5_bitAt_8 (by decide) ?_
  refine lv_iadd hx hb dX5_bitAt_9 ?_
  obtain ⟨hk1, hf⟩ := oa_ck hf
  refine oa_ild (v := (M 36 0 (x1 + (x2 / (8 : Int32))).toNatClampNeg)) hx hb hE hH 36 0 (by decide) 64 rfl rfl (oa_in_vp hk1) dX5_bitAt_10 ?_
  refine lv_bipush (v := (7 : Int32)) hx hb dX5_bitAt_11 (by decide) ?_
  refine lv_iload_n hx hb dX5_bitAt_13 rfl (lv_at hl 2 rfl) ?_
  refine lv_bipush (v := (8 : Int32)) hx hb dX5_bitAt_14 (by decide) ?_
  refine lv_irem hx hb dX5_bitAt_16 (by decide) ?_
  refine lv_isub hx hb dX5_bitAt_17 ?_
  refine lv_ishr hx hb dX5_bitAt_18 ?_
  refine lv_iconst (v := (1 : Int32)) hx hb dX5_bitAt_19 (by decide) ?_
  refine lv_iand hx hb dX5_bitAt_20 ?_
  cases hf
  exact oa_reti hx hb hr hlocks rfl hS hH dX5_bitAt_21
theorem cX5_bitAt_ok (l : Launch) (D : va_G) (ca : Nat → ClassId) (ad : Nat → Nat → Nat) (b0 : Nat) (hw : oa_W ad b0) (n : Nat) (x1 : Int32) (x2 : Int32) (M : oa_M) (r : Int32) (M' : oa_M) (hf : FX5_bitAt n x1 x2 M = some (r, M')) : oa_Mi l yX5_bitAt (oa_w yX5_bitAt cX5_bitAt 3 (some .int)) ({ frames := 0, cells := 0, slots := 0, locals := 0 } : Room) D ca ad b0 [.ref (ad 20 0), .int x1, .int x2] M r M' := cX5_bitAt_k l D ca ad b0 hw n x1 x2 M (r, M') hf
def BX5_matches_56 (rec20 : Int32 → Int32 → Int32 → oa_M → Option (Int32 × oa_M)) (n : Nat) (x1 : Int32) (x2 : Int32) (x3 : Int32) (M : oa_M) : Option (Int32 × oa_M) := (rec20 x1 x2 (x3 + (1 : Int32)) M)
def BX5_matches_20 : Nat → Int32 → Int32 → Int32 → oa_M → Option (Int32 × oa_M)
  | 0, _, _, _, _ => none
  | n + 1, x1, x2, x3, M => (if oa_in x1 12 = true then (if (M 26 0 x1.toNatClampNeg) ≤ x3 then (some ((1 : Int32), M)) else (oa_bd (FX5_fixed n x1 x3 M) (fun r3 M4 => (if r3 < 0 then (BX5_matches_56 (BX5_matches_20 n) n x1 x2 x3 M4) else (oa_bd (FX5_fixed n x1 x3 M4) (fun r7 M8 => (oa_bd (FX5_bitAt n x2 x3 M8) (fun r10 M11 => (if r7 = r10 then (BX5_matches_56 (BX5_matches_20 n) n x1 x2 x3 M11) else (some ((0 : Int32), M11))))))))))) else none)
def FX5_matches (n : Nat) (x1 : Int32) (x2 : Int32) (M : oa_M) : Option (Int32 × oa_M) := (if oa_in x1 12 = true then (if (x2 + ((M 26 0 x1.toNatClampNeg) / (8 : Int32))) ≤ (64 : Int32) then (BX5_matches_20 n x1 x2 (0 : Int32) M) else (some ((0 : Int32), M))) else none)
set_option maxHeartbeats 4000000 in
set_option maxRecDepth 100000 in
theorem bX5_matches_56 {p : Program} {l : Launch} {e : Env} {s : State} {m : MethodId} {args : Array Value} {below : List Frame} {meth : Method} {c : Code} {D : va_G} {ca : Nat → ClassId} {ad : Nat → Nat → Nat} {b0 : Nat} {o : Int32 × oa_M} (C : oa_Cx p s m args meth c cX5_matches 4 (some .boolean) RX5 D ca b0 ad) (rec20 : Int32 → Int32 → Int32 → oa_M → Option (Int32 × oa_M)) (hrec20 : ∀ (x1 : Int32) (x2 : Int32) (x3 : Int32) (M : oa_M), rec20 x1 x2 x3 M = some o → ∀ (H : Heap) (locs : List Loc), oa_H D ca ad M H → va_S (fun q => b0 ≤ q) s.heap H locs → ∀ (ls : Array Slot), lv_has ls 4 [(0, .ref (ad 20 0)), (1, .int x1), (2, .int x2), (3, .int x3)] → W p l e ({ frames := 1, cells := 0, slots := 0, locals := 22 } : Room) s m args below meth c H locs 0 0 (MQ below (va_Qi (fun (r' : Int32) (u : oa_M) => r' = o.1 ∧ u = o.2) (fun u t => oa_H D ca ad u t.heap) (fun q => b0 ≤ q)) args s 0 0 (fun q => b0 ≤ q)) (F0 m 20 ls [])) : ∀ (n : Nat), ∀ (x1 : Int32) (x2 : Int32) (x3 : Int32) (M : oa_M), BX5_matches_56 rec20 n x1 x2 x3 M = some o → ∀ (H : Heap) (locs : List Loc), oa_H D ca ad M H → va_S (fun q => b0 ≤ q) s.heap H locs → ∀ (ls : Array Slot), lv_has ls 4 [(0, .ref (ad 20 0)), (1, .int x1), (2, .int x2), (3, .int x3)] → W p l e ({ frames := 1, cells := 0, slots := 0, locals := 22 } : Room) s m args below meth c H locs 0 0 (MQ below (va_Qi (fun (r' : Int32) (u : oa_M) => r' = o.1 ∧ u = o.2) (fun u t => oa_H D ca ad u t.heap) (fun q => b0 ≤ q)) args s 0 0 (fun q => b0 ≤ q)) (F0 m 56 ls []) := by
  obtain ⟨hx, hb, hml, hr, hlocks, hown, hts, hE, hw⟩ := id C
  intro n x1 x2 x3 M hf H locs hH hS ls hl
  unfold BX5_matches_56 at hf
  refine lv_iinc (v := (x3 + (1 : Int32))) (lv' := [(3, .int (x3 + (1 : Int32))), (0, .ref (ad 20 0)), (1, .int x1), (2, .int x2)]) hx hb dX5_matches_56 hl (k := 3) rfl rfl (by decide) rfl (fun ls hl => ?_)
  refine lv_goto (tgt := 20) hx hb dX5_matches_59 (by decide) ?_
  exact hrec20 x1 x2 (x3 + (1 : Int32)) _ hf _ _ hH hS _ (lv_sub hl [1, 2, 3, 0] rfl)
set_option maxHeartbeats 4000000 in
set_option maxRecDepth 100000 in
theorem bX5_matches_20 {p : Program} {l : Launch} {e : Env} {s : State} {m : MethodId} {args : Array Value} {below : List Frame} {meth : Method} {c : Code} {D : va_G} {ca : Nat → ClassId} {ad : Nat → Nat → Nat} {b0 : Nat} {o : Int32 × oa_M} (C : oa_Cx p s m args meth c cX5_matches 4 (some .boolean) RX5 D ca b0 ad) : ∀ (n : Nat), ∀ (x1 : Int32) (x2 : Int32) (x3 : Int32) (M : oa_M), BX5_matches_20 n x1 x2 x3 M = some o → ∀ (H : Heap) (locs : List Loc), oa_H D ca ad M H → va_S (fun q => b0 ≤ q) s.heap H locs → ∀ (ls : Array Slot), lv_has ls 4 [(0, .ref (ad 20 0)), (1, .int x1), (2, .int x2), (3, .int x3)] → W p l e ({ frames := 1, cells := 0, slots := 0, locals := 22 } : Room) s m args below meth c H locs 0 0 (MQ below (va_Qi (fun (r' : Int32) (u : oa_M) => r' = o.1 ∧ u = o.2) (fun u t => oa_H D ca ad u t.heap) (fun q => b0 ≤ q)) args s 0 0 (fun q => b0 ≤ q)) (F0 m 20 ls []) := by
  obtain ⟨hx, hb, hml, hr, hlocks, hown, hts, hE, hw⟩ := id C
  intro n
  induction n with
  | zero => intro x1 x2 x3 M hf; cases hf
  | succ n ih =>
    intro x1 x2 x3 M hf H locs hH hS ls hl
    have hrec20 := ih
    unfold BX5_matches_20 at hf
    refine lv_iload_n hx hb dX5_matches_20 rfl (lv_at hl 3 rfl) ?_
    refine lv_aload_n hx hb dX5_matches_21 rfl (lv_at hl 0 rfl) ?_
    refine oa_get (ci := 5) (C := RX5) (T := TX5) (N := 31) (v := .ref (ad 26 0)) hx hb hts inX5 hown hE hH 20 0 (by decide) rfl rfl 6 (by decide) (hts _ tw_621) rfl dX5_matches_22 ?_
    refine lv_iload_n hx hb dX5_matches_25 rfl (lv_at hl 1 rfl) ?_
    obtain ⟨hk1, hf⟩ := oa_ck hf
    refine oa_ild (v := (M 26 0 x1.toNatClampNeg)) hx hb hE hH 26 0 (by decide) 12 rfl rfl (oa_in_vp hk1) dX5_matches_26 ?_
    refine lv_icmp_ge (tgt := 62) hx hb dX5_matches_27 (by decide) (fun hq2 => ?_) (fun hq2 => ?_)
    · rw [if_pos hq2] at hf
      refine lv_iconst (v := (1 : Int32)) hx hb dX5_matches_62 (by decide) ?_
      cases hf
      exact oa_reti hx hb hr hlocks rfl hS hH dX5_matches_63
    · rw [if_neg hq2] at hf
      refine lv_aload_n hx hb dX5_matches_30 rfl (lv_at hl 0 rfl) ?_
      refine lv_iload_n hx hb dX5_matches_31 rfl (lv_at hl 1 rfl) ?_
      refine lv_iload_n hx hb dX5_matches_32 rfl (lv_at hl 3 rfl) ?_
      obtain ⟨r3, M4, hc5, hf⟩ := oa_bdE hf
      refine oa_cvi (As := [.int x1, .int x3]) (rest := []) ⟨hx, hb, hml, hown, hts⟩ (cX5_fixed_ok l D ca ad b0 hw n x1 x3 _ _ _ hc5) (cwV 2 hts (oa_gV tw_764 tw_766 tw_27 tw_49 tw_767) rfl rfl rfl (by decide +kernel) ⟨Nat.le_of_ble_eq_true rfl, Nat.le_of_ble_eq_true rfl⟩) hE hH hS (oa_recv (k := 20) (ci := 5) hE hH (by decide) rfl rfl) rfl hl.1 rfl (Nat.le_of_ble_eq_true rfl) dX5_matches_33 ⟨by decide, by decide⟩ (fun H locs hH hS => ?_)
      refine lv_if_lt (tgt := 56) hx hb dX5_matches_36 (by decide) (fun hq6 => ?_) (fun hq6 => ?_)
      · rw [if_pos hq6] at hf
        exact bX5_matches_56 C _ hrec20 n x1 x2 x3 _ hf _ _ hH hS _ (lv_sub hl [0, 1, 2, 3] rfl)
      · rw [if_neg hq6] at hf
        refine lv_aload_n hx hb dX5_matches_39 rfl (lv_at hl 0 rfl) ?_
        refine lv_iload_n hx hb dX5_matches_40 rfl (lv_at hl 1 rfl) ?_
        refine lv_iload_n hx hb dX5_matches_41 rfl (lv_at hl 3 rfl) ?_
        obtain ⟨r7, M8, hc9, hf⟩ := oa_bdE hf
        refine oa_cvi (As := [.int x1, .int x3]) (rest := []) ⟨hx, hb, hml, hown, hts⟩ (cX5_fixed_ok l D ca ad b0 hw n x1 x3 _ _ _ hc9) (cwV 2 hts (oa_gV tw_764 tw_766 tw_27 tw_49 tw_767) rfl rfl rfl (by decide +kernel) ⟨Nat.le_of_ble_eq_true rfl, Nat.le_of_ble_eq_true rfl⟩) hE hH hS (oa_recv (k := 20) (ci := 5) hE hH (by decide) rfl rfl) rfl hl.1 rfl (Nat.le_of_ble_eq_true rfl) dX5_matches_42 ⟨by decide, by decide⟩ (fun H locs hH hS => ?_)
        refine lv_aload_n hx hb dX5_matches_45 rfl (lv_at hl 0 rfl) ?_
        refine lv_iload_n hx hb dX5_matches_46 rfl (lv_at hl 2 rfl) ?_
        refine lv_iload_n hx hb dX5_matches_47 rfl (lv_at hl 3 rfl) ?_
        obtain ⟨r10, M11, hc12, hf⟩ := oa_bdE hf
        refine oa_cvi (As := [.int x2, .int x3]) (rest := [.int r7]) ⟨hx, hb, hml, hown, hts⟩ (cX5_bitAt_ok l D ca ad b0 hw n x2 x3 _ _ _ hc12) (cwV 2 hts (oa_gV tw_796 tw_798 tw_32 tw_49 tw_799) rfl rfl rfl (by decide +kernel) ⟨Nat.le_of_ble_eq_true rfl, Nat.le_of_ble_eq_true rfl⟩) hE hH hS (oa_recv (k := 20) (ci := 5) hE hH (by decide) rfl rfl) rfl hl.1 rfl (Nat.le_of_ble_eq_true rfl) dX5_matches_48 ⟨by decide, by decide⟩ (fun H locs hH hS => ?_)
        refine lv_icmp_eq (tgt := 56) hx hb dX5_matches_51 (by decide) (fun hq13 => ?_) (fun hq13 => ?_)
        · rw [if_pos hq13] at hf
          exact bX5_matches_56 C _ hrec20 n x1 x2 x3 _ hf _ _ hH hS _ (lv_sub hl [0, 1, 2, 3] rfl)
        · rw [if_neg hq13] at hf
          refine lv_iconst (v := (0 : Int32)) hx hb dX5_matches_54 (by decide) ?_
          cases hf
          exact oa_reti hx hb hr hlocks rfl hS hH dX5_matches_55
set_option maxHeartbeats 4000000 in
set_option maxRecDepth 100000 in
theorem cX5_matches_k (l : Launch) (D : va_G) (ca : Nat → ClassId) (ad : Nat → Nat → Nat) (b0 : Nat) (hw : oa_W ad b0) (n : Nat) (x1 : Int32) (x2 : Int32) (M : oa_M) (o : Int32 × oa_M) (hf : FX5_matches n x1 x2 M = some o) : oa_Mi l yX5_matches (oa_w yX5_matches cX5_matches 4 (some .boolean)) ({ frames := 1, cells := 0, slots := 0, locals := 22 } : Room) D ca ad b0 [.ref (ad 20 0), .int x1, .int x2] M o.1 o.2 := by
  refine oa_ofW (cc := cX5_matches) (maxL := 4) (ret := some .boolean) (by decide) rfl (Nat.le_of_ble_eq_true rfl) ?_
  intro p e s m below meth c hx hb hml hr hlocks hown hts0 hP ls hl
  obtain ⟨hH, hE⟩ := hP
  have hts : ∀ w ∈ oa_T, w.before _ s = true := fun w h => hts0 w (List.mem_cons_of_mem _ h)
  have hS : va_S (fun q => b0 ≤ q) s.heap s.heap [] := va_S.rf
  have C : oa_Cx p s m _ meth c cX5_matches 4 (some .boolean) RX5 D ca b0 ad := ⟨hx, hb, hml, hr, hlocks, hown, hts, hE, hw⟩
  have hl : lv_has ls 4 [(0, .ref (ad 20 0)), (1, .int x1), (2, .int x2)] := hl
  unfold FX5_matches at hf
  refine lv_iload_n hx hb dX5_matches_0 rfl (lv_at hl 2 rfl) ?_
  refine lv_aload_n hx hb dX5_matches_1 rfl (lv_at hl 0 rfl) ?_
  refine oa_get (ci := 5) (C := RX5) (T := TX5) (N := 31) (v := .ref (ad 26 0)) hx hb hts inX5 hown hE hH 20 0 (by decide) rfl rfl 6 (by decide) (hts _ tw_621) rfl dX5_matches_2 ?_
  refine lv_iload_n hx hb dX5_matches_5 rfl (lv_at hl 1 rfl) ?_
  obtain ⟨hk1, hf⟩ := oa_ck hf
  refine oa_ild (v := (M 26 0 x1.toNatClampNeg)) hx hb hE hH 26 0 (by decide) 12 rfl rfl (oa_in_vp hk1) dX5_matches_6 ?_
  refine lv_bipush (v := (8 : Int32)) hx hb dX5_matches_7 (by decide) ?_
  refine lv_idiv hx hb dX5_matches_9 (by decide) ?_
  refine lv_iadd hx hb dX5_matches_10 ?_
  refine lv_bipush (v := (64 : Int32)) hx hb dX5_matches_11 (by decide) ?_
  refine lv_icmp_le (tgt := 18) hx hb dX5_matches_13 (by decide) (fun hq2 => ?_) (fun hq2 => ?_)
  · rw [if_pos hq2] at hf
    refine lv_iconst (v := (0 : Int32)) hx hb dX5_matches_18 (by decide) ?_
    refine lv_istore_n (lv' := [(3, .int (0 : Int32)), (0, .ref (ad 20 0)), (1, .int x1), (2, .int x2)]) hx hb dX5_matches_19 rfl hl (by decide) rfl (fun ls hl => ?_)
    exact bX5_matches_20 C n x1 x2 (0 : Int32) _ hf _ _ hH hS _ (lv_sub hl [1, 2, 3, 0] rfl)
  · rw [if_neg hq2] at hf
    refine lv_iconst (v := (0 : Int32)) hx hb dX5_matches_16 (by decide) ?_
    cases hf
    exact oa_reti hx hb hr hlocks rfl hS hH dX5_matches_17
theorem cX5_matches_ok (l : Launch) (D : va_G) (ca : Nat → ClassId) (ad : Nat → Nat → Nat) (b0 : Nat) (hw : oa_W ad b0) (n : Nat) (x1 : Int32) (x2 : Int32) (M : oa_M) (r : Int32) (M' : oa_M) (hf : FX5_matches n x1 x2 M = some (r, M')) : oa_Mi l yX5_matches (oa_w yX5_matches cX5_matches 4 (some .boolean)) ({ frames := 1, cells := 0, slots := 0, locals := 22 } : Room) D ca ad b0 [.ref (ad 20 0), .int x1, .int x2] M r M' := cX5_matches_k l D ca ad b0 hw n x1 x2 M (r, M') hf
def BX5_decoded_36 (rec4 : Int32 → Int32 → Int32 → oa_M → Option (Int32 × oa_M)) (n : Nat) (x1 : Int32) (x2 : Int32) (x3 : Int32) (M : oa_M) : Option (Int32 × oa_M) := (rec4 x1 x2 (x3 + (1 : Int32)) M)
def BX5_decoded_34 (rec4 : Int32 → Int32 → Int32 → oa_M → Option (Int32 × oa_M)) (n : Nat) (x1 : Int32) (x2 : Int32) (x3 : Int32) (M : oa_M) : Option (Int32 × oa_M) := (BX5_decoded_36 rec4 n x1 x3 x3 M)
def BX5_decoded_4 : Nat → Int32 → Int32 → Int32 → oa_M → Option (Int32 × oa_M)
  | 0, _, _, _, _ => none
  | n + 1, x1, x2, x3, M => (if (M 20 0 4) ≤ x3 then (some (x2, M)) else (oa_bd (FX5_matches n x3 x1 M) (fun r2 M3 => (if r2 = 0 then (BX5_decoded_36 (BX5_decoded_4 n) n x1 x2 x3 M3) else (if x2 < 0 then (BX5_decoded_34 (BX5_decoded_4 n) n x1 x2 x3 M3) else (oa_bd (FX5_isNarrower n x3 x2 M3) (fun r7 M8 => (if r7 = 0 then (BX5_decoded_36 (BX5_decoded_4 n) n x1 x2 x3 M8) else (BX5_decoded_34 (BX5_decoded_4 n) n x1 x2 x3 M8)))))))))
def FX5_decoded (n : Nat) (x1 : Int32) (M : oa_M) : Option (Int32 × oa_M) := (BX5_decoded_4 n x1 (-1 : Int32) (0 : Int32) M)
set_option maxHeartbeats 4000000 in
set_option maxRecDepth 100000 in
theorem bX5_decoded_36 {p : Program} {l : Launch} {e : Env} {s : State} {m : MethodId} {args : Array Value} {below : List Frame} {meth : Method} {c : Code} {D : va_G} {ca : Nat → ClassId} {ad : Nat → Nat → Nat} {b0 : Nat} {o : Int32 × oa_M} (C : oa_Cx p s m args meth c cX5_decoded 4 (some .int) RX5 D ca b0 ad) (rec4 : Int32 → Int32 → Int32 → oa_M → Option (Int32 × oa_M)) (hrec4 : ∀ (x1 : Int32) (x2 : Int32) (x3 : Int32) (M : oa_M), rec4 x1 x2 x3 M = some o → ∀ (H : Heap) (locs : List Loc), oa_H D ca ad M H → va_S (fun q => b0 ≤ q) s.heap H locs → ∀ (ls : Array Slot), lv_has ls 4 [(0, .ref (ad 20 0)), (1, .int x1), (2, .int x2), (3, .int x3)] → W p l e ({ frames := 2, cells := 0, slots := 0, locals := 49 } : Room) s m args below meth c H locs 0 0 (MQ below (va_Qi (fun (r' : Int32) (u : oa_M) => r' = o.1 ∧ u = o.2) (fun u t => oa_H D ca ad u t.heap) (fun q => b0 ≤ q)) args s 0 0 (fun q => b0 ≤ q)) (F0 m 4 ls [])) : ∀ (n : Nat), ∀ (x1 : Int32) (x2 : Int32) (x3 : Int32) (M : oa_M), BX5_decoded_36 rec4 n x1 x2 x3 M = some o → ∀ (H : Heap) (locs : List Loc), oa_H D ca ad M H → va_S (fun q => b0 ≤ q) s.heap H locs → ∀ (ls : Array Slot), lv_has ls 4 [(0, .ref (ad 20 0)), (1, .int x1), (2, .int x2), (3, .int x3)] → W p l e ({ frames := 2, cells := 0, slots := 0, locals := 49 } : Room) s m args below meth c H locs 0 0 (MQ below (va_Qi (fun (r' : Int32) (u : oa_M) => r' = o.1 ∧ u = o.2) (fun u t => oa_H D ca ad u t.heap) (fun q => b0 ≤ q)) args s 0 0 (fun q => b0 ≤ q)) (F0 m 36 ls []) := by
  obtain ⟨hx, hb, hml, hr, hlocks, hown, hts, hE, hw⟩ := id C
  intro n x1 x2 x3 M hf H locs hH hS ls hl
  unfold BX5_decoded_36 at hf
  refine lv_iinc (v := (x3 + (1 : Int32))) (lv' := [(3, .int (x3 + (1 : Int32))), (0, .ref (ad 20 0)), (1, .int x1), (2, .int x2)]) hx hb dX5_decoded_36 hl (k := 3) rfl rfl (by decide) rfl (fun ls hl => ?_)
  refine lv_goto (tgt := 4) hx hb dX5_decoded_39 (by decide) ?_
  exact hrec4 x1 x2 (x3 + (1 : Int32)) _ hf _ _ hH hS _ (lv_sub hl [1, 2, 3, 0] rfl)
set_option maxHeartbeats 4000000 in
set_option maxRecDepth 100000 in
theorem bX5_decoded_34 {p : Program} {l : Launch} {e : Env} {s : State} {m : MethodId} {args : Array Value} {below : List Frame} {meth : Method} {c : Code} {D : va_G} {ca : Nat → ClassId} {ad : Nat → Nat → Nat} {b0 : Nat} {o : Int32 × oa_M} (C : oa_Cx p s m args meth c cX5_decoded 4 (some .int) RX5 D ca b0 ad) (rec4 : Int32 → Int32 → Int32 → oa_M → Option (Int32 × oa_M)) (hrec4 : ∀ (x1 : Int32) (x2 : Int32) (x3 : Int32) (M : oa_M), rec4 x1 x2 x3 M = some o → ∀ (H : Heap) (locs : List Loc), oa_H D ca ad M H → va_S (fun q => b0 ≤ q) s.heap H locs → ∀ (ls : Array Slot), lv_has ls 4 [(0, .ref (ad 20 0)), (1, .int x1), (2, .int x2), (3, .int x3)] → W p l e ({ frames := 2, cells := 0, slots := 0, locals := 49 } : Room) s m args below meth c H locs 0 0 (MQ below (va_Qi (fun (r' : Int32) (u : oa_M) => r' = o.1 ∧ u = o.2) (fun u t => oa_H D ca ad u t.heap) (fun q => b0 ≤ q)) args s 0 0 (fun q => b0 ≤ q)) (F0 m 4 ls [])) : ∀ (n : Nat), ∀ (x1 : Int32) (x2 : Int32) (x3 : Int32) (M : oa_M), BX5_decoded_34 rec4 n x1 x2 x3 M = some o → ∀ (H : Heap) (locs : List Loc), oa_H D ca ad M H → va_S (fun q => b0 ≤ q) s.heap H locs → ∀ (ls : Array Slot), lv_has ls 4 [(0, .ref (ad 20 0)), (1, .int x1), (2, .int x2), (3, .int x3)] → W p l e ({ frames := 2, cells := 0, slots := 0, locals := 49 } : Room) s m args below meth c H locs 0 0 (MQ below (va_Qi (fun (r' : Int32) (u : oa_M) => r' = o.1 ∧ u = o.2) (fun u t => oa_H D ca ad u t.heap) (fun q => b0 ≤ q)) args s 0 0 (fun q => b0 ≤ q)) (F0 m 34 ls []) := by
  obtain ⟨hx, hb, hml, hr, hlocks, hown, hts, hE, hw⟩ := id C
  intro n x1 x2 x3 M hf H locs hH hS ls hl
  unfold BX5_decoded_34 at hf
  refine lv_iload_n hx hb dX5_decoded_34 rfl (lv_at hl 3 rfl) ?_
  refine lv_istore_n (lv' := [(2, .int x3), (0, .ref (ad 20 0)), (1, .int x1), (3, .int x3)]) hx hb dX5_decoded_35 rfl hl (by decide) rfl (fun ls hl => ?_)
  exact bX5_decoded_36 C _ hrec4 n x1 x3 x3 _ hf _ _ hH hS _ (lv_sub hl [1, 2, 0, 3] rfl)
set_option maxHeartbeats 4000000 in
set_option maxRecDepth 100000 in
theorem bX5_decoded_4 {p : Program} {l : Launch} {e : Env} {s : State} {m : MethodId} {args : Array Value} {below : List Frame} {meth : Method} {c : Code} {D : va_G} {ca : Nat → ClassId} {ad : Nat → Nat → Nat} {b0 : Nat} {o : Int32 × oa_M} (C : oa_Cx p s m args meth c cX5_decoded 4 (some .int) RX5 D ca b0 ad) : ∀ (n : Nat), ∀ (x1 : Int32) (x2 : Int32) (x3 : Int32) (M : oa_M), BX5_decoded_4 n x1 x2 x3 M = some o → ∀ (H : Heap) (locs : List Loc), oa_H D ca ad M H → va_S (fun q => b0 ≤ q) s.heap H locs → ∀ (ls : Array Slot), lv_has ls 4 [(0, .ref (ad 20 0)), (1, .int x1), (2, .int x2), (3, .int x3)] → W p l e ({ frames := 2, cells := 0, slots := 0, locals := 49 } : Room) s m args below meth c H locs 0 0 (MQ below (va_Qi (fun (r' : Int32) (u : oa_M) => r' = o.1 ∧ u = o.2) (fun u t => oa_H D ca ad u t.heap) (fun q => b0 ≤ q)) args s 0 0 (fun q => b0 ≤ q)) (F0 m 4 ls []) := by
  obtain ⟨hx, hb, hml, hr, hlocks, hown, hts, hE, hw⟩ := id C
  intro n
  induction n with
  | zero => intro x1 x2 x3 M hf; cases hf
  | succ n ih =>
    intro x1 x2 x3 M hf H locs hH hS ls hl
    have hrec4 := ih
    unfold BX5_decoded_4 at hf
    refine lv_iload_n hx hb dX5_decoded_4 rfl (lv_at hl 3 rfl) ?_
    refine lv_aload_n hx hb dX5_decoded_5 rfl (lv_at hl 0 rfl) ?_
    refine oa_get (ci := 5) (C := RX5) (T := TX5) (N := 31) (v := .int (M 20 0 4)) hx hb hts inX5 hown hE hH 20 0 (by decide) rfl rfl 4 (by decide) (hts _ tw_619) rfl dX5_decoded_6 ?_
    refine lv_icmp_ge (tgt := 42) hx hb dX5_decoded_9 (by decide) (fun hq1 => ?_) (fun hq1 => ?_)
    · rw [if_pos hq1] at hf
      refine lv_iload_n hx hb dX5_decoded_42 rfl (lv_at hl 2 rfl) ?_
      cases hf
      exact oa_reti hx hb hr hlocks rfl hS hH dX5_decoded_43
    · rw [if_neg hq1] at hf
      refine lv_aload_n hx hb dX5_decoded_12 rfl (lv_at hl 0 rfl) ?_
      refine lv_iload_n hx hb dX5_decoded_13 rfl (lv_at hl 3 rfl) ?_
      refine lv_iload_n hx hb dX5_decoded_14 rfl (lv_at hl 1 rfl) ?_
      obtain ⟨r2, M3, hc4, hf⟩ := oa_bdE hf
      refine oa_cvi (As := [.int x3, .int x1]) (rest := []) ⟨hx, hb, hml, hown, hts⟩ (cX5_matches_ok l D ca ad b0 hw n x3 x1 _ _ _ hc4) (cwV 2 hts (oa_gV tw_792 tw_794 tw_31 tw_49 tw_795) rfl rfl rfl (by decide +kernel) ⟨Nat.le_of_ble_eq_true rfl, Nat.le_of_ble_eq_true rfl⟩) hE hH hS (oa_recv (k := 20) (ci := 5) hE hH (by decide) rfl rfl) rfl hl.1 rfl (Nat.le_of_ble_eq_true rfl) dX5_decoded_15 ⟨by decide, by decide⟩ (fun H locs hH hS => ?_)
      refine lv_if_eq (tgt := 36) hx hb dX5_decoded_18 (by decide) (fun hq5 => ?_) (fun hq5 => ?_)
      · rw [if_pos hq5] at hf
        exact bX5_decoded_36 C _ hrec4 n x1 x2 x3 _ hf _ _ hH hS _ (lv_sub hl [0, 1, 2, 3] rfl)
      · rw [if_neg hq5] at hf
        refine lv_iload_n hx hb dX5_decoded_21 rfl (lv_at hl 2 rfl) ?_
        refine lv_if_lt (tgt := 34) hx hb dX5_decoded_22 (by decide) (fun hq6 => ?_) (fun hq6 => ?_)
        · rw [if_pos hq6] at hf
          exact bX5_decoded_34 C _ hrec4 n x1 x2 x3 _ hf _ _ hH hS _ (lv_sub hl [0, 1, 2, 3] rfl)
        · rw [if_neg hq6] at hf
          refine lv_aload_n hx hb dX5_decoded_25 rfl (lv_at hl 0 rfl) ?_
          refine lv_iload_n hx hb dX5_decoded_26 rfl (lv_at hl 3 rfl) ?_
          refine lv_iload_n hx hb dX5_decoded_27 rfl (lv_at hl 2 rfl) ?_
          obtain ⟨r7, M8, hc9, hf⟩ := oa_bdE hf
          refine oa_cvi (As := [.int x3, .int x2]) (rest := []) ⟨hx, hb, hml, hown, hts⟩ (cX5_isNarrower_ok l D ca ad b0 hw n x3 x2 _ _ _ hc9) (cwV 2 hts (oa_gV tw_768 tw_770 tw_28 tw_49 tw_771) rfl rfl rfl (by decide +kernel) ⟨Nat.le_of_ble_eq_true rfl, Nat.le_of_ble_eq_true rfl⟩) hE hH hS (oa_recv (k := 20) (ci := 5) hE hH (by decide) rfl rfl) rfl hl.1 rfl (Nat.le_of_ble_eq_true rfl) dX5_decoded_28 ⟨by decide, by decide⟩ (fun H locs hH hS => ?_)
          refine lv_if_eq (tgt := 36) hx hb dX5_decoded_31 (by decide) (fun hq10 => ?_) (fun hq10 => ?_)
          · rw [if_pos hq10] at hf
            exact bX5_decoded_36 C _ hrec4 n x1 x2 x3 _ hf _ _ hH hS _ (lv_sub hl [0, 1, 2, 3] rfl)
          · rw [if_neg hq10] at hf
            exact bX5_decoded_34 C _ hrec4 n x1 x2 x3 _ hf _ _ hH hS _ (lv_sub hl [0, 1, 2, 3] rfl)
set_option maxHeartbeats 4000000 in
set_option maxRecDepth 100000 in
theorem cX5_decoded_k (l : Launch) (D : va_G) (ca : Nat → ClassId) (ad : Nat → Nat → Nat) (b0 : Nat) (hw : oa_W ad b0) (n : Nat) (x1 : Int32) (M : oa_M) (o : Int32 × oa_M) (hf : FX5_decoded n x1 M = some o) : oa_Mi l yX5_decoded (oa_w yX5_decoded cX5_decoded 4 (some .int)) ({ frames := 2, cells := 0, slots := 0, locals := 49 } : Room) D ca ad b0 [.ref (ad 20 0), .int x1] M o.1 o.2 := by
  refine oa_ofW (cc := cX5_decoded) (maxL := 4) (ret := some .int) (by decide) rfl (Nat.le_of_ble_eq_true rfl) ?_
  intro p e s m below meth c hx hb hml hr hlocks hown hts0 hP ls hl
  obtain ⟨hH, hE⟩ := hP
  have hts : ∀ w ∈ oa_T, w.before _ s = true := fun w h => hts0 w (List.mem_cons_of_mem _ h)
  have hS : va_S (fun q => b0 ≤ q) s.heap s.heap [] := va_S.rf
  have C : oa_Cx p s m _ meth c cX5_decoded 4 (some .int) RX5 D ca b0 ad := ⟨hx, hb, hml, hr, hlocks, hown, hts, hE, hw⟩
  have hl : lv_has ls 4 [(0, .ref (ad 20 0)), (1, .int x1)] := hl
  unfold FX5_decoded at hf
  refine lv_iconst (v := (-1 : Int32)) hx hb dX5_decoded_0 (by decide) ?_
  refine lv_istore_n (lv' := [(2, .int (-1 : Int32)), (0, .ref (ad 20 0)), (1, .int x1)]) hx hb dX5_decoded_1 rfl hl (by decide) rfl (fun ls hl => ?_)
  refine lv_iconst (v := (0 : Int32)) hx hb dX5_decoded_2 (by decide) ?_
  refine lv_istore_n (lv' := [(3, .int (0 : Int32)), (2, .int (-1 : Int32)), (0, .ref (ad 20 0)), (1, .int x1)]) hx hb dX5_decoded_3 rfl hl (by decide) rfl (fun ls hl => ?_)
  exact bX5_decoded_4 C n x1 (-1 : Int32) (0 : Int32) _ hf _ _ hH hS _ (lv_sub hl [2, 3, 1, 0] rfl)
theorem cX5_decoded_ok (l : Launch) (D : va_G) (ca : Nat → ClassId) (ad : Nat → Nat → Nat) (b0 : Nat) (hw : oa_W ad b0) (n : Nat) (x1 : Int32) (M : oa_M) (r : Int32) (M' : oa_M) (hf : FX5_decoded n x1 M = some (r, M')) : oa_Mi l yX5_decoded (oa_w yX5_decoded cX5_decoded 4 (some .int)) ({ frames := 2, cells := 0, slots := 0, locals := 49 } : Room) D ca ad b0 [.ref (ad 20 0), .int x1] M r M' := cX5_decoded_k l D ca ad b0 hw n x1 M (r, M') hf
def BX5_wrongAddress_26 (n : Nat) (x1 : Int32) (z0 : Int32) (M : oa_M) : Option (Int32 × oa_M) := (some (z0, M))
def FX5_wrongAddress (n : Nat) (x1 : Int32) (M : oa_M) : Option (Int32 × oa_M) := (if (M 20 0 13) = 0 then (BX5_wrongAddress_26 n x1 (1 : Int32) M) else (oa_bd (FX5_outside n x1 (0 : Int32) (63 : Int32) M) (fun r2 M3 => (if r2 = 0 then (BX5_wrongAddress_26 n x1 (0 : Int32) M3) else (BX5_wrongAddress_26 n x1 (2 : Int32) M3)))))
set_option maxHeartbeats 4000000 in
set_option maxRecDepth 100000 in
theorem bX5_wrongAddress_26 {p : Program} {l : Launch} {e : Env} {s : State} {m : MethodId} {args : Array Value} {below : List Frame} {meth : Method} {c : Code} {D : va_G} {ca : Nat → ClassId} {ad : Nat → Nat → Nat} {b0 : Nat} {o : Int32 × oa_M} (C : oa_Cx p s m args meth c cX5_wrongAddress 2 (some .int) RX5 D ca b0 ad) : ∀ (n : Nat), ∀ (x1 : Int32) (z0 : Int32) (M : oa_M), BX5_wrongAddress_26 n x1 z0 M = some o → ∀ (H : Heap) (locs : List Loc), oa_H D ca ad M H → va_S (fun q => b0 ≤ q) s.heap H locs → ∀ (ls : Array Slot), lv_has ls 2 [(0, .ref (ad 20 0)), (1, .int x1)] → W p l e ({ frames := 1, cells := 0, slots := 0, locals := 22 } : Room) s m args below meth c H locs 0 0 (MQ below (va_Qi (fun (r' : Int32) (u : oa_M) => r' = o.1 ∧ u = o.2) (fun u t => oa_H D ca ad u t.heap) (fun q => b0 ≤ q)) args s 0 0 (fun q => b0 ≤ q)) (F0 m 26 ls [.int z0]) := by
  obtain ⟨hx, hb, hml, hr, hlocks, hown, hts, hE, hw⟩ := id C
  intro n x1 z0 M hf H locs hH hS ls hl
  unfold BX5_wrongAddress_26 at hf
  cases hf
  exact oa_reti hx hb hr hlocks rfl hS hH dX5_wrongAddress_26
set_option maxHeartbeats 4000000 in
set_option maxRecDepth 100000 in
theorem cX5_wrongAddress_k (l : Launch) (D : va_G) (ca : Nat → ClassId) (ad : Nat → Nat → Nat) (b0 : Nat) (hw : oa_W ad b0) (n : Nat) (x1 : Int32) (M : oa_M) (o : Int32 × oa_M) (hf : FX5_wrongAddress n x1 M = some o) : oa_Mi l yX5_wrongAddress (oa_w yX5_wrongAddress cX5_wrongAddress 2 (some .int)) ({ frames := 1, cells := 0, slots := 0, locals := 22 } : Room) D ca ad b0 [.ref (ad 20 0), .int x1] M o.1 o.2 := by
  refine oa_ofW (cc := cX5_wrongAddress) (maxL := 2) (ret := some .int) (by decide) rfl (Nat.le_of_ble_eq_true rfl) ?_
  intro p e s m below meth c hx hb hml hr hlocks hown hts0 hP ls hl
  obtain ⟨hH, hE⟩ := hP
  have hts : ∀ w ∈ oa_T, w.before _ s = true := fun w h => hts0 w (List.mem_cons_of_mem _ h)
  have hS : va_S (fun q => b0 ≤ q) s.heap s.heap [] := va_S.rf
  have C : oa_Cx p s m _ meth c cX5_wrongAddress 2 (some .int) RX5 D ca b0 ad := ⟨hx, hb, hml, hr, hlocks, hown, hts, hE, hw⟩
  have hl : lv_has ls 2 [(0, .ref (ad 20 0)), (1, .int x1)] := hl
  unfold FX5_wrongAddress at hf
  refine lv_aload_n hx hb dX5_wrongAddress_0 rfl (lv_at hl 0 rfl) ?_
  refine oa_get (ci := 5) (C := RX5) (T := TX5) (N := 31) (v := .int (M 20 0 13)) hx hb hts inX5 hown hE hH 20 0 (by decide) rfl rfl 13 (by decide) (hts _ tw_628) rfl dX5_wrongAddress_1 ?_
  refine lv_if_ne (tgt := 11) hx hb dX5_wrongAddress_4 (by decide) (fun hq1 => ?_) (fun hq1 => ?_)
  · rw [if_neg hq1] at hf
    refine lv_iload_n hx hb dX5_wrongAddress_11 rfl (lv_at hl 1 rfl) ?_
    refine lv_iconst (v := (0 : Int32)) hx hb dX5_wrongAddress_12 (by decide) ?_
    refine lv_bipush (v := (63 : Int32)) hx hb dX5_wrongAddress_13 (by decide) ?_
    obtain ⟨r2, M3, hc4, hf⟩ := oa_bdE hf
    refine oa_csi (As := [.int x1, .int (0 : Int32), .int (63 : Int32)]) (rest := []) ⟨hx, hb, hml, hown, hts⟩ (cX5_outside_ok l D ca ad b0 hw n x1 (0 : Int32) (63 : Int32) _ _ _ hc4) (va_cwS 3 hts (oa_gS tw_753 tw_754 tw_49 tw_755) rfl rfl rfl (by decide +kernel) ⟨Nat.le_of_ble_eq_true rfl, Nat.le_of_ble_eq_true rfl⟩) hE hH hS rfl hl.1 rfl (Nat.le_of_ble_eq_true rfl) dX5_wrongAddress_15 ⟨by decide, by decide⟩ (fun H locs hH hS => ?_)
    refine lv_if_eq (tgt := 25) hx hb dX5_wrongAddress_18 (by decide) (fun hq5 => ?_) (fun hq5 => ?_)
    · rw [if_pos hq5] at hf
      refine lv_iconst (v := (0 : Int32)) hx hb dX5_wrongAddress_25 (by decide) ?_
      exact bX5_wrongAddress_26 C n x1 (0 : Int32) _ hf _ _ hH hS _ (lv_sub hl [0, 1] rfl)
    · rw [if_neg hq5] at hf
      refine lv_iconst (v := (2 : Int32)) hx hb dX5_wrongAddress_21 (by decide) ?_
      refine lv_goto (tgt := 26) hx hb dX5_wrongAddress_22 (by decide) ?_
      exact bX5_wrongAddress_26 C n x1 (2 : Int32) _ hf _ _ hH hS _ (lv_sub hl [0, 1] rfl)
  · rw [if_pos hq1] at hf
    refine lv_iconst (v := (1 : Int32)) hx hb dX5_wrongAddress_7 (by decide) ?_
    refine lv_goto (tgt := 26) hx hb dX5_wrongAddress_8 (by decide) ?_
    exact bX5_wrongAddress_26 C n x1 (1 : Int32) _ hf _ _ hH hS _ (lv_sub hl [0, 1] rfl)
theorem cX5_wrongAddress_ok (l : Launch) (D : va_G) (ca : Nat → ClassId) (ad : Nat → Nat → Nat) (b0 : Nat) (hw : oa_W ad b0) (n : Nat) (x1 : Int32) (M : oa_M) (r : Int32) (M' : oa_M) (hf : FX5_wrongAddress n x1 M = some (r, M')) : oa_Mi l yX5_wrongAddress (oa_w yX5_wrongAddress cX5_wrongAddress 2 (some .int)) ({ frames := 1, cells := 0, slots := 0, locals := 22 } : Room) D ca ad b0 [.ref (ad 20 0), .int x1] M r M' := cX5_wrongAddress_k l D ca ad b0 hw n x1 M (r, M') hf
def BX5_decode_25 (n : Nat) (x1 : Int32) (z0 : Int32) (M : oa_M) : Option (Int32 × oa_M) := (some (z0, M))
def FX5_decode (n : Nat) (x1 : Int32) (M : oa_M) : Option (Int32 × oa_M) := (oa_bd (FX5_wrongAddress n x1 M) (fun r1 M2 => (if r1 = 0 then (oa_bd (FX5_decoded n x1 (oa_up M2 20 0 30 r1)) (fun r5 M6 => (BX5_decode_25 n x1 r5 M6))) else (BX5_decode_25 n x1 (0 : Int32) (oa_up M2 20 0 30 r1)))))
set_option maxHeartbeats 4000000 in
set_option maxRecDepth 100000 in
theorem bX5_decode_25 {p : Program} {l : Launch} {e : Env} {s : State} {m : MethodId} {args : Array Value} {below : List Frame} {meth : Method} {c : Code} {D : va_G} {ca : Nat → ClassId} {ad : Nat → Nat → Nat} {b0 : Nat} {o : Int32 × oa_M} (C : oa_Cx p s m args meth c cX5_decode 2 (some .int) RX5 D ca b0 ad) : ∀ (n : Nat), ∀ (x1 : Int32) (z0 : Int32) (M : oa_M), BX5_decode_25 n x1 z0 M = some o → ∀ (H : Heap) (locs : List Loc), oa_H D ca ad M H → va_S (fun q => b0 ≤ q) s.heap H locs → ∀ (ls : Array Slot), lv_has ls 2 [(0, .ref (ad 20 0)), (1, .int x1)] → W p l e ({ frames := 3, cells := 0, slots := 0, locals := 72 } : Room) s m args below meth c H locs 0 0 (MQ below (va_Qi (fun (r' : Int32) (u : oa_M) => r' = o.1 ∧ u = o.2) (fun u t => oa_H D ca ad u t.heap) (fun q => b0 ≤ q)) args s 0 0 (fun q => b0 ≤ q)) (F0 m 25 ls [.int z0]) := by
  obtain ⟨hx, hb, hml, hr, hlocks, hown, hts, hE, hw⟩ := id C
  intro n x1 z0 M hf H locs hH hS ls hl
  unfold BX5_decode_25 at hf
  cases hf
  exact oa_reti hx hb hr hlocks rfl hS hH dX5_decode_25
set_option maxHeartbeats 4000000 in
set_option maxRecDepth 100000 in
theorem cX5_decode_k (l : Launch) (D : va_G) (ca : Nat → ClassId) (ad : Nat → Nat → Nat) (b0 : Nat) (hw : oa_W ad b0) (n : Nat) (x1 : Int32) (M : oa_M) (o : Int32 × oa_M) (hf : FX5_decode n x1 M = some o) : oa_Mi l yX5_decode (oa_w yX5_decode cX5_decode 2 (some .int)) ({ frames := 3, cells := 0, slots := 0, locals := 72 } : Room) D ca ad b0 [.ref (ad 20 0), .int x1] M o.1 o.2 := by
  refine oa_ofW (cc := cX5_decode) (maxL := 2) (ret := some .int) (by decide) rfl (Nat.le_of_ble_eq_true rfl) ?_
  intro p e s m below meth c hx hb hml hr hlocks hown hts0 hP ls hl
  obtain ⟨hH, hE⟩ := hP
  have hts : ∀ w ∈ oa_T, w.before _ s = true := fun w h => hts0 w (List.mem_cons_of_mem _ h)
  have hS : va_S (fun q => b0 ≤ q) s.heap s.heap [] := va_S.rf
  have C : oa_Cx p s m _ meth c cX5_decode 2 (some .int) RX5 D ca b0 ad := ⟨hx, hb, hml, hr, hlocks, hown, hts, hE, hw⟩
  have hl : lv_has ls 2 [(0, .ref (ad 20 0)), (1, .int x1)] := hl
  unfold FX5_decode at hf
  refine lv_aload_n hx hb dX5_decode_0 rfl (lv_at hl 0 rfl) ?_
  refine lv_aload_n hx hb dX5_decode_1 rfl (lv_at hl 0 rfl) ?_
  refine lv_iload_n hx hb dX5_decode_2 rfl (lv_at hl 1 rfl) ?_
  obtain ⟨r1, M2, hc3, hf⟩ := oa_bdE hf
  refine oa_cvi (As := [.int x1]) (rest := [.ref (ad 20 0)]) ⟨hx, hb, hml, hown, hts⟩ (cX5_wrongAddress_ok l D ca ad b0 hw n x1 _ _ _ hc3) (cwV 1 hts (oa_gV tw_784 tw_786 tw_29 tw_49 tw_787) rfl rfl rfl (by decide +kernel) ⟨Nat.le_of_ble_eq_true rfl, Nat.le_of_ble_eq_true rfl⟩) hE hH hS (oa_recv (k := 20) (ci := 5) hE hH (by decide) rfl rfl) rfl hl.1 rfl (Nat.le_of_ble_eq_true rfl) dX5_decode_3 ⟨by decide, by decide⟩ (fun H locs hH hS => ?_)
  refine oa_put (ci := 5) (C := RX5) (T := TX5) (N := 31) (v := .int r1) (x := r1) hx hb hts inX5 tyX5 tyX5_ok nmX5 hown hE hw hH hS 20 0 (by decide) rfl rfl 30 (by decide) (hts _ tw_645) rfl rfl rfl (Nat.le_of_ble_eq_true rfl) rfl dX5_decode_6 (fun H locs hH hS => ?_)
  refine lv_aload_n hx hb dX5_decode_9 rfl (lv_at hl 0 rfl) ?_
  refine oa_get (ci := 5) (C := RX5) (T := TX5) (N := 31) (v := .int r1) hx hb hts inX5 hown hE hH 20 0 (by decide) rfl rfl 30 (by decide) (hts _ tw_645) rfl dX5_decode_10 ?_
  refine lv_if_ne (tgt := 24) hx hb dX5_decode_13 (by decide) (fun hq4 => ?_) (fun hq4 => ?_)
  · rw [if_neg hq4] at hf
    refine lv_iconst (v := (0 : Int32)) hx hb dX5_decode_24 (by decide) ?_
    exact bX5_decode_25 C n x1 (0 : Int32) _ hf _ _ hH hS _ (lv_sub hl [0, 1] rfl)
  · rw [if_pos hq4] at hf
    refine lv_aload_n hx hb dX5_decode_16 rfl (lv_at hl 0 rfl) ?_
    refine lv_iload_n hx hb dX5_decode_17 rfl (lv_at hl 1 rfl) ?_
    obtain ⟨r5, M6, hc7, hf⟩ := oa_bdE hf
    refine oa_cvi (As := [.int x1]) (rest := []) ⟨hx, hb, hml, hown, hts⟩ (cX5_decoded_ok l D ca ad b0 hw n x1 _ _ _ hc7) (cwV 1 hts (oa_gV tw_788 tw_790 tw_30 tw_49 tw_791) rfl rfl rfl (by decide +kernel) ⟨Nat.le_of_ble_eq_true rfl, Nat.le_of_ble_eq_true rfl⟩) hE hH hS (oa_recv (k := 20) (ci := 5) hE hH (by decide) rfl rfl) rfl hl.1 rfl (Nat.le_of_ble_eq_true rfl) dX5_decode_18 ⟨by decide, by decide⟩ (fun H locs hH hS => ?_)
    refine lv_goto (tgt := 25) hx hb dX5_decode_21 (by decide) ?_
    exact bX5_decode_25 C n x1 r5 _ hf _ _ hH hS _ (lv_sub hl [0, 1] rfl)
theorem cX5_decode_ok (l : Launch) (D : va_G) (ca : Nat → ClassId) (ad : Nat → Nat → Nat) (b0 : Nat) (hw : oa_W ad b0) (n : Nat) (x1 : Int32) (M : oa_M) (r : Int32) (M' : oa_M) (hf : FX5_decode n x1 M = some (r, M')) : oa_Mi l yX5_decode (oa_w yX5_decode cX5_decode 2 (some .int)) ({ frames := 3, cells := 0, slots := 0, locals := 72 } : Room) D ca ad b0 [.ref (ad 20 0), .int x1] M r M' := cX5_decode_k l D ca ad b0 hw n x1 M (r, M') hf
def BX5_valueOf_162 (n : Nat) (x1 : Int32) (x2 : Int32) (x3 : Int32) (x4 : Int32) (x5 : Int32) (x6 : Int32) (z0 : Int32) (z1 : Int32) (M : oa_M) : Option (Int32 × oa_M) := (some ((z0 + z1), M))
def BX5_valueOf_116 (n : Nat) (x1 : Int32) (x2 : Int32) (x3 : Int32) (x4 : Int32) (x5 : Int32) (x6 : Int32) (z0 : Int32) (M : oa_M) : Option (Int32 × oa_M) := (if oa_in x6 36 = true then (if oa_in x6 36 = true then (if oa_in x6 36 = true then (if (M 30 0 x6.toNatClampNeg) = (2 : Int32) then (if oa_in x1 12 = true then (BX5_valueOf_162 n x1 x2 x3 z0 x5 x6 ((z0 * (M 31 0 x6.toNatClampNeg)) + (M 32 0 x6.toNatClampNeg)) (x2 + ((M 26 0 x1.toNatClampNeg) / (8 : Int32))) M) else none) else (BX5_valueOf_162 n x1 x2 x3 z0 x5 x6 ((z0 * (M 31 0 x6.toNatClampNeg)) + (M 32 0 x6.toNatClampNeg)) (0 : Int32) M)) else none) else none) else none)
def BX5_valueOf_114 (n : Nat) (x1 : Int32) (x2 : Int32) (x3 : Int32) (x4 : Int32) (x5 : Int32) (x6 : Int32) (M : oa_M) : Option (Int32 × oa_M) := (BX5_valueOf_116 n x1 x2 x3 x4 x5 x6 x4 M)
def BX5_valueOf_70 (rec9 : Int32 → Int32 → Int32 → Int32 → Int32 → Int32 → oa_M → Option (Int32 × oa_M)) (n : Nat) (x1 : Int32) (x2 : Int32) (x3 : Int32) (x4 : Int32) (x5 : Int32) (x6 : Int32) (M : oa_M) : Option (Int32 × oa_M) := (rec9 x1 x2 x3 x4 x5 (x6 + (1 : Int32)) M)
def BX5_valueOf_59 (rec9 : Int32 → Int32 → Int32 → Int32 → Int32 → Int32 → oa_M → Option (Int32 × oa_M)) (n : Nat) (x1 : Int32) (x2 : Int32) (x3 : Int32) (x4 : Int32) (x5 : Int32) (x6 : Int32) (x7 : Int32) (z0 : Int32) (M : oa_M) : Option (Int32 × oa_M) := (BX5_valueOf_70 rec9 n x1 x2 x3 (((2 : Int32) * x4) + x7) z0 x6 M)
def BX5_valueOf_9 : Nat → Int32 → Int32 → Int32 → Int32 → Int32 → Int32 → oa_M → Option (Int32 × oa_M)
  | 0, _, _, _, _, _, _, _ => none
  | n + 1, x1, x2, x3, x4, x5, x6, M => (if oa_in x1 12 = true then (if (M 26 0 x1.toNatClampNeg) ≤ x6 then (if oa_in (((3 : Int32) * x1) + x3) 36 = true then (if (M 30 0 (((3 : Int32) * x1) + x3).toNatClampNeg) ≤ 0 then (BX5_valueOf_114 n x1 x2 x3 x4 x5 (((3 : Int32) * x1) + x3) M) else (if x5 = (1 : Int32) then (if oa_in (((3 : Int32) * x1) + x3) 36 = true then (BX5_valueOf_116 n x1 x2 x3 x4 x5 (((3 : Int32) * x1) + x3) (x4 - ((1 : Int32) <<< ((M 29 0 (((3 : Int32) * x1) + x3).toNatClampNeg) &&& 31))) M) else none) else (BX5_valueOf_114 n x1 x2 x3 x4 x5 (((3 : Int32) * x1) + x3) M))) else none) else (if oa_in (((24 : Int32) * x1) + x6) 288 = true then (if (M 27 0 (((24 : Int32) * x1) + x6).toNatClampNeg) = ((2 : Int32) + x3) then (oa_bd (FX5_bitAt n x2 x6 M) (fun r9 M10 => (if 0 ≤ x5 then (BX5_valueOf_59 (BX5_valueOf_9 n) n x1 x2 x3 x4 x5 x6 r9 x5 M10) else (BX5_valueOf_59 (BX5_valueOf_9 n) n x1 x2 x3 x4 x5 x6 r9 r9 M10)))) else (BX5_valueOf_70 (BX5_valueOf_9 n) n x1 x2 x3 x4 x5 x6 M)) else none)) else none)
def FX5_valueOf (n : Nat) (x1 : Int32) (x2 : Int32) (x3 : Int32) (M : oa_M) : Option (Int32 × oa_M) := (BX5_valueOf_9 n x1 x2 x3 (0 : Int32) (-1 : Int32) (0 : Int32) M)
set_option maxHeartbeats 4000000 in
set_option maxRecDepth 100000 in
theorem bX5_valueOf_162 {p : Program} {l : Launch} {e : Env} {s : State} {m : MethodId} {args : Array Value} {below : List Frame} {meth : Method} {c : Code} {D : va_G} {ca : Nat → ClassId} {ad : Nat → Nat → Nat} {b0 : Nat} {o : Int32 × oa_M} (C : oa_Cx p s m args meth c cX5_valueOf 8 (some .int) RX5 D ca b0 ad) : ∀ (n : Nat), ∀ (x1 : Int32) (x2 : Int32) (x3 : Int32) (x4 : Int32) (x5 : Int32) (x6 : Int32) (z0 : Int32) (z1 : Int32) (M : oa_M), BX5_valueOf_162 n x1 x2 x3 x4 x5 x6 z0 z1 M = some o → ∀ (H : Heap) (locs : List Loc), oa_H D ca ad M H → va_S (fun q => b0 ≤ q) s.heap H locs → ∀ (ls : Array Slot), lv_has ls 8 [(0, .ref (ad 20 0)), (1, .int x1), (2, .int x2), (3, .int x3), (4, .int x4), (5, .int x5), (6, .int x6)] → W p l e ({ frames := 1, cells := 0, slots := 0, locals := 22 } : Room) s m args below meth c H locs 0 0 (MQ below (va_Qi (fun (r' : Int32) (u : oa_M) => r' = o.1 ∧ u = o.2) (fun u t => oa_H D ca ad u t.heap) (fun q => b0 ≤ q)) args s 0 0 (fun q => b0 ≤ q)) (F0 m 162 ls [.int z1, .int z0]) := by
  obtain ⟨hx, hb, hml, hr, hlocks, hown, hts, hE, hw⟩ := id C
  intro n x1 x2 x3 x4 x5 x6 z0 z1 M hf H locs hH hS ls hl
  unfold BX5_valueOf_162 at hf
  refine lv_iadd hx hb dX5_valueOf_162 ?_
  cases hf
  exact oa_reti hx hb hr hlocks rfl hS hH dX5_valueOf_163
set_option maxHeartbeats 4000000 in
set_option maxRecDepth 100000 in
theorem bX5_valueOf_116 {p : Program} {l : Launch} {e : Env} {s : State} {m : MethodId} {args : Array Value} {below : List Frame} {meth : Method} {c : Code} {D : va_G} {ca : Nat → ClassId} {ad : Nat → Nat → Nat} {b0 : Nat} {o : Int32 × oa_M} (C : oa_Cx p s m args meth c cX5_valueOf 8 (some .int) RX5 D ca b0 ad) : ∀ (n : Nat), ∀ (x1 : Int32) (x2 : Int32) (x3 : Int32) (x4 : Int32) (x5 : Int32) (x6 : Int32) (z0 : Int32) (M : oa_M), BX5_valueOf_116 n x1 x2 x3 x4 x5 x6 z0 M = some o → ∀ (H : Heap) (locs : List Loc), oa_H D ca ad M H → va_S (fun q => b0 ≤ q) s.heap H locs → ∀ (ls : Array Slot), lv_has ls 8 [(0, .ref (ad 20 0)), (1, .int x1), (2, .int x2), (3, .int x3), (4, .int x4), (5, .int x5), (6, .int x6)] → W p l e ({ frames := 1, cells := 0, slots := 0, locals := 22 } : Room) s m args below meth c H locs 0 0 (MQ below (va_Qi (fun (r' : Int32) (u : oa_M) => r' = o.1 ∧ u = o.2) (fun u t => oa_H D ca ad u t.heap) (fun q => b0 ≤ q)) args s 0 0 (fun q => b0 ≤ q)) (F0 m 116 ls [.int z0]) := by
  obtain ⟨hx, hb, hml, hr, hlocks, hown, hts, hE, hw⟩ := id C
  intro n x1 x2 x3 x4 x5 x6 z0 M hf H locs hH hS ls hl
  unfold BX5_valueOf_116 at hf
  refine lv_istore (lv' := [(4, .int z0), (0, .ref (ad 20 0)), (1, .int x1), (2, .int x2), (3, .int x3), (5, .int x5), (6, .int x6)]) hx hb dX5_valueOf_116 hl (by decide) rfl (fun ls hl => ?_)
  refine lv_iload hx hb dX5_valueOf_118 (lv_at hl 0 rfl) ?_
  refine lv_aload_n hx hb dX5_valueOf_120 rfl (lv_at hl 1 rfl) ?_
  refine oa_get (ci := 5) (C := RX5) (T := TX5) (N := 31) (v := .ref (ad 31 0)) hx hb hts inX5 hown hE hH 20 0 (by decide) rfl rfl 11 (by decide) (hts _ tw_626) rfl dX5_valueOf_121 ?_
  refine lv_iload hx hb dX5_valueOf_124 (lv_at hl 6 rfl) ?_
  obtain ⟨hk1, hf⟩ := oa_ck hf
  refine oa_ild (v := (M 31 0 x6.toNatClampNeg)) hx hb hE hH 31 0 (by decide) 36 rfl rfl (oa_in_vp hk1) dX5_valueOf_126 ?_
  refine lv_imul hx hb dX5_valueOf_127 ?_
  refine lv_aload_n hx hb dX5_valueOf_128 rfl (lv_at hl 1 rfl) ?_
  refine oa_get (ci := 5) (C := RX5) (T := TX5) (N := 31) (v := .ref (ad 32 0)) hx hb hts inX5 hown hE hH 20 0 (by decide) rfl rfl 12 (by decide) (hts _ tw_627) rfl dX5_valueOf_129 ?_
  refine lv_iload hx hb dX5_valueOf_132 (lv_at hl 6 rfl) ?_
  obtain ⟨hk2, hf⟩ := oa_ck hf
  refine oa_ild (v := (M 32 0 x6.toNatClampNeg)) hx hb hE hH 32 0 (by decide) 36 rfl rfl (oa_in_vp hk2) dX5_valueOf_134 ?_
  refine lv_iadd hx hb dX5_valueOf_135 ?_
  refine lv_aload_n hx hb dX5_valueOf_136 rfl (lv_at hl 1 rfl) ?_
  refine oa_get (ci := 5) (C := RX5) (T := TX5) (N := 31) (v := .ref (ad 30 0)) hx hb hts inX5 hown hE hH 20 0 (by decide) rfl rfl 10 (by decide) (hts _ tw_625) rfl dX5_valueOf_137 ?_
  refine lv_iload hx hb dX5_valueOf_140 (lv_at hl 6 rfl) ?_
  obtain ⟨hk3, hf⟩ := oa_ck hf
  refine oa_ild (v := (M 30 0 x6.toNatClampNeg)) hx hb hE hH 30 0 (by decide) 36 rfl rfl (oa_in_vp hk3) dX5_valueOf_142 ?_
  refine lv_iconst (v := (2 : Int32)) hx hb dX5_valueOf_143 (by decide) ?_
  refine lv_icmp_ne (tgt := 161) hx hb dX5_valueOf_144 (by decide) (fun hq4 => ?_) (fun hq4 => ?_)
  · rw [if_neg hq4] at hf
    refine lv_iconst (v := (0 : Int32)) hx hb dX5_valueOf_161 (by decide) ?_
    exact bX5_valueOf_162 C n x1 x2 x3 z0 x5 x6 ((z0 * (M 31 0 x6.toNatClampNeg)) + (M 32 0 x6.toNatClampNeg)) (0 : Int32) _ hf _ _ hH hS _ (lv_sub hl [1, 2, 3, 4, 0, 5, 6] rfl)
  · rw [if_pos hq4] at hf
    refine lv_iload_n hx hb dX5_valueOf_147 rfl (lv_at hl 3 rfl) ?_
    refine lv_aload_n hx hb dX5_valueOf_148 rfl (lv_at hl 1 rfl) ?_
    refine oa_get (ci := 5) (C := RX5) (T := TX5) (N := 31) (v := .ref (ad 26 0)) hx hb hts inX5 hown hE hH 20 0 (by decide) rfl rfl 6 (by decide) (hts _ tw_621) rfl dX5_valueOf_149 ?_
    refine lv_iload_n hx hb dX5_valueOf_152 rfl (lv_at hl 2 rfl) ?_
    obtain ⟨hk5, hf⟩ := oa_ck hf
    refine oa_ild (v := (M 26 0 x1.toNatClampNeg)) hx hb hE hH 26 0 (by decide) 12 rfl rfl (oa_in_vp hk5) dX5_valueOf_153 ?_
    refine lv_bipush (v := (8 : Int32)) hx hb dX5_valueOf_154 (by decide) ?_
    refine lv_idiv hx hb dX5_valueOf_156 (by decide) ?_
    refine lv_iadd hx hb dX5_valueOf_157 ?_
    refine lv_goto (tgt := 162) hx hb dX5_valueOf_158 (by decide) ?_
    exact bX5_valueOf_162 C n x1 x2 x3 z0 x5 x6 ((z0 * (M 31 0 x6.toNatClampNeg)) + (M 32 0 x6.toNatClampNeg)) (x2 + ((M 26 0 x1.toNatClampNeg) / (8 : Int32))) _ hf _ _ hH hS _ (lv_sub hl [1, 2, 3, 4, 0, 5, 6] rfl)
set_option maxHeartbeats 4000000 in
set_option maxRecDepth 100000 in
theorem bX5_valueOf_114 {p : Program} {l : Launch} {e : Env} {s : State} {m : MethodId} {args : Array Value} {below : List Frame} {meth : Method} {c : Code} {D : va_G} {ca : Nat → ClassId} {ad : Nat → Nat → Nat} {b0 : Nat} {o : Int32 × oa_M} (C : oa_Cx p s m args meth c cX5_valueOf 8 (some .int) RX5 D ca b0 ad) : ∀ (n : Nat), ∀ (x1 : Int32) (x2 : Int32) (x3 : Int32) (x4 : Int32) (x5 : Int32) (x6 : Int32) (M : oa_M), BX5_valueOf_114 n x1 x2 x3 x4 x5 x6 M = some o → ∀ (H : Heap) (locs : List Loc), oa_H D ca ad M H → va_S (fun q => b0 ≤ q) s.heap H locs → ∀ (ls : Array Slot), lv_has ls 8 [(0, .ref (ad 20 0)), (1, .int x1), (2, .int x2), (3, .int x3), (4, .int x4), (5, .int x5), (6, .int x6)] → W p l e ({ frames := 1, cells := 0, slots := 0, locals := 22 } : Room) s m args below meth c H locs 0 0 (MQ below (va_Qi (fun (r' : Int32) (u : oa_M) => r' = o.1 ∧ u = o.2) (fun u t => oa_H D ca ad u t.heap) (fun q => b0 ≤ q)) args s 0 0 (fun q => b0 ≤ q)) (F0 m 114 ls []) := by
  obtain ⟨hx, hb, hml, hr, hlocks, hown, hts, hE, hw⟩ := id C
  intro n x1 x2 x3 x4 x5 x6 M hf H locs hH hS ls hl
  unfold BX5_valueOf_114 at hf
  refine lv_iload hx hb dX5_valueOf_114 (lv_at hl 4 rfl) ?_
  exact bX5_valueOf_116 C n x1 x2 x3 x4 x5 x6 x4 _ hf _ _ hH hS _ (lv_sub hl [0, 1, 2, 3, 4, 5, 6] rfl)
set_option maxHeartbeats 4000000 in
set_option maxRecDepth 100000 in
theorem bX5_valueOf_70 {p : Program} {l : Launch} {e : Env} {s : State} {m : MethodId} {args : Array Value} {below : List Frame} {meth : Method} {c : Code} {D : va_G} {ca : Nat → ClassId} {ad : Nat → Nat → Nat} {b0 : Nat} {o : Int32 × oa_M} (C : oa_Cx p s m args meth c cX5_valueOf 8 (some .int) RX5 D ca b0 ad) (rec9 : Int32 → Int32 → Int32 → Int32 → Int32 → Int32 → oa_M → Option (Int32 × oa_M)) (hrec9 : ∀ (x1 : Int32) (x2 : Int32) (x3 : Int32) (x4 : Int32) (x5 : Int32) (x6 : Int32) (M : oa_M), rec9 x1 x2 x3 x4 x5 x6 M = some o → ∀ (H : Heap) (locs : List Loc), oa_H D ca ad M H → va_S (fun q => b0 ≤ q) s.heap H locs → ∀ (ls : Array Slot), lv_has ls 8 [(0, .ref (ad 20 0)), (1, .int x1), (2, .int x2), (3, .int x3), (4, .int x4), (5, .int x5), (6, .int x6)] → W p l e ({ frames := 1, cells := 0, slots := 0, locals := 22 } : Room) s m args below meth c H locs 0 0 (MQ below (va_Qi (fun (r' : Int32) (u : oa_M) => r' = o.1 ∧ u = o.2) (fun u t => oa_H D ca ad u t.heap) (fun q => b0 ≤ q)) args s 0 0 (fun q => b0 ≤ q)) (F0 m 9 ls [])) : ∀ (n : Nat), ∀ (x1 : Int32) (x2 : Int32) (x3 : Int32) (x4 : Int32) (x5 : Int32) (x6 : Int32) (M : oa_M), BX5_valueOf_70 rec9 n x1 x2 x3 x4 x5 x6 M = some o → ∀ (H : Heap) (locs : List Loc), oa_H D ca ad M H → va_S (fun q => b0 ≤ q) s.heap H locs → ∀ (ls : Array Slot), lv_has ls 8 [(0, .ref (ad 20 0)), (1, .int x1), (2, .int x2), (3, .int x3), (4, .int x4), (5, .int x5), (6, .int x6)] → W p l e ({ frames := 1, cells := 0, slots := 0, locals := 22 } : Room) s m args below meth c H locs 0 0 (MQ below (va_Qi (fun (r' : Int32) (u : oa_M) => r' = o.1 ∧ u = o.2) (fun u t => oa_H D ca ad u t.heap) (fun q => b0 ≤ q)) args s 0 0 (fun q => b0 ≤ q)) (F0 m 70 ls []) := by
  obtain ⟨hx, hb, hml, hr, hlocks, hown, hts, hE, hw⟩ := id C
  intro n x1 x2 x3 x4 x5 x6 M hf H locs hH hS ls hl
  unfold BX5_valueOf_70 at hf
  refine lv_iinc (v := (x6 + (1 : Int32))) (lv' := [(6, .int (x6 + (1 : Int32))), (0, .ref (ad 20 0)), (1, .int x1), (2, .int x2), (3, .int x3), (4, .int x4), (5, .int x5)]) hx hb dX5_valueOf_70 hl (k := 6) rfl rfl (by decide) rfl (fun ls hl => ?_)
  refine lv_goto (tgt := 9) hx hb dX5_valueOf_73 (by decide) ?_
  exact hrec9 x1 x2 x3 x4 x5 (x6 + (1 : Int32)) _ hf _ _ hH hS _ (lv_sub hl [1, 2, 3, 4, 5, 6, 0] rfl)
set_option maxHeartbeats 4000000 in
set_option maxRecDepth 100000 in
theorem bX5_valueOf_59 {p : Program} {l : Launch} {e : Env} {s : State} {m : MethodId} {args : Array Value} {below : List Frame} {meth : Method} {c : Code} {D : va_G} {ca : Nat → ClassId} {ad : Nat → Nat → Nat} {b0 : Nat} {o : Int32 × oa_M} (C : oa_Cx p s m args meth c cX5_valueOf 8 (some .int) RX5 D ca b0 ad) (rec9 : Int32 → Int32 → Int32 → Int32 → Int32 → Int32 → oa_M → Option (Int32 × oa_M)) (hrec9 : ∀ (x1 : Int32) (x2 : Int32) (x3 : Int32) (x4 : Int32) (x5 : Int32) (x6 : Int32) (M : oa_M), rec9 x1 x2 x3 x4 x5 x6 M = some o → ∀ (H : Heap) (locs : List Loc), oa_H D ca ad M H → va_S (fun q => b0 ≤ q) s.heap H locs → ∀ (ls : Array Slot), lv_has ls 8 [(0, .ref (ad 20 0)), (1, .int x1), (2, .int x2), (3, .int x3), (4, .int x4), (5, .int x5), (6, .int x6)] → W p l e ({ frames := 1, cells := 0, slots := 0, locals := 22 } : Room) s m args below meth c H locs 0 0 (MQ below (va_Qi (fun (r' : Int32) (u : oa_M) => r' = o.1 ∧ u = o.2) (fun u t => oa_H D ca ad u t.heap) (fun q => b0 ≤ q)) args s 0 0 (fun q => b0 ≤ q)) (F0 m 9 ls [])) : ∀ (n : Nat), ∀ (x1 : Int32) (x2 : Int32) (x3 : Int32) (x4 : Int32) (x5 : Int32) (x6 : Int32) (x7 : Int32) (z0 : Int32) (M : oa_M), BX5_valueOf_59 rec9 n x1 x2 x3 x4 x5 x6 x7 z0 M = some o → ∀ (H : Heap) (locs : List Loc), oa_H D ca ad M H → va_S (fun q => b0 ≤ q) s.heap H locs → ∀ (ls : Array Slot), lv_has ls 8 [(0, .ref (ad 20 0)), (1, .int x1), (2, .int x2), (3, .int x3), (4, .int x4), (5, .int x5), (6, .int x6), (7, .int x7)] → W p l e ({ frames := 1, cells := 0, slots := 0, locals := 22 } : Room) s m args below meth c H locs 0 0 (MQ below (va_Qi (fun (r' : Int32) (u : oa_M) => r' = o.1 ∧ u = o.2) (fun u t => oa_H D ca ad u t.heap) (fun q => b0 ≤ q)) args s 0 0 (fun q => b0 ≤ q)) (F0 m 59 ls [.int z0]) := by
  obtain ⟨hx, hb, hml, hr, hlocks, hown, hts, hE, hw⟩ := id C
  intro n x1 x2 x3 x4 x5 x6 x7 z0 M hf H locs hH hS ls hl
  unfold BX5_valueOf_59 at hf
  refine lv_istore (lv' := [(5, .int z0), (0, .ref (ad 20 0)), (1, .int x1), (2, .int x2), (3, .int x3), (4, .int x4), (6, .int x6), (7, .int x7)]) hx hb dX5_valueOf_59 hl (by decide) rfl (fun ls hl => ?_)
  refine lv_iconst (v := (2 : Int32)) hx hb dX5_valueOf_61 (by decide) ?_
  refine lv_iload hx hb dX5_valueOf_62 (lv_at hl 5 rfl) ?_
  refine lv_imul hx hb dX5_valueOf_64 ?_
  refine lv_iload hx hb dX5_valueOf_65 (lv_at hl 7 rfl) ?_
  refine lv_iadd hx hb dX5_valueOf_67 ?_
  refine lv_istore (lv' := [(4, .int (((2 : Int32) * x4) + x7)), (5, .int z0), (0, .ref (ad 20 0)), (1, .int x1), (2, .int x2), (3, .int x3), (6, .int x6), (7, .int x7)]) hx hb dX5_valueOf_68 hl (by decide) rfl (fun ls hl => ?_)
  exact bX5_valueOf_70 C _ hrec9 n x1 x2 x3 (((2 : Int32) * x4) + x7) z0 x6 _ hf _ _ hH hS _ (lv_sub hl [2, 3, 4, 5, 0, 1, 6] rfl)
set_option maxHeartbeats 4000000 in
set_option maxRecDepth 100000 in
theorem bX5_valueOf_9 {p : Program} {l : Launch} {e : Env} {s : State} {m : MethodId} {args : Array Value} {below : List Frame} {meth : Method} {c : Code} {D : va_G} {ca : Nat → ClassId} {ad : Nat → Nat → Nat} {b0 : Nat} {o : Int32 × oa_M} (C : oa_Cx p s m args meth c cX5_valueOf 8 (some .int) RX5 D ca b0 ad) : ∀ (n : Nat), ∀ (x1 : Int32) (x2 : Int32) (x3 : Int32) (x4 : Int32) (x5 : Int32) (x6 : Int32) (M : oa_M), BX5_valueOf_9 n x1 x2 x3 x4 x5 x6 M = some o → ∀ (H : Heap) (locs : List Loc), oa_H D ca ad M H → va_S (fun q => b0 ≤ q) s.heap H locs → ∀ (ls : Array Slot), lv_has ls 8 [(0, .ref (ad 20 0)), (1, .int x1), (2, .int x2), (3, .int x3), (4, .int x4), (5, .int x5), (6, .int x6)] → W p l e ({ frames := 1, cells := 0, slots := 0, locals := 22 } : Room) s m args below meth c H locs 0 0 (MQ below (va_Qi (fun (r' : Int32) (u : oa_M) => r' = o.1 ∧ u = o.2) (fun u t => oa_H D ca ad u t.heap) (fun q => b0 ≤ q)) args s 0 0 (fun q => b0 ≤ q)) (F0 m 9 ls []) := by
  obtain ⟨hx, hb, hml, hr, hlocks, hown, hts, hE, hw⟩ := id C
  intro n
  induction n with
  | zero => intro x1 x2 x3 x4 x5 x6 M hf; cases hf
  | succ n ih =>
    intro x1 x2 x3 x4 x5 x6 M hf H locs hH hS ls hl
    have hrec9 := ih
    unfold BX5_valueOf_9 at hf
    refine lv_iload hx hb dX5_valueOf_9 (lv_at hl 6 rfl) ?_
    refine lv_aload_n hx hb dX5_valueOf_11 rfl (lv_at hl 0 rfl) ?_
    refine oa_get (ci := 5) (C := RX5) (T := TX5) (N := 31) (v := .ref (ad 26 0)) hx hb hts inX5 hown hE hH 20 0 (by decide) rfl rfl 6 (by decide) (hts _ tw_621) rfl dX5_valueOf_12 ?_
    refine lv_iload_n hx hb dX5_valueOf_15 rfl (lv_at hl 1 rfl) ?_
    obtain ⟨hk1, hf⟩ := oa_ck hf
    refine oa_ild (v := (M 26 0 x1.toNatClampNeg)) hx hb hE hH 26 0 (by decide) 12 rfl rfl (oa_in_vp hk1) dX5_valueOf_16 ?_
    refine lv_icmp_ge (tgt := 76) hx hb dX5_valueOf_17 (by decide) (fun hq2 => ?_) (fun hq2 => ?_)
    · rw [if_pos hq2] at hf
      refine lv_iconst (v := (3 : Int32)) hx hb dX5_valueOf_76 (by decide) ?_
      refine lv_iload_n hx hb dX5_valueOf_77 rfl (lv_at hl 1 rfl) ?_
      refine lv_imul hx hb dX5_valueOf_78 ?_
      refine lv_iload_n hx hb dX5_valueOf_79 rfl (lv_at hl 3 rfl) ?_
      refine lv_iadd hx hb dX5_valueOf_80 ?_
      refine lv_istore (lv' := [(6, .int (((3 : Int32) * x1) + x3)), (0, .ref (ad 20 0)), (1, .int x1), (2, .int x2), (3, .int x3), (4, .int x4), (5, .int x5)]) hx hb dX5_valueOf_81 hl (by decide) rfl (fun ls hl => ?_)
      refine lv_aload_n hx hb dX5_valueOf_83 rfl (lv_at hl 1 rfl) ?_
      refine oa_get (ci := 5) (C := RX5) (T := TX5) (N := 31) (v := .ref (ad 30 0)) hx hb hts inX5 hown hE hH 20 0 (by decide) rfl rfl 10 (by decide) (hts _ tw_625) rfl dX5_valueOf_84 ?_
      refine lv_iload hx hb dX5_valueOf_87 (lv_at hl 0 rfl) ?_
      obtain ⟨hk3, hf⟩ := oa_ck hf
      refine oa_ild (v := (M 30 0 (((3 : Int32) * x1) + x3).toNatClampNeg)) hx hb hE hH 30 0 (by decide) 36 rfl rfl (oa_in_vp hk3) dX5_valueOf_89 ?_
      refine lv_if_le (tgt := 114) hx hb dX5_valueOf_90 (by decide) (fun hq4 => ?_) (fun hq4 => ?_)
      · rw [if_pos hq4] at hf
        exact bX5_valueOf_114 C n x1 x2 x3 x4 x5 (((3 : Int32) * x1) + x3) _ hf _ _ hH hS _ (lv_sub hl [1, 2, 3, 4, 5, 6, 0] rfl)
      · rw [if_neg hq4] at hf
        refine lv_iload hx hb dX5_valueOf_93 (lv_at hl 6 rfl) ?_
        refine lv_iconst (v := (1 : Int32)) hx hb dX5_valueOf_95 (by decide) ?_
        refine lv_icmp_ne (tgt := 114) hx hb dX5_valueOf_96 (by decide) (fun hq5 => ?_) (fun hq5 => ?_)
        · rw [if_neg hq5] at hf
          exact bX5_valueOf_114 C n x1 x2 x3 x4 x5 (((3 : Int32) * x1) + x3) _ hf _ _ hH hS _ (lv_sub hl [1, 2, 3, 4, 5, 6, 0] rfl)
        · rw [if_pos hq5] at hf
          refine lv_iload hx hb dX5_valueOf_99 (lv_at hl 5 rfl) ?_
          refine lv_iconst (v := (1 : Int32)) hx hb dX5_valueOf_101 (by decide) ?_
          refine lv_aload_n hx hb dX5_valueOf_102 rfl (lv_at hl 1 rfl) ?_
          refine oa_get (ci := 5) (C := RX5) (T := TX5) (N := 31) (v := .ref (ad 29 0)) hx hb hts inX5 hown hE hH 20 0 (by decide) rfl rfl 9 (by decide) (hts _ tw_624) rfl dX5_valueOf_103 ?_
          refine lv_iload hx hb dX5_valueOf_106 (lv_at hl 0 rfl) ?_
          obtain ⟨hk6, hf⟩ := oa_ck hf
          refine oa_ild (v := (M 29 0 (((3 : Int32) * x1) + x3).toNatClampNeg)) hx hb hE hH 29 0 (by decide) 36 rfl rfl (oa_in_vp hk6) dX5_valueOf_108 ?_
          refine lv_ishl hx hb dX5_valueOf_109 ?_
          refine lv_isub hx hb dX5_valueOf_110 ?_
          refine lv_goto (tgt := 116) hx hb dX5_valueOf_111 (by decide) ?_
          exact bX5_valueOf_116 C n x1 x2 x3 x4 x5 (((3 : Int32) * x1) + x3) (x4 - ((1 : Int32) <<< ((M 29 0 (((3 : Int32) * x1) + x3).toNatClampNeg) &&& 31))) _ hf _ _ hH hS _ (lv_sub hl [1, 2, 3, 4, 5, 6, 0] rfl)
    · rw [if_neg hq2] at hf
      refine lv_aload_n hx hb dX5_valueOf_20 rfl (lv_at hl 0 rfl) ?_
      refine oa_get (ci := 5) (C := RX5) (T := TX5) (N := 31) (v := .ref (ad 27 0)) hx hb hts inX5 hown hE hH 20 0 (by decide) rfl rfl 7 (by decide) (hts _ tw_622) rfl dX5_valueOf_21 ?_
      refine lv_bipush (v := (24 : Int32)) hx hb dX5_valueOf_24 (by decide) ?_
      refine lv_iload_n hx hb dX5_valueOf_26 rfl (lv_at hl 1 rfl) ?_
      refine lv_imul hx hb dX5_valueOf_27 ?_
      refine lv_iload hx hb dX5_valueOf_28 (lv_at hl 6 rfl) ?_
      refine lv_iadd hx hb dX5_valueOf_30 ?_
      obtain ⟨hk7, hf⟩ := oa_ck hf
      refine oa_ild (v := (M 27 0 (((24 : Int32) * x1) + x6).toNatClampNeg)) hx hb hE hH 27 0 (by decide) 288 rfl rfl (oa_in_vp hk7) dX5_valueOf_31 ?_
      refine lv_iconst (v := (2 : Int32)) hx hb dX5_valueOf_32 (by decide) ?_
      refine lv_iload_n hx hb dX5_valueOf_33 rfl (lv_at hl 3 rfl) ?_
      refine lv_iadd hx hb dX5_valueOf_34 ?_
      refine lv_icmp_ne (tgt := 70) hx hb dX5_valueOf_35 (by decide) (fun hq8 => ?_) (fun hq8 => ?_)
      · rw [if_neg hq8] at hf
        exact bX5_valueOf_70 C _ hrec9 n x1 x2 x3 x4 x5 x6 _ hf _ _ hH hS _ (lv_sub hl [0, 1, 2, 3, 4, 5, 6] rfl)
      · rw [if_pos hq8] at hf
        refine lv_aload_n hx hb dX5_valueOf_38 rfl (lv_at hl 0 rfl) ?_
        refine lv_iload_n hx hb dX5_valueOf_39 rfl (lv_at hl 2 rfl) ?_
        refine lv_iload hx hb dX5_valueOf_40 (lv_at hl 6 rfl) ?_
        obtain ⟨r9, M10, hc11, hf⟩ := oa_bdE hf
        refine oa_cvi (As := [.int x2, .int x6]) (rest := []) ⟨hx, hb, hml, hown, hts⟩ (cX5_bitAt_ok l D ca ad b0 hw n x2 x6 _ _ _ hc11) (cwV 2 hts (oa_gV tw_796 tw_798 tw_32 tw_49 tw_799) rfl rfl rfl (by decide +kernel) ⟨Nat.le_of_ble_eq_true rfl, Nat.le_of_ble_eq_true rfl⟩) hE hH hS (oa_recv (k := 20) (ci := 5) hE hH (by decide) rfl rfl) rfl hl.1 rfl (Nat.le_of_ble_eq_true rfl) dX5_valueOf_42 ⟨by decide, by decide⟩ (fun H locs hH hS => ?_)
        refine lv_istore (lv' := [(7, .int r9), (0, .ref (ad 20 0)), (1, .int x1), (2, .int x2), (3, .int x3), (4, .int x4), (5, .int x5), (6, .int x6)]) hx hb dX5_valueOf_45 hl (by decide) rfl (fun ls hl => ?_)
        refine lv_iload hx hb dX5_valueOf_47 (lv_at hl 6 rfl) ?_
        refine lv_if_ge (tgt := 57) hx hb dX5_valueOf_49 (by decide) (fun hq12 => ?_) (fun hq12 => ?_)
        · rw [if_pos hq12] at hf
          refine lv_iload hx hb dX5_valueOf_57 (lv_at hl 6 rfl) ?_
          exact bX5_valueOf_59 C _ hrec9 n x1 x2 x3 x4 x5 x6 r9 x5 _ hf _ _ hH hS _ (lv_sub hl [1, 2, 3, 4, 5, 6, 7, 0] rfl)
        · rw [if_neg hq12] at hf
          refine lv_iload hx hb dX5_valueOf_52 (lv_at hl 0 rfl) ?_
          refine lv_goto (tgt := 59) hx hb dX5_valueOf_54 (by decide) ?_
          exact bX5_valueOf_59 C _ hrec9 n x1 x2 x3 x4 x5 x6 r9 r9 _ hf _ _ hH hS _ (lv_sub hl [1, 2, 3, 4, 5, 6, 7, 0] rfl)
set_option maxHeartbeats 4000000 in
set_option maxRecDepth 100000 in
theorem cX5_valueOf_k (l : Launch) (D : va_G) (ca : Nat → ClassId) (ad : Nat → Nat → Nat) (b0 : Nat) (hw : oa_W ad b0) (n : Nat) (x1 : Int32) (x2 : Int32) (x3 : Int32) (M : oa_M) (o : Int32 × oa_M) (hf : FX5_valueOf n x1 x2 x3 M = some o) : oa_Mi l yX5_valueOf (oa_w yX5_valueOf cX5_valueOf 8 (some .int)) ({ frames := 1, cells := 0, slots := 0, locals := 22 } : Room) D ca ad b0 [.ref (ad 20 0), .int x1, .int x2, .int x3] M o.1 o.2 := by
  refine oa_ofW (cc := cX5_valueOf) (maxL := 8) (ret := some .int) (by decide) rfl (Nat.le_of_ble_eq_true rfl) ?_
  intro p e s m below meth c hx hb hml hr hlocks hown hts0 hP ls hl
  obtain ⟨hH, hE⟩ := hP
  have hts : ∀ w ∈ oa_T, w.before _ s = true := fun w h => hts0 w (List.mem_cons_of_mem _ h)
  have hS : va_S (fun q => b0 ≤ q) s.heap s.heap [] := va_S.rf
  have C : oa_Cx p s m _ meth c cX5_valueOf 8 (some .int) RX5 D ca b0 ad := ⟨hx, hb, hml, hr, hlocks, hown, hts, hE, hw⟩
  have hl : lv_has ls 8 [(0, .ref (ad 20 0)), (1, .int x1), (2, .int x2), (3, .int x3)] := hl
  unfold FX5_valueOf at hf
  refine lv_iconst (v := (0 : Int32)) hx hb dX5_valueOf_0 (by decide) ?_
  refine lv_istore (lv' := [(4, .int (0 : Int32)), (0, .ref (ad 20 0)), (1, .int x1), (2, .int x2), (3, .int x3)]) hx hb dX5_valueOf_1 hl (by decide) rfl (fun ls hl => ?_)
  refine lv_iconst (v := (-1 : Int32)) hx hb dX5_valueOf_3 (by decide) ?_
  refine lv_istore (lv' := [(5, .int (-1 : Int32)), (4, .int (0 : Int32)), (0, .ref (ad 20 0)), (1, .int x1), (2, .int x2), (3, .int x3)]) hx hb dX5_valueOf_4 hl (by decide) rfl (fun ls hl => ?_)
  refine lv_iconst (v := (0 : Int32)) hx hb dX5_valueOf_6 (by decide) ?_
  refine lv_istore (lv' := [(6, .int (0 : Int32)), (5, .int (-1 : Int32)), (4, .int (0 : Int32)), (0, .ref (ad 20 0)), (1, .int x1), (2, .int x2), (3, .int x3)]) hx hb dX5_valueOf_7 hl (by decide) rfl (fun ls hl => ?_)
  exact bX5_valueOf_9 C n x1 x2 x3 (0 : Int32) (-1 : Int32) (0 : Int32) _ hf _ _ hH hS _ (lv_sub hl [3, 4, 5, 6, 2, 1, 0] rfl)
theorem cX5_valueOf_ok (l : Launch) (D : va_G) (ca : Nat → ClassId) (ad : Nat → Nat → Nat) (b0 : Nat) (hw : oa_W ad b0) (n : Nat) (x1 : Int32) (x2 : Int32) (x3 : Int32) (M : oa_M) (r : Int32) (M' : oa_M) (hf : FX5_valueOf n x1 x2 x3 M = some (r, M')) : oa_Mi l yX5_valueOf (oa_w yX5_valueOf cX5_valueOf 8 (some .int)) ({ frames := 1, cells := 0, slots := 0, locals := 22 } : Room) D ca ad b0 [.ref (ad 20 0), .int x1, .int x2, .int x3] M r M' := cX5_valueOf_k l D ca ad b0 hw n x1 x2 x3 M (r, M') hf
def BX5_value_81 (n : Nat) (x1 : Int32) (x2 : Int32) (x3 : Int32) (z0 : Int32) (M : oa_M) : Option (Int32 × oa_M) := (some (z0, M))
def BX5_value_60 (n : Nat) (x1 : Int32) (x2 : Int32) (x3 : Int32) (z1 : Int32) (M : oa_M) : Option (Int32 × oa_M) := (if z1 = 0 then (oa_bd (FX5_valueOf n x3 x1 x2 (oa_up M 20 0 30 z1)) (fun r2 M3 => (BX5_value_81 n x1 x2 x3 r2 M3))) else (BX5_value_81 n x1 x2 x3 (0 : Int32) (oa_up M 20 0 30 z1)))
def BX5_value_56 (n : Nat) (x1 : Int32) (x2 : Int32) (x3 : Int32) (M : oa_M) : Option (Int32 × oa_M) := (BX5_value_60 n x1 x2 x3 (M 20 0 30) M)
def BX5_value_52 (n : Nat) (x1 : Int32) (x2 : Int32) (x3 : Int32) (M : oa_M) : Option (Int32 × oa_M) := (BX5_value_60 n x1 x2 x3 (2 : Int32) M)
def BX5_value_25 (n : Nat) (x1 : Int32) (x2 : Int32) (z0 : Int32) (M : oa_M) : Option (Int32 × oa_M) := (if (M 20 0 30) = 0 then (if z0 < 0 then (BX5_value_52 n x1 x2 z0 M) else (if x2 < 0 then (BX5_value_52 n x1 x2 z0 M) else (if oa_in z0 12 = true then (if x2 < (M 28 0 z0.toNatClampNeg) then (BX5_value_56 n x1 x2 z0 M) else (BX5_value_52 n x1 x2 z0 M)) else none))) else (BX5_value_56 n x1 x2 z0 M))
def FX5_value (n : Nat) (x1 : Int32) (x2 : Int32) (M : oa_M) : Option (Int32 × oa_M) := (oa_bd (FX5_wrongAddress n x1 M) (fun r1 M2 => (if r1 = 0 then (oa_bd (FX5_decoded n x1 (oa_up M2 20 0 30 r1)) (fun r5 M6 => (BX5_value_25 n x1 x2 r5 M6))) else (BX5_value_25 n x1 x2 (-1 : Int32) (oa_up M2 20 0 30 r1)))))
set_option maxHeartbeats 4000000 in
set_option maxRecDepth 100000 in
theorem bX5_value_81 {p : Program} {l : Launch} {e : Env} {s : State} {m : MethodId} {args : Array Value} {below : List Frame} {meth : Method} {c : Code} {D : va_G} {ca : Nat → ClassId} {ad : Nat → Nat → Nat} {b0 : Nat} {o : Int32 × oa_M} (C : oa_Cx p s m args meth c cX5_value 4 (some .int) RX5 D ca b0 ad) : ∀ (n : Nat), ∀ (x1 : Int32) (x2 : Int32) (x3 : Int32) (z0 : Int32) (M : oa_M), BX5_value_81 n x1 x2 x3 z0 M = some o → ∀ (H : Heap) (locs : List Loc), oa_H D ca ad M H → va_S (fun q => b0 ≤ q) s.heap H locs → ∀ (ls : Array Slot), lv_has ls 4 [(0, .ref (ad 20 0)), (1, .int x1), (2, .int x2), (3, .int x3)] → W p l e ({ frames := 3, cells := 0, slots := 0, locals := 72 } : Room) s m args below meth c H locs 0 0 (MQ below (va_Qi (fun (r' : Int32) (u : oa_M) => r' = o.1 ∧ u = o.2) (fun u t => oa_H D ca ad u t.heap) (fun q => b0 ≤ q)) args s 0 0 (fun q => b0 ≤ q)) (F0 m 81 ls [.int z0]) := by
  obtain ⟨hx, hb, hml, hr, hlocks, hown, hts, hE, hw⟩ := id C
  intro n x1 x2 x3 z0 M hf H locs hH hS ls hl
  unfold BX5_value_81 at hf
  cases hf
  exact oa_reti hx hb hr hlocks rfl hS hH dX5_value_81
set_option maxHeartbeats 4000000 in
set_option maxRecDepth 100000 in
theorem bX5_value_60 {p : Program} {l : Launch} {e : Env} {s : State} {m : MethodId} {args : Array Value} {below : List Frame} {meth : Method} {c : Code} {D : va_G} {ca : Nat → ClassId} {ad : Nat → Nat → Nat} {b0 : Nat} {o : Int32 × oa_M} (C : oa_Cx p s m args meth c cX5_value 4 (some .int) RX5 D ca b0 ad) : ∀ (n : Nat), ∀ (x1 : Int32) (x2 : Int32) (x3 : Int32) (z1 : Int32) (M : oa_M), BX5_value_60 n x1 x2 x3 z1 M = some o → ∀ (H : Heap) (locs : List Loc), oa_H D ca ad M H → va_S (fun q => b0 ≤ q) s.heap H locs → ∀ (ls : Array Slot), lv_has ls 4 [(0, .ref (ad 20 0)), (1, .int x1), (2, .int x2), (3, .int x3)] → W p l e ({ frames := 3, cells := 0, slots := 0, locals := 72 } : Room) s m args below meth c H locs 0 0 (MQ below (va_Qi (fun (r' : Int32) (u : oa_M) => r' = o.1 ∧ u = o.2) (fun u t => oa_H D ca ad u t.heap) (fun q => b0 ≤ q)) args s 0 0 (fun q => b0 ≤ q)) (F0 m 60 ls [.int z1, .ref (ad 20 0)]) := by
  obtain ⟨hx, hb, hml, hr, hlocks, hown, hts, hE, hw⟩ := id C
  intro n x1 x2 x3 z1 M hf H locs hH hS ls hl
  unfold BX5_value_60 at hf
  refine oa_put (ci := 5) (C := RX5) (T := TX5) (N := 31) (v := .int z1) (x := z1) hx hb hts inX5 tyX5 tyX5_ok nmX5 hown hE hw hH hS 20 0 (by decide) rfl rfl 30 (by decide) (hts _ tw_645) rfl rfl rfl (Nat.le_of_ble_eq_true rfl) rfl dX5_value_60 (fun H locs hH hS => ?_)
  refine lv_aload_n hx hb dX5_value_63 rfl (lv_at hl 0 rfl) ?_
  refine oa_get (ci := 5) (C := RX5) (T := TX5) (N := 31) (v := .int z1) hx hb hts inX5 hown hE hH 20 0 (by decide) rfl rfl 30 (by decide) (hts _ tw_645) rfl dX5_value_64 ?_
  refine lv_if_ne (tgt := 80) hx hb dX5_value_67 (by decide) (fun hq1 => ?_) (fun hq1 => ?_)
  · rw [if_neg hq1] at hf
    refine lv_iconst (v := (0 : Int32)) hx hb dX5_value_80 (by decide) ?_
    exact bX5_value_81 C n x1 x2 x3 (0 : Int32) _ hf _ _ hH hS _ (lv_sub hl [0, 1, 2, 3] rfl)
  · rw [if_pos hq1] at hf
    refine lv_aload_n hx hb dX5_value_70 rfl (lv_at hl 0 rfl) ?_
    refine lv_iload_n hx hb dX5_value_71 rfl (lv_at hl 3 rfl) ?_
    refine lv_iload_n hx hb dX5_value_72 rfl (lv_at hl 1 rfl) ?_
    refine lv_iload_n hx hb dX5_value_73 rfl (lv_at hl 2 rfl) ?_
    obtain ⟨r2, M3, hc4, hf⟩ := oa_bdE hf
    refine oa_cvi (As := [.int x3, .int x1, .int x2]) (rest := []) ⟨hx, hb, hml, hown, hts⟩ (cX5_valueOf_ok l D ca ad b0 hw n x3 x1 x2 _ _ _ hc4) (cwV 3 hts (oa_gV tw_804 tw_806 tw_33 tw_49 tw_807) rfl rfl rfl (by decide +kernel) ⟨Nat.le_of_ble_eq_true rfl, Nat.le_of_ble_eq_true rfl⟩) hE hH hS (oa_recv (k := 20) (ci := 5) hE hH (by decide) rfl rfl) rfl hl.1 rfl (Nat.le_of_ble_eq_true rfl) dX5_value_74 ⟨by decide, by decide⟩ (fun H locs hH hS => ?_)
    refine lv_goto (tgt := 81) hx hb dX5_value_77 (by decide) ?_
    exact bX5_value_81 C n x1 x2 x3 r2 _ hf _ _ hH hS _ (lv_sub hl [0, 1, 2, 3] rfl)
set_option maxHeartbeats 4000000 in
set_option maxRecDepth 100000 in
theorem bX5_value_56 {p : Program} {l : Launch} {e : Env} {s : State} {m : MethodId} {args : Array Value} {below : List Frame} {meth : Method} {c : Code} {D : va_G} {ca : Nat → ClassId} {ad : Nat → Nat → Nat} {b0 : Nat} {o : Int32 × oa_M} (C : oa_Cx p s m args meth c cX5_value 4 (some .int) RX5 D ca b0 ad) : ∀ (n : Nat), ∀ (x1 : Int32) (x2 : Int32) (x3 : Int32) (M : oa_M), BX5_value_56 n x1 x2 x3 M = some o → ∀ (H : Heap) (locs : List Loc), oa_H D ca ad M H → va_S (fun q => b0 ≤ q) s.heap H locs → ∀ (ls : Array Slot), lv_has ls 4 [(0, .ref (ad 20 0)), (1, .int x1), (2, .int x2), (3, .int x3)] → W p l e ({ frames := 3, cells := 0, slots := 0, locals := 72 } : Room) s m args below meth c H locs 0 0 (MQ below (va_Qi (fun (r' : Int32) (u : oa_M) => r' = o.1 ∧ u = o.2) (fun u t => oa_H D ca ad u t.heap) (fun q => b0 ≤ q)) args s 0 0 (fun q => b0 ≤ q)) (F0 m 56 ls [.ref (ad 20 0)]) := by
  obtain ⟨hx, hb, hml, hr, hlocks, hown, hts, hE, hw⟩ := id C
  intro n x1 x2 x3 M hf H locs hH hS ls hl
  unfold BX5_value_56 at hf
  refine lv_aload_n hx hb dX5_value_56 rfl (lv_at hl 0 rfl) ?_
  refine oa_get (ci := 5) (C := RX5) (T := TX5) (N := 31) (v := .int (M 20 0 30)) hx hb hts inX5 hown hE hH 20 0 (by decide) rfl rfl 30 (by decide) (hts _ tw_645) rfl dX5_value_57 ?_
  exact bX5_value_60 C n x1 x2 x3 (M 20 0 30) _ hf _ _ hH hS _ (lv_sub hl [0, 1, 2, 3] rfl)
set_option maxHeartbeats 4000000 in
set_option maxRecDepth 100000 in
theorem bX5_value_52 {p : Program} {l : Launch} {e : Env} {s : State} {m : MethodId} {args : Array Value} {below : List Frame} {meth : Method} {c : Code} {D : va_G} {ca : Nat → ClassId} {ad : Nat → Nat → Nat} {b0 : Nat} {o : Int32 × oa_M} (C : oa_Cx p s m args meth c cX5_value 4 (some .int) RX5 D ca b0 ad) : ∀ (n : Nat), ∀ (x1 : Int32) (x2 : Int32) (x3 : Int32) (M : oa_M), BX5_value_52 n x1 x2 x3 M = some o → ∀ (H : Heap) (locs : List Loc), oa_H D ca ad M H → va_S (fun q => b0 ≤ q) s.heap H locs → ∀ (ls : Array Slot), lv_has ls 4 [(0, .ref (ad 20 0)), (1, .int x1), (2, .int x2), (3, .int x3)] → W p l e ({ frames := 3, cells := 0, slots := 0, locals := 72 } : Room) s m args below meth c H locs 0 0 (MQ below (va_Qi (fun (r' : Int32) (u : oa_M) => r' = o.1 ∧ u = o.2) (fun u t => oa_H D ca ad u t.heap) (fun q => b0 ≤ q)) args s 0 0 (fun q => b0 ≤ q)) (F0 m 52 ls [.ref (ad 20 0)]) := by
  obtain ⟨hx, hb, hml, hr, hlocks, hown, hts, hE, hw⟩ := id C
  intro n x1 x2 x3 M hf H locs hH hS ls hl
  unfold BX5_value_52 at hf
  refine lv_iconst (v := (2 : Int32)) hx hb dX5_value_52 (by decide) ?_
  refine lv_goto (tgt := 60) hx hb dX5_value_53 (by decide) ?_
  exact bX5_value_60 C n x1 x2 x3 (2 : Int32) _ hf _ _ hH hS _ (lv_sub hl [0, 1, 2, 3] rfl)
set_option maxHeartbeats 4000000 in
set_option maxRecDepth 100000 in
theorem bX5_value_25 {p : Program} {l : Launch} {e : Env} {s : State} {m : MethodId} {args : Array Value} {below : List Frame} {meth : Method} {c : Code} {D : va_G} {ca : Nat → ClassId} {ad : Nat → Nat → Nat} {b0 : Nat} {o : Int32 × oa_M} (C : oa_Cx p s m args meth c cX5_value 4 (some .int) RX5 D ca b0 ad) : ∀ (n : Nat), ∀ (x1 : Int32) (x2 : Int32) (z0 : Int32) (M : oa_M), BX5_value_25 n x1 x2 z0 M = some o → ∀ (H : Heap) (locs : List Loc), oa_H D ca ad M H → va_S (fun q => b0 ≤ q) s.heap H locs → ∀ (ls : Array Slot), lv_has ls 4 [(0, .ref (ad 20 0)), (1, .int x1), (2, .int x2)] → W p l e ({ frames := 3, cells := 0, slots := 0, locals := 72 } : Room) s m args below meth c H locs 0 0 (MQ below (va_Qi (fun (r' : Int32) (u : oa_M) => r' = o.1 ∧ u = o.2) (fun u t => oa_H D ca ad u t.heap) (fun q => b0 ≤ q)) args s 0 0 (fun q => b0 ≤ q)) (F0 m 25 ls [.int z0]) := by
  obtain ⟨hx, hb, hml, hr, hlocks, hown, hts, hE, hw⟩ := id C
  intro n x1 x2 z0 M hf H locs hH hS ls hl
  unfold BX5_value_25 at hf
  refine lv_istore_n (lv' := [(3, .int z0), (0, .ref (ad 20 0)), (1, .int x1), (2, .int x2)]) hx hb dX5_value_25 rfl hl (by decide) rfl (fun ls hl => ?_)
  refine lv_aload_n hx hb dX5_value_26 rfl (lv_at hl 1 rfl) ?_
  refine lv_aload_n hx hb dX5_value_27 rfl (lv_at hl 1 rfl) ?_
  refine oa_get (ci := 5) (C := RX5) (T := TX5) (N := 31) (v := .int (M 20 0 30)) hx hb hts inX5 hown hE hH 20 0 (by decide) rfl rfl 30 (by decide) (hts _ tw_645) rfl dX5_value_28 ?_
  refine lv_if_ne (tgt := 56) hx hb dX5_value_31 (by decide) (fun hq1 => ?_) (fun hq1 => ?_)
  · rw [if_neg hq1] at hf
    exact bX5_value_56 C n x1 x2 z0 _ hf _ _ hH hS _ (lv_sub hl [1, 2, 3, 0] rfl)
  · rw [if_pos hq1] at hf
    refine lv_iload_n hx hb dX5_value_34 rfl (lv_at hl 0 rfl) ?_
    refine lv_if_lt (tgt := 52) hx hb dX5_value_35 (by decide) (fun hq2 => ?_) (fun hq2 => ?_)
    · rw [if_pos hq2] at hf
      exact bX5_value_52 C n x1 x2 z0 _ hf _ _ hH hS _ (lv_sub hl [1, 2, 3, 0] rfl)
    · rw [if_neg hq2] at hf
      refine lv_iload_n hx hb dX5_value_38 rfl (lv_at hl 3 rfl) ?_
      refine lv_if_lt (tgt := 52) hx hb dX5_value_39 (by decide) (fun hq3 => ?_) (fun hq3 => ?_)
      · rw [if_pos hq3] at hf
        exact bX5_value_52 C n x1 x2 z0 _ hf _ _ hH hS _ (lv_sub hl [1, 2, 3, 0] rfl)
      · rw [if_neg hq3] at hf
        refine lv_iload_n hx hb dX5_value_42 rfl (lv_at hl 3 rfl) ?_
        refine lv_aload_n hx hb dX5_value_43 rfl (lv_at hl 1 rfl) ?_
        refine oa_get (ci := 5) (C := RX5) (T := TX5) (N := 31) (v := .ref (ad 28 0)) hx hb hts inX5 hown hE hH 20 0 (by decide) rfl rfl 8 (by decide) (hts _ tw_623) rfl dX5_value_44 ?_
        refine lv_iload_n hx hb dX5_value_47 rfl (lv_at hl 0 rfl) ?_
        obtain ⟨hk4, hf⟩ := oa_ck hf
        refine oa_ild (v := (M 28 0 z0.toNatClampNeg)) hx hb hE hH 28 0 (by decide) 12 rfl rfl (oa_in_vp hk4) dX5_value_48 ?_
        refine lv_icmp_lt (tgt := 56) hx hb dX5_value_49 (by decide) (fun hq5 => ?_) (fun hq5 => ?_)
        · rw [if_pos hq5] at hf
          exact bX5_value_56 C n x1 x2 z0 _ hf _ _ hH hS _ (lv_sub hl [1, 2, 3, 0] rfl)
        · rw [if_neg hq5] at hf
          exact bX5_value_52 C n x1 x2 z0 _ hf _ _ hH hS _ (lv_sub hl [1, 2, 3, 0] rfl)
set_option maxHeartbeats 4000000 in
set_option maxRecDepth 100000 in
theorem cX5_value_k (l : Launch) (D : va_G) (ca : Nat → ClassId) (ad : Nat → Nat → Nat) (b0 : Nat) (hw : oa_W ad b0) (n : Nat) (x1 : Int32) (x2 : Int32) (M : oa_M) (o : Int32 × oa_M) (hf : FX5_value n x1 x2 M = some o) : oa_Mi l yX5_value (oa_w yX5_value cX5_value 4 (some .int)) ({ frames := 3, cells := 0, slots := 0, locals := 72 } : Room) D ca ad b0 [.ref (ad 20 0), .int x1, .int x2] M o.1 o.2 := by
  refine oa_ofW (cc := cX5_value) (maxL := 4) (ret := some .int) (by decide) rfl (Nat.le_of_ble_eq_true rfl) ?_
  intro p e s m below meth c hx hb hml hr hlocks hown hts0 hP ls hl
  obtain ⟨hH, hE⟩ := hP
  have hts : ∀ w ∈ oa_T, w.before _ s = true := fun w h => hts0 w (List.mem_cons_of_mem _ h)
  have hS : va_S (fun q => b0 ≤ q) s.heap s.heap [] := va_S.rf
  have C : oa_Cx p s m _ meth c cX5_value 4 (some .int) RX5 D ca b0 ad := ⟨hx, hb, hml, hr, hlocks, hown, hts, hE, hw⟩
  have hl : lv_has ls 4 [(0, .ref (ad 20 0)), (1, .int x1), (2, .int x2)] := hl
  unfold FX5_value at hf
  refine lv_aload_n hx hb dX5_value_0 rfl (lv_at hl 0 rfl) ?_
  refine lv_aload_n hx hb dX5_value_1 rfl (lv_at hl 0 rfl) ?_
  refine lv_iload_n hx hb dX5_value_2 rfl (lv_at hl 1 rfl) ?_
  obtain ⟨r1, M2, hc3, hf⟩ := oa_bdE hf
  refine oa_cvi (As := [.int x1]) (rest := [.ref (ad 20 0)]) ⟨hx, hb, hml, hown, hts⟩ (cX5_wrongAddress_ok l D ca ad b0 hw n x1 _ _ _ hc3) (cwV 1 hts (oa_gV tw_784 tw_786 tw_29 tw_49 tw_787) rfl rfl rfl (by decide +kernel) ⟨Nat.le_of_ble_eq_true rfl, Nat.le_of_ble_eq_true rfl⟩) hE hH hS (oa_recv (k := 20) (ci := 5) hE hH (by decide) rfl rfl) rfl hl.1 rfl (Nat.le_of_ble_eq_true rfl) dX5_value_3 ⟨by decide, by decide⟩ (fun H locs hH hS => ?_)
  refine oa_put (ci := 5) (C := RX5) (T := TX5) (N := 31) (v := .int r1) (x := r1) hx hb hts inX5 tyX5 tyX5_ok nmX5 hown hE hw hH hS 20 0 (by decide) rfl rfl 30 (by decide) (hts _ tw_645) rfl rfl rfl (Nat.le_of_ble_eq_true rfl) rfl dX5_value_6 (fun H locs hH hS => ?_)
  refine lv_aload_n hx hb dX5_value_9 rfl (lv_at hl 0 rfl) ?_
  refine oa_get (ci := 5) (C := RX5) (T := TX5) (N := 31) (v := .int r1) hx hb hts inX5 hown hE hH 20 0 (by decide) rfl rfl 30 (by decide) (hts _ tw_645) rfl dX5_value_10 ?_
  refine lv_if_ne (tgt := 24) hx hb dX5_value_13 (by decide) (fun hq4 => ?_) (fun hq4 => ?_)
  · rw [if_neg hq4] at hf
    refine lv_iconst (v := (-1 : Int32)) hx hb dX5_value_24 (by decide) ?_
    exact bX5_value_25 C n x1 x2 (-1 : Int32) _ hf _ _ hH hS _ (lv_sub hl [0, 1, 2] rfl)
  · rw [if_pos hq4] at hf
    refine lv_aload_n hx hb dX5_value_16 rfl (lv_at hl 0 rfl) ?_
    refine lv_iload_n hx hb dX5_value_17 rfl (lv_at hl 1 rfl) ?_
    obtain ⟨r5, M6, hc7, hf⟩ := oa_bdE hf
    refine oa_cvi (As := [.int x1]) (rest := []) ⟨hx, hb, hml, hown, hts⟩ (cX5_decoded_ok l D ca ad b0 hw n x1 _ _ _ hc7) (cwV 1 hts (oa_gV tw_788 tw_790 tw_30 tw_49 tw_791) rfl rfl rfl (by decide +kernel) ⟨Nat.le_of_ble_eq_true rfl, Nat.le_of_ble_eq_true rfl⟩) hE hH hS (oa_recv (k := 20) (ci := 5) hE hH (by decide) rfl rfl) rfl hl.1 rfl (Nat.le_of_ble_eq_true rfl) dX5_value_18 ⟨by decide, by decide⟩ (fun H locs hH hS => ?_)
    refine lv_goto (tgt := 25) hx hb dX5_value_21 (by decide) ?_
    exact bX5_value_25 C n x1 x2 r5 _ hf _ _ hH hS _ (lv_sub hl [0, 1, 2] rfl)
theorem cX5_value_ok (l : Launch) (D : va_G) (ca : Nat → ClassId) (ad : Nat → Nat → Nat) (b0 : Nat) (hw : oa_W ad b0) (n : Nat) (x1 : Int32) (x2 : Int32) (M : oa_M) (r : Int32) (M' : oa_M) (hf : FX5_value n x1 x2 M = some (r, M')) : oa_Mi l yX5_value (oa_w yX5_value cX5_value 4 (some .int)) ({ frames := 3, cells := 0, slots := 0, locals := 72 } : Room) D ca ad b0 [.ref (ad 20 0), .int x1, .int x2] M r M' := cX5_value_k l D ca ad b0 hw n x1 x2 M (r, M') hf
def FX5_add (n : Nat) (x1 : Int32) (M : oa_M) : Option (oa_M) := (if oa_in (M 20 0 28) 40 = true then (some (oa_up (oa_up M 49 0 (M 20 0 28).toNatClampNeg (vp_nar .char (oa_i2c x1))) 20 0 28 ((M 20 0 28) + (1 : Int32)))) else none)
set_option maxHeartbeats 4000000 in
set_option maxRecDepth 100000 in
theorem cX5_add_k (l : Launch) (D : va_G) (ca : Nat → ClassId) (ad : Nat → Nat → Nat) (b0 : Nat) (hw : oa_W ad b0) (n : Nat) (x1 : Int32) (M : oa_M) (o : oa_M) (hf : FX5_add n x1 M = some o) : oa_Mv l yX5_add (oa_w yX5_add cX5_add 2 none) ({ frames := 0, cells := 0, slots := 0, locals := 0 } : Room) D ca ad b0 [.ref (ad 20 0), .int x1] M o := by
  refine oa_ofW (cc := cX5_add) (maxL := 2) (ret := none) (by decide) rfl (Nat.le_of_ble_eq_true rfl) ?_
  intro p e s m below meth c hx hb hml hr hlocks hown hts0 hP ls hl
  obtain ⟨hH, hE⟩ := hP
  have hts : ∀ w ∈ oa_T, w.before _ s = true := fun w h => hts0 w (List.mem_cons_of_mem _ h)
  have hS : va_S (fun q => b0 ≤ q) s.heap s.heap [] := va_S.rf
  have C : oa_Cx p s m _ meth c cX5_add 2 (none) RX5 D ca b0 ad := ⟨hx, hb, hml, hr, hlocks, hown, hts, hE, hw⟩
  have hl : lv_has ls 2 [(0, .ref (ad 20 0)), (1, .int x1)] := hl
  unfold FX5_add at hf
  refine lv_aload_n hx hb dX5_add_0 rfl (lv_at hl 0 rfl) ?_
  refine oa_get (ci := 5) (C := RX5) (T := TX5) (N := 31) (v := .ref (ad 49 0)) hx hb hts inX5 hown hE hH 20 0 (by decide) rfl rfl 29 (by decide) (hts _ tw_644) rfl dX5_add_1 ?_
  refine lv_aload_n hx hb dX5_add_4 rfl (lv_at hl 0 rfl) ?_
  refine oa_get (ci := 5) (C := RX5) (T := TX5) (N := 31) (v := .int (M 20 0 28)) hx hb hts inX5 hown hE hH 20 0 (by decide) rfl rfl 28 (by decide) (hts _ tw_643) rfl dX5_add_5 ?_
  refine lv_iload_n hx hb dX5_add_8 rfl (lv_at hl 1 rfl) ?_
  refine lv_i2c (v := (oa_i2c x1)) hx hb dX5_add_9 rfl ?_
  obtain ⟨hk1, hf⟩ := oa_ck hf
  refine oa_cst hx hb hE hw hH hS 49 0 (by decide) 40 (fun _ => rfl) (oa_in_vp hk1) dX5_add_10 (fun H locs hH hS => ?_)
  refine lv_aload_n hx hb dX5_add_11 rfl (lv_at hl 0 rfl) ?_
  refine lv_dup hx hb dX5_add_12 rfl ?_
  refine oa_get (ci := 5) (C := RX5) (T := TX5) (N := 31) (v := .int (M 20 0 28)) hx hb hts inX5 hown hE hH 20 0 (by decide) rfl rfl 28 (by decide) (hts _ tw_643) rfl dX5_add_13 ?_
  refine lv_iconst (v := (1 : Int32)) hx hb dX5_add_16 (by decide) ?_
  refine lv_iadd hx hb dX5_add_17 ?_
  refine oa_put (ci := 5) (C := RX5) (T := TX5) (N := 31) (v := .int ((M 20 0 28) + (1 : Int32))) (x := ((M 20 0 28) + (1 : Int32))) hx hb hts inX5 tyX5 tyX5_ok nmX5 hown hE hw hH hS 20 0 (by decide) rfl rfl 28 (by decide) (hts _ tw_643) rfl rfl rfl (Nat.le_of_ble_eq_true rfl) rfl dX5_add_18 (fun H locs hH hS => ?_)
  cases hf
  exact oa_retv hx hb hr hlocks hS hH dX5_add_21
theorem cX5_add_ok (l : Launch) (D : va_G) (ca : Nat → ClassId) (ad : Nat → Nat → Nat) (b0 : Nat) (hw : oa_W ad b0) (n : Nat) (x1 : Int32) (M : oa_M) (o : oa_M) (hf : FX5_add n x1 M = some o) : oa_Mv l yX5_add (oa_w yX5_add cX5_add 2 none) ({ frames := 0, cells := 0, slots := 0, locals := 0 } : Room) D ca ad b0 [.ref (ad 20 0), .int x1] M o := cX5_add_k l D ca ad b0 hw n x1 M o hf
def BX5_addNumber_39 : Nat → Int32 → Int32 → Int32 → oa_M → Option (oa_M)
  | 0, _, _, _, _ => none
  | n + 1, x1, x2, x3, M => (if x3 ≤ 0 then (some M) else (if ¬ x3 = 0 then (oa_bv (FX5_add n ((48 : Int32) + (oa_rem (x2 / x3) (10 : Int32))) M) (fun M4 => (BX5_addNumber_39 n x1 x2 (x3 / (10 : Int32)) M4))) else none))
def BX5_addNumber_13 : Nat → Int32 → Int32 → Int32 → oa_M → Option (oa_M)
  | 0, _, _, _, _ => none
  | n + 1, x1, x2, x3, M => (if ¬ x3 = 0 then (if (x2 / x3) ≤ (9 : Int32) then (if 0 ≤ x1 then (BX5_addNumber_39 n x1 x2 x3 M) else (oa_bv (FX5_add n (45 : Int32) M) (fun M5 => (BX5_addNumber_39 n x1 x2 x3 M5)))) else (BX5_addNumber_13 n x1 x2 (x3 * (10 : Int32)) M)) else none)
def BX5_addNumber_10 (n : Nat) (x1 : Int32) (z0 : Int32) (M : oa_M) : Option (oa_M) := (BX5_addNumber_13 n x1 z0 (1 : Int32) M)
def FX5_addNumber (n : Nat) (x1 : Int32) (M : oa_M) : Option (oa_M) := (if 0 ≤ x1 then (BX5_addNumber_10 n x1 x1 M) else (BX5_addNumber_10 n x1 (-x1) M))
set_option maxHeartbeats 4000000 in
set_option maxRecDepth 100000 in
theorem bX5_addNumber_39 {p : Program} {l : Launch} {e : Env} {s : State} {m : MethodId} {args : Array Value} {below : List Frame} {meth : Method} {c : Code} {D : va_G} {ca : Nat → ClassId} {ad : Nat → Nat → Nat} {b0 : Nat} {o : oa_M} (C : oa_Cx p s m args meth c cX5_addNumber 4 (none) RX5 D ca b0 ad) : ∀ (n : Nat), ∀ (x1 : Int32) (x2 : Int32) (x3 : Int32) (M : oa_M), BX5_addNumber_39 n x1 x2 x3 M = some o → ∀ (H : Heap) (locs : List Loc), oa_H D ca ad M H → va_S (fun q => b0 ≤ q) s.heap H locs → ∀ (ls : Array Slot), lv_has ls 4 [(0, .ref (ad 20 0)), (1, .int x1), (2, .int x2), (3, .int x3)] → W p l e ({ frames := 1, cells := 0, slots := 0, locals := 21 } : Room) s m args below meth c H locs 0 0 (MQ below (va_Qv (fun (u : oa_M) => u = o) (fun u t => oa_H D ca ad u t.heap) (fun q => b0 ≤ q)) args s 0 0 (fun q => b0 ≤ q)) (F0 m 39 ls []) := by
  obtain ⟨hx, hb, hml, hr, hlocks, hown, hts, hE, hw⟩ := id C
  intro n
  induction n with
  | zero => intro x1 x2 x3 M hf; cases hf
  | succ n ih =>
    intro x1 x2 x3 M hf H locs hH hS ls hl
    have hrec39 := ih
    unfold BX5_addNumber_39 at hf
    refine lv_iload_n hx hb dX5_addNumber_39 rfl (lv_at hl 3 rfl) ?_
    refine lv_if_le (tgt := 64) hx hb dX5_addNumber_40 (by decide) (fun hq1 => ?_) (fun hq1 => ?_)
    · rw [if_pos hq1] at hf
      cases hf
      exact oa_retv hx hb hr hlocks hS hH dX5_addNumber_64
    · rw [if_neg hq1] at hf
      refine lv_aload_n hx hb dX5_addNumber_43 rfl (lv_at hl 0 rfl) ?_
      refine lv_bipush (v := (48 : Int32)) hx hb dX5_addNumber_44 (by decide) ?_
      refine lv_iload_n hx hb dX5_addNumber_46 rfl (lv_at hl 2 rfl) ?_
      refine lv_iload_n hx hb dX5_addNumber_47 rfl (lv_at hl 3 rfl) ?_
      obtain ⟨hk2, hf⟩ := oa_ck hf
      refine lv_idiv hx hb dX5_addNumber_48 hk2 ?_
      refine lv_bipush (v := (10 : Int32)) hx hb dX5_addNumber_49 (by decide) ?_
      refine lv_irem hx hb dX5_addNumber_51 (by decide) ?_
      refine lv_iadd hx hb dX5_addNumber_52 ?_
      obtain ⟨M4, hc5, hf⟩ := oa_bvE hf
      refine oa_cvv (As := [.int ((48 : Int32) + (oa_rem (x2 / x3) (10 : Int32)))]) (rest := []) ⟨hx, hb, hml, hown, hts⟩ (cX5_add_ok l D ca ad b0 hw n ((48 : Int32) + (oa_rem (x2 / x3) (10 : Int32))) _ _ hc5) (cwV 1 hts (oa_gV tw_812 tw_814 tw_34 tw_49 tw_815) rfl rfl rfl (by decide +kernel) ⟨Nat.le_of_ble_eq_true rfl, Nat.le_of_ble_eq_true rfl⟩) hE hH hS (oa_recv (k := 20) (ci := 5) hE hH (by decide) rfl rfl) rfl hl.1 rfl (Nat.le_of_ble_eq_true rfl) dX5_addNumber_53 ⟨by decide, by decide⟩ (fun H locs hH hS => ?_)
      refine lv_iload_n hx hb dX5_addNumber_56 rfl (lv_at hl 3 rfl) ?_
      refine lv_bipush (v := (10 : Int32)) hx hb dX5_addNumber_57 (by decide) ?_
      refine lv_idiv hx hb dX5_addNumber_59 (by decide) ?_
      refine lv_istore_n (lv' := [(3, .int (x3 / (10 : Int32))), (0, .ref (ad 20 0)), (1, .int x1), (2, .int x2)]) hx hb dX5_addNumber_60 rfl hl (by decide) rfl (fun ls hl => ?_)
      refine lv_goto (tgt := 39) hx hb dX5_addNumber_61 (by decide) ?_
      exact hrec39 x1 x2 (x3 / (10 : Int32)) _ hf _ _ hH hS _ (lv_sub hl [1, 2, 3, 0] rfl)
set_option maxHeartbeats 4000000 in
set_option maxRecDepth 100000 in
theorem bX5_addNumber_13 {p : Program} {l : Launch} {e : Env} {s : State} {m : MethodId} {args : Array Value} {below : List Frame} {meth : Method} {c : Code} {D : va_G} {ca : Nat → ClassId} {ad : Nat → Nat → Nat} {b0 : Nat} {o : oa_M} (C : oa_Cx p s m args meth c cX5_addNumber 4 (none) RX5 D ca b0 ad) : ∀ (n : Nat), ∀ (x1 : Int32) (x2 : Int32) (x3 : Int32) (M : oa_M), BX5_addNumber_13 n x1 x2 x3 M = some o → ∀ (H : Heap) (locs : List Loc), oa_H D ca ad M H → va_S (fun q => b0 ≤ q) s.heap H locs → ∀ (ls : Array Slot), lv_has ls 4 [(0, .ref (ad 20 0)), (1, .int x1), (2, .int x2), (3, .int x3)] → W p l e ({ frames := 1, cells := 0, slots := 0, locals := 21 } : Room) s m args below meth c H locs 0 0 (MQ below (va_Qv (fun (u : oa_M) => u = o) (fun u t => oa_H D ca ad u t.heap) (fun q => b0 ≤ q)) args s 0 0 (fun q => b0 ≤ q)) (F0 m 13 ls []) := by
  obtain ⟨hx, hb, hml, hr, hlocks, hown, hts, hE, hw⟩ := id C
  intro n
  induction n with
  | zero => intro x1 x2 x3 M hf; cases hf
  | succ n ih =>
    intro x1 x2 x3 M hf H locs hH hS ls hl
    have hrec13 := ih
    unfold BX5_addNumber_13 at hf
    refine lv_iload_n hx hb dX5_addNumber_13 rfl (lv_at hl 2 rfl) ?_
    refine lv_iload_n hx hb dX5_addNumber_14 rfl (lv_at hl 3 rfl) ?_
    obtain ⟨hk1, hf⟩ := oa_ck hf
    refine lv_idiv hx hb dX5_addNumber_15 hk1 ?_
    refine lv_bipush (v := (9 : Int32)) hx hb dX5_addNumber_16 (by decide) ?_
    refine lv_icmp_le (tgt := 29) hx hb dX5_addNumber_18 (by decide) (fun hq2 => ?_) (fun hq2 => ?_)
    · rw [if_pos hq2] at hf
      refine lv_iload_n hx hb dX5_addNumber_29 rfl (lv_at hl 1 rfl) ?_
      refine lv_if_ge (tgt := 39) hx hb dX5_addNumber_30 (by decide) (fun hq3 => ?_) (fun hq3 => ?_)
      · rw [if_pos hq3] at hf
        exact bX5_addNumber_39 C n x1 x2 x3 _ hf _ _ hH hS _ (lv_sub hl [0, 1, 2, 3] rfl)
      · rw [if_neg hq3] at hf
        refine lv_aload_n hx hb dX5_addNumber_33 rfl (lv_at hl 0 rfl) ?_
        refine lv_bipush (v := (45 : Int32)) hx hb dX5_addNumber_34 (by decide) ?_
        obtain ⟨M5, hc6, hf⟩ := oa_bvE hf
        refine oa_cvv (As := [.int (45 : Int32)]) (rest := []) ⟨hx, hb, hml, hown, hts⟩ (cX5_add_ok l D ca ad b0 hw n (45 : Int32) _ _ hc6) (cwV 1 hts (oa_gV tw_812 tw_814 tw_34 tw_49 tw_815) rfl rfl rfl (by decide +kernel) ⟨Nat.le_of_ble_eq_true rfl, Nat.le_of_ble_eq_true rfl⟩) hE hH hS (oa_recv (k := 20) (ci := 5) hE hH (by decide) rfl rfl) rfl hl.1 rfl (Nat.le_of_ble_eq_true rfl) dX5_addNumber_36 ⟨by decide, by decide⟩ (fun H locs hH hS => ?_)
        exact bX5_addNumber_39 C n x1 x2 x3 _ hf _ _ hH hS _ (lv_sub hl [0, 1, 2, 3] rfl)
    · rw [if_neg hq2] at hf
      refine lv_iload_n hx hb dX5_addNumber_21 rfl (lv_at hl 3 rfl) ?_
      refine lv_bipush (v := (10 : Int32)) hx hb dX5_addNumber_22 (by decide) ?_
      refine lv_imul hx hb dX5_addNumber_24 ?_
      refine lv_istore_n (lv' := [(3, .int (x3 * (10 : Int32))), (0, .ref (ad 20 0)), (1, .int x1), (2, .int x2)]) hx hb dX5_addNumber_25 rfl hl (by decide) rfl (fun ls hl => ?_)
      refine lv_goto (tgt := 13) hx hb dX5_addNumber_26 (by decide) ?_
      exact hrec13 x1 x2 (x3 * (10 : Int32)) _ hf _ _ hH hS _ (lv_sub hl [1, 2, 3, 0] rfl)
set_option maxHeartbeats 4000000 in
set_option maxRecDepth 100000 in
theorem bX5_addNumber_10 {p : Program} {l : Launch} {e : Env} {s : State} {m : MethodId} {args : Array Value} {below : List Frame} {meth : Method} {c : Code} {D : va_G} {ca : Nat → ClassId} {ad : Nat → Nat → Nat} {b0 : Nat} {o : oa_M} (C : oa_Cx p s m args meth c cX5_addNumber 4 (none) RX5 D ca b0 ad) : ∀ (n : Nat), ∀ (x1 : Int32) (z0 : Int32) (M : oa_M), BX5_addNumber_10 n x1 z0 M = some o → ∀ (H : Heap) (locs : List Loc), oa_H D ca ad M H → va_S (fun q => b0 ≤ q) s.heap H locs → ∀ (ls : Array Slot), lv_has ls 4 [(0, .ref (ad 20 0)), (1, .int x1)] → W p l e ({ frames := 1, cells := 0, slots := 0, locals := 21 } : Room) s m args below meth c H locs 0 0 (MQ below (va_Qv (fun (u : oa_M) => u = o) (fun u t => oa_H D ca ad u t.heap) (fun q => b0 ≤ q)) args s 0 0 (fun q => b0 ≤ q)) (F0 m 10 ls [.int z0]) := by
  obtain ⟨hx, hb, hml, hr, hlocks, hown, hts, hE, hw⟩ := id C
  intro n x1 z0 M hf H locs hH hS ls hl
  unfold BX5_addNumber_10 at hf
  refine lv_istore_n (lv' := [(2, .int z0), (0, .ref (ad 20 0)), (1, .int x1)]) hx hb dX5_addNumber_10 rfl hl (by decide) rfl (fun ls hl => ?_)
  refine lv_iconst (v := (1 : Int32)) hx hb dX5_addNumber_11 (by decide) ?_
  refine lv_istore_n (lv' := [(3, .int (1 : Int32)), (2, .int z0), (0, .ref (ad 20 0)), (1, .int x1)]) hx hb dX5_addNumber_12 rfl hl (by decide) rfl (fun ls hl => ?_)
  exact bX5_addNumber_13 C n x1 z0 (1 : Int32) _ hf _ _ hH hS _ (lv_sub hl [2, 3, 1, 0] rfl)
set_option maxHeartbeats 4000000 in
set_option maxRecDepth 100000 in
theorem cX5_addNumber_k (l : Launch) (D : va_G) (ca : Nat → ClassId) (ad : Nat → Nat → Nat) (b0 : Nat) (hw : oa_W ad b0) (n : Nat) (x1 : Int32) (M : oa_M) (o : oa_M) (hf : FX5_addNumber n x1 M = some o) : oa_Mv l yX5_addNumber (oa_w yX5_addNumber cX5_addNumber 4 none) ({ frames := 1, cells := 0, slots := 0, locals := 21 } : Room) D ca ad b0 [.ref (ad 20 0), .int x1] M o := by
  refine oa_ofW (cc := cX5_addNumber) (maxL := 4) (ret := none) (by decide) rfl (Nat.le_of_ble_eq_true rfl) ?_
  intro p e s m below meth c hx hb hml hr hlocks hown hts0 hP ls hl
  obtain ⟨hH, hE⟩ := hP
  have hts : ∀ w ∈ oa_T, w.before _ s = true := fun w h => hts0 w (List.mem_cons_of_mem _ h)
  have hS : va_S (fun q => b0 ≤ q) s.heap s.heap [] := va_S.rf
  have C : oa_Cx p s m _ meth c cX5_addNumber 4 (none) RX5 D ca b0 ad := ⟨hx, hb, hml, hr, hlocks, hown, hts, hE, hw⟩
  have hl : lv_has ls 4 [(0, .ref (ad 20 0)), (1, .int x1)] := hl
  unfold FX5_addNumber at hf
  refine lv_iload_n hx hb dX5_addNumber_0 rfl (lv_at hl 1 rfl) ?_
  refine lv_if_ge (tgt := 9) hx hb dX5_addNumber_1 (by decide) (fun hq1 => ?_) (fun hq1 => ?_)
  · rw [if_pos hq1] at hf
    refine lv_iload_n hx hb dX5_addNumber_9 rfl (lv_at hl 1 rfl) ?_
    exact bX5_addNumber_10 C n x1 x1 _ hf _ _ hH hS _ (lv_sub hl [0, 1] rfl)
  · rw [if_neg hq1] at hf
    refine lv_iload_n hx hb dX5_addNumber_4 rfl (lv_at hl 1 rfl) ?_
    refine lv_ineg hx hb dX5_addNumber_5 ?_
    refine lv_goto (tgt := 10) hx hb dX5_addNumber_6 (by decide) ?_
    exact bX5_addNumber_10 C n x1 (-x1) _ hf _ _ hH hS _ (lv_sub hl [0, 1] rfl)
theorem cX5_addNumber_ok (l : Launch) (D : va_G) (ca : Nat → ClassId) (ad : Nat → Nat → Nat) (b0 : Nat) (hw : oa_W ad b0) (n : Nat) (x1 : Int32) (M : oa_M) (o : oa_M) (hf : FX5_addNumber n x1 M = some o) : oa_Mv l yX5_addNumber (oa_w yX5_addNumber cX5_addNumber 4 none) ({ frames := 1, cells := 0, slots := 0, locals := 21 } : Room) D ca ad b0 [.ref (ad 20 0), .int x1] M o := cX5_addNumber_k l D ca ad b0 hw n x1 M o hf
def BX5_addName_29 (rec4 : Int32 → Int32 → oa_M → Option (oa_M)) (n : Nat) (x1 : Int32) (x2 : Int32) (M : oa_M) : Option (oa_M) := (rec4 x1 (x2 / (27 : Int32)) M)
def BX5_addName_4 : Nat → Int32 → Int32 → oa_M → Option (oa_M)
  | 0, _, _, _ => none
  | n + 1, x1, x2, M => (if x2 ≤ 0 then (some M) else (if ¬ x2 = 0 then (if (x1 / x2) ≤ 0 then (BX5_addName_29 (BX5_addName_4 n) n x1 x2 M) else (if ¬ x2 = 0 then (oa_bv (FX5_add n (((97 : Int32) + (oa_rem (x1 / x2) (27 : Int32))) - (1 : Int32)) M) (fun M6 => (BX5_addName_29 (BX5_addName_4 n) n x1 x2 M6))) else none)) else none))
def FX5_addName (n : Nat) (x1 : Int32) (M : oa_M) : Option (oa_M) := (BX5_addName_4 n x1 (19683 : Int32) M)
set_option maxHeartbeats 4000000 in
set_option maxRecDepth 100000 in
theorem bX5_addName_29 {p : Program} {l : Launch} {e : Env} {s : State} {m : MethodId} {args : Array Value} {below : List Frame} {meth : Method} {c : Code} {D : va_G} {ca : Nat → ClassId} {ad : Nat → Nat → Nat} {b0 : Nat} {o : oa_M} (C : oa_Cx p s m args meth c cX5_addName 3 (none) RX5 D ca b0 ad) (rec4 : Int32 → Int32 → oa_M → Option (oa_M)) (hrec4 : ∀ (x1 : Int32) (x2 : Int32) (M : oa_M), rec4 x1 x2 M = some o → ∀ (H : Heap) (locs : List Loc), oa_H D ca ad M H → va_S (fun q => b0 ≤ q) s.heap H locs → ∀ (ls : Array Slot), lv_has ls 3 [(0, .ref (ad 20 0)), (1, .int x1), (2, .int x2)] → W p l e ({ frames := 1, cells := 0, slots := 0, locals := 21 } : Room) s m args below meth c H locs 0 0 (MQ below (va_Qv (fun (u : oa_M) => u = o) (fun u t => oa_H D ca ad u t.heap) (fun q => b0 ≤ q)) args s 0 0 (fun q => b0 ≤ q)) (F0 m 4 ls [])) : ∀ (n : Nat), ∀ (x1 : Int32) (x2 : Int32) (M : oa_M), BX5_addName_29 rec4 n x1 x2 M = some o → ∀ (H : Heap) (locs : List Loc), oa_H D ca ad M H → va_S (fun q => b0 ≤ q) s.heap H locs → ∀ (ls : Array Slot), lv_has ls 3 [(0, .ref (ad 20 0)), (1, .int x1), (2, .int x2)] → W p l e ({ frames := 1, cells := 0, slots := 0, locals := 21 } : Room) s m args below meth c H locs 0 0 (MQ below (va_Qv (fun (u : oa_M) => u = o) (fun u t => oa_H D ca ad u t.heap) (fun q => b0 ≤ q)) args s 0 0 (fun q => b0 ≤ q)) (F0 m 29 ls []) := by
  obtain ⟨hx, hb, hml, hr, hlocks, hown, hts, hE, hw⟩ := id C
  intro n x1 x2 M hf H locs hH hS ls hl
  unfold BX5_addName_29 at hf
  refine lv_iload_n hx hb dX5_addName_29 rfl (lv_at hl 2 rfl) ?_
  refine lv_bipush (v := (27 : Int32)) hx hb dX5_addName_30 (by decide) ?_
  refine lv_idiv hx hb dX5_addName_32 (by decide) ?_
  refine lv_istore_n (lv' := [(2, .int (x2 / (27 : Int32))), (0, .ref (ad 20 0)), (1, .int x1)]) hx hb dX5_addName_33 rfl hl (by decide) rfl (fun ls hl => ?_)
  refine lv_goto (tgt := 4) hx hb dX5_addName_34 (by decide) ?_
  exact hrec4 x1 (x2 / (27 : Int32)) _ hf _ _ hH hS _ (lv_sub hl [1, 2, 0] rfl)
set_option maxHeartbeats 4000000 in
set_option maxRecDepth 100000 in
theorem bX5_addName_4 {p : Program} {l : Launch} {e : Env} {s : State} {m : MethodId} {args : Array Value} {below : List Frame} {meth : Method} {c : Code} {D : va_G} {ca : Nat → ClassId} {ad : Nat → Nat → Nat} {b0 : Nat} {o : oa_M} (C : oa_Cx p s m args meth c cX5_addName 3 (none) RX5 D ca b0 ad) : ∀ (n : Nat), ∀ (x1 : Int32) (x2 : Int32) (M : oa_M), BX5_addName_4 n x1 x2 M = some o → ∀ (H : Heap) (locs : List Loc), oa_H D ca ad M H → va_S (fun q => b0 ≤ q) s.heap H locs → ∀ (ls : Array Slot), lv_has ls 3 [(0, .ref (ad 20 0)), (1, .int x1), (2, .int x2)] → W p l e ({ frames := 1, cells := 0, slots := 0, locals := 21 } : Room) s m args below meth c H locs 0 0 (MQ below (va_Qv (fun (u : oa_M) => u = o) (fun u t => oa_H D ca ad u t.heap) (fun q => b0 ≤ q)) args s 0 0 (fun q => b0 ≤ q)) (F0 m 4 ls []) := by
  obtain ⟨hx, hb, hml, hr, hlocks, hown, hts, hE, hw⟩ := id C
  intro n
  induction n with
  | zero => intro x1 x2 M hf; cases hf
  | succ n ih =>
    intro x1 x2 M hf H locs hH hS ls hl
    have hrec4 := ih
    unfold BX5_addName_4 at hf
    refine lv_iload_n hx hb dX5_addName_4 rfl (lv_at hl 2 rfl) ?_
    refine lv_if_le (tgt := 37) hx hb dX5_addName_5 (by decide) (fun hq1 => ?_) (fun hq1 => ?_)
    · rw [if_pos hq1] at hf
      cases hf
      exact oa_retv hx hb hr hlocks hS hH dX5_addName_37
    · rw [if_neg hq1] at hf
      refine lv_iload_n hx hb dX5_addName_8 rfl (lv_at hl 1 rfl) ?_
      refine lv_iload_n hx hb dX5_addName_9 rfl (lv_at hl 2 rfl) ?_
      obtain ⟨hk2, hf⟩ := oa_ck hf
      refine lv_idiv hx hb dX5_addName_10 hk2 ?_
      refine lv_if_le (tgt := 29) hx hb dX5_addName_11 (by decide) (fun hq3 => ?_) (fun hq3 => ?_)
      · rw [if_pos hq3] at hf
        exact bX5_addName_29 C _ hrec4 n x1 x2 _ hf _ _ hH hS _ (lv_sub hl [0, 1, 2] rfl)
      · rw [if_neg hq3] at hf
        refine lv_aload_n hx hb dX5_addName_14 rfl (lv_at hl 0 rfl) ?_
        refine lv_bipush (v := (97 : Int32)) hx hb dX5_addName_15 (by decide) ?_
        refine lv_iload_n hx hb dX5_addName_17 rfl (lv_at hl 1 rfl) ?_
        refine lv_iload_n hx hb dX5_addName_18 rfl (lv_at hl 2 rfl) ?_
        obtain ⟨hk4, hf⟩ := oa_ck hf
        refine lv_idiv hx hb dX5_addName_19 hk4 ?_
        refine lv_bipush (v := (27 : Int32)) hx hb dX5_addName_20 (by decide) ?_
        refine lv_irem hx hb dX5_addName_22 (by decide) ?_
        refine lv_iadd hx hb dX5_addName_23 ?_
        refine lv_iconst (v := (1 : Int32)) hx hb dX5_addName_24 (by decide) ?_
        refine lv_isub hx hb dX5_addName_25 ?_
        obtain ⟨M6, hc7, hf⟩ := oa_bvE hf
        refine oa_cvv (As := [.int (((97 : Int32) + (oa_rem (x1 / x2) (27 : Int32))) - (1 : Int32))]) (rest := []) ⟨hx, hb, hml, hown, hts⟩ (cX5_add_ok l D ca ad b0 hw n (((97 : Int32) + (oa_rem (x1 / x2) (27 : Int32))) - (1 : Int32)) _ _ hc7) (cwV 1 hts (oa_gV tw_812 tw_814 tw_34 tw_49 tw_815) rfl rfl rfl (by decide +kernel) ⟨Nat.le_of_ble_eq_true rfl, Nat.le_of_ble_eq_true rfl⟩) hE hH hS (oa_recv (k := 20) (ci := 5) hE hH (by decide) rfl rfl) rfl hl.1 rfl (Nat.le_of_ble_eq_true rfl) dX5_addName_26 ⟨by decide, by decide⟩ (fun H locs hH hS => ?_)
        exact bX5_addName_29 C _ hrec4 n x1 x2 _ hf _ _ hH hS _ (lv_sub hl [0, 1, 2] rfl)
set_option maxHeartbeats 4000000 in
set_option maxRecDepth 100000 in
theorem cX5_addName_k (l : Launch) (D : va_G) (ca : Nat → ClassId) (ad : Nat → Nat → Nat) (b0 : Nat) (hw : oa_W ad b0) (n : Nat) (x1 : Int32) (M : oa_M) (o : oa_M) (hf : FX5_addName n x1 M = some o) : oa_Mv l yX5_addName (oa_w yX5_addName cX5_addName 3 none) ({ frames := 1, cells := 0, slots := 0, locals := 21 } : Room) D ca ad b0 [.ref (ad 20 0), .int x1] M o := by
  refine oa_ofW (cc := cX5_addName) (maxL := 3) (ret := none) (by decide) rfl (Nat.le_of_ble_eq_true rfl) ?_
  intro p e s m below meth c hx hb hml hr hlocks hown hts0 hP ls hl
  obtain ⟨hH, hE⟩ := hP
  have hts : ∀ w ∈ oa_T, w.before _ s = true := fun w h => hts0 w (List.mem_cons_of_mem _ h)
  have hS : va_S (fun q => b0 ≤ q) s.heap s.heap [] := va_S.rf
  have C : oa_Cx p s m _ meth c cX5_addName 3 (none) RX5 D ca b0 ad := ⟨hx, hb, hml, hr, hlocks, hown, hts, hE, hw⟩
  have hl : lv_has ls 3 [(0, .ref (ad 20 0)), (1, .int x1)] := hl
  unfold FX5_addName at hf
  refine lv_sipush (v := (19683 : Int32)) hx hb dX5_addName_0 (by decide) ?_
  refine lv_istore_n (lv' := [(2, .int (19683 : Int32)), (0, .ref (ad 20 0)), (1, .int x1)]) hx hb dX5_addName_3 rfl hl (by decide) rfl (fun ls hl => ?_)
  exact bX5_addName_4 C n x1 (19683 : Int32) _ hf _ _ hH hS _ (lv_sub hl [1, 2, 0] rfl)
theorem cX5_addName_ok (l : Launch) (D : va_G) (ca : Nat → ClassId) (ad : Nat → Nat → Nat) (b0 : Nat) (hw : oa_W ad b0) (n : Nat) (x1 : Int32) (M : oa_M) (o : oa_M) (hf : FX5_addName n x1 M = some o) : oa_Mv l yX5_addName (oa_w yX5_addName cX5_addName 3 none) ({ frames := 1, cells := 0, slots := 0, locals := 21 } : Room) D ca ad b0 [.ref (ad 20 0), .int x1] M o := cX5_addName_k l D ca ad b0 hw n x1 M o hf
def BX5_write_78 (rec56 : Int32 → Int32 → Int32 → oa_M → Option (Int32 × oa_M)) (n : Nat) (x1 : Int32) (x2 : Int32) (x3 : Int32) (z1 : Int32) (M : oa_M) : Option (Int32 × oa_M) := (oa_bv (FX5_add n z1 M) (fun M2 => (oa_bd (FX5_valueOf n x2 x1 x3 M2) (fun r4 M5 => (oa_bv (FX5_addNumber n r4 M5) (fun M8 => (rec56 x1 x2 (x3 + (1 : Int32)) M8)))))))
def BX5_write_56 : Nat → Int32 → Int32 → Int32 → oa_M → Option (Int32 × oa_M)
  | 0, _, _, _, _ => none
  | n + 1, x1, x2, x3, M => (if oa_in x2 12 = true then (if (M 28 0 x2.toNatClampNeg) ≤ x3 then (some ((M 20 0 28), M)) else (if x3 = 0 then (BX5_write_78 (BX5_write_56 n) n x1 x2 x3 (32 : Int32) M) else (BX5_write_78 (BX5_write_56 n) n x1 x2 x3 (44 : Int32) M))) else none)
def FX5_write (n : Nat) (x1 : Int32) (M : oa_M) : Option (Int32 × oa_M) := (oa_bd (FX5_wrongAddress n x1 M) (fun r1 M2 => (if r1 = 0 then (oa_bd (FX5_decoded n x1 (oa_up (oa_up M2 20 0 30 r1) 20 0 28 (0 : Int32))) (fun r5 M6 => (if 0 ≤ r5 then (if oa_in r5 12 = true then (oa_bv (FX5_addName n (M6 25 0 r5.toNatClampNeg) M6) (fun M11 => (BX5_write_56 n x1 r5 (0 : Int32) M11))) else none) else (oa_bv (FX5_add n (63 : Int32) M6) (fun M14 => (some ((M14 20 0 28), M14))))))) else (some ((0 : Int32), (oa_up M2 20 0 30 r1))))))
set_option maxHeartbeats 4000000 in
set_option maxRecDepth 100000 in
theorem bX5_write_78 {p : Program} {l : Launch} {e : Env} {s : State} {m : MethodId} {args : Array Value} {below : List Frame} {meth : Method} {c : Code} {D : va_G} {ca : Nat → ClassId} {ad : Nat → Nat → Nat} {b0 : Nat} {o : Int32 × oa_M} (C : oa_Cx p s m args meth c cX5_write 4 (some .int) RX5 D ca b0 ad) (rec56 : Int32 → Int32 → Int32 → oa_M → Option (Int32 × oa_M)) (hrec56 : ∀ (x1 : Int32) (x2 : Int32) (x3 : Int32) (M : oa_M), rec56 x1 x2 x3 M = some o → ∀ (H : Heap) (locs : List Loc), oa_H D ca ad M H → va_S (fun q => b0 ≤ q) s.heap H locs → ∀ (ls : Array Slot), lv_has ls 4 [(0, .ref (ad 20 0)), (1, .int x1), (2, .int x2), (3, .int x3)] → W p l e ({ frames := 3, cells := 0, slots := 0, locals := 72 } : Room) s m args below meth c H locs 0 0 (MQ below (va_Qi (fun (r' : Int32) (u : oa_M) => r' = o.1 ∧ u = o.2) (fun u t => oa_H D ca ad u t.heap) (fun q => b0 ≤ q)) args s 0 0 (fun q => b0 ≤ q)) (F0 m 56 ls [])) : ∀ (n : Nat), ∀ (x1 : Int32) (x2 : Int32) (x3 : Int32) (z1 : Int32) (M : oa_M), BX5_write_78 rec56 n x1 x2 x3 z1 M = some o → ∀ (H : Heap) (locs : List Loc), oa_H D ca ad M H → va_S (fun q => b0 ≤ q) s.heap H locs → ∀ (ls : Array Slot), lv_has ls 4 [(0, .ref (ad 20 0)), (1, .int x1), (2, .int x2), (3, .int x3)] → W p l e ({ frames := 3, cells := 0, slots := 0, locals := 72 } : Room) s m args below meth c H locs 0 0 (MQ below (va_Qi (fun (r' : Int32) (u : oa_M) => r' = o.1 ∧ u = o.2) (fun u t => oa_H D ca ad u t.heap) (fun q => b0 ≤ q)) args s 0 0 (fun q => b0 ≤ q)) (F0 m 78 ls [.int z1, .ref (ad 20 0)]) := by
  obtain ⟨hx, hb, hml, hr, hlocks, hown, hts, hE, hw⟩ := id C
  intro n x1 x2 x3 z1 M hf H locs hH hS ls hl
  unfold BX5_write_78 at hf
  obtain ⟨M2, hc3, hf⟩ := oa_bvE hf
  refine oa_cvv (As := [.int z1]) (rest := []) ⟨hx, hb, hml, hown, hts⟩ (cX5_add_ok l D ca ad b0 hw n z1 _ _ hc3) (cwV 1 hts (oa_gV tw_812 tw_814 tw_34 tw_49 tw_815) rfl rfl rfl (by decide +kernel) ⟨Nat.le_of_ble_eq_true rfl, Nat.le_of_ble_eq_true rfl⟩) hE hH hS (oa_recv (k := 20) (ci := 5) hE hH (by decide) rfl rfl) rfl hl.1 rfl (Nat.le_of_ble_eq_true rfl) dX5_write_78 ⟨by decide, by decide⟩ (fun H locs hH hS => ?_)
  refine lv_aload_n hx hb dX5_write_81 rfl (lv_at hl 0 rfl) ?_
  refine lv_aload_n hx hb dX5_write_82 rfl (lv_at hl 0 rfl) ?_
  refine lv_iload_n hx hb dX5_write_83 rfl (lv_at hl 2 rfl) ?_
  refine lv_iload_n hx hb dX5_write_84 rfl (lv_at hl 1 rfl) ?_
  refine lv_iload_n hx hb dX5_write_85 rfl (lv_at hl 3 rfl) ?_
  obtain ⟨r4, M5, hc6, hf⟩ := oa_bdE hf
  refine oa_cvi (As := [.int x2, .int x1, .int x3]) (rest := [.ref (ad 20 0)]) ⟨hx, hb, hml, hown, hts⟩ (cX5_valueOf_ok l D ca ad b0 hw n x2 x1 x3 _ _ _ hc6) (cwV 3 hts (oa_gV tw_804 tw_806 tw_33 tw_49 tw_807) rfl rfl rfl (by decide +kernel) ⟨Nat.le_of_ble_eq_true rfl, Nat.le_of_ble_eq_true rfl⟩) hE hH hS (oa_recv (k := 20) (ci := 5) hE hH (by decide) rfl rfl) rfl hl.1 rfl (Nat.le_of_ble_eq_true rfl) dX5_write_86 ⟨by decide, by decide⟩ (fun H locs hH hS => ?_)
  obtain ⟨M8, hc9, hf⟩ := oa_bvE hf
  refine oa_cvv (As := [.int r4]) (rest := []) ⟨hx, hb, hml, hown, hts⟩ (cX5_addNumber_ok l D ca ad b0 hw n r4 _ _ hc9) (cwV 1 hts (oa_gV tw_820 tw_822 tw_36 tw_49 tw_823) rfl rfl rfl (by decide +kernel) ⟨Nat.le_of_ble_eq_true rfl, Nat.le_of_ble_eq_true rfl⟩) hE hH hS (oa_recv (k := 20) (ci := 5) hE hH (by decide) rfl rfl) rfl hl.1 rfl (Nat.le_of_ble_eq_true rfl) dX5_write_89 ⟨by decide, by decide⟩ (fun H locs hH hS => ?_)
  refine lv_iinc (v := (x3 + (1 : Int32))) (lv' := [(3, .int (x3 + (1 : Int32))), (0, .ref (ad 20 0)), (1, .int x1), (2, .int x2)]) hx hb dX5_write_92 hl (k := 3) rfl rfl (by decide) rfl (fun ls hl => ?_)
  refine lv_goto (tgt := 56) hx hb dX5_write_95 (by decide) ?_
  exact hrec56 x1 x2 (x3 + (1 : Int32)) _ hf _ _ hH hS _ (lv_sub hl [1, 2, 3, 0] rfl)
set_option maxHeartbeats 4000000 in
set_option maxRecDepth 100000 in
theorem bX5_write_56 {p : Program} {l : Launch} {e : Env} {s : State} {m : MethodId} {args : Array Value} {below : List Frame} {meth : Method} {c : Code} {D : va_G} {ca : Nat → ClassId} {ad : Nat → Nat → Nat} {b0 : Nat} {o : Int32 × oa_M} (C : oa_Cx p s m args meth c cX5_write 4 (some .int) RX5 D ca b0 ad) : ∀ (n : Nat), ∀ (x1 : Int32) (x2 : Int32) (x3 : Int32) (M : oa_M), BX5_write_56 n x1 x2 x3 M = some o → ∀ (H : Heap) (locs : List Loc), oa_H D ca ad M H → va_S (fun q => b0 ≤ q) s.heap H locs → ∀ (ls : Array Slot), lv_has ls 4 [(0, .ref (ad 20 0)), (1, .int x1), (2, .int x2), (3, .int x3)] → W p l e ({ frames := 3, cells := 0, slots := 0, locals := 72 } : Room) s m args below meth c H locs 0 0 (MQ below (va_Qi (fun (r' : Int32) (u : oa_M) => r' = o.1 ∧ u = o.2) (fun u t => oa_H D ca ad u t.heap) (fun q => b0 ≤ q)) args s 0 0 (fun q => b0 ≤ q)) (F0 m 56 ls []) := by
  obtain ⟨hx, hb, hml, hr, hlocks, hown, hts, hE, hw⟩ := id C
  intro n
  induction n with
  | zero => intro x1 x2 x3 M hf; cases hf
  | succ n ih =>
    intro x1 x2 x3 M hf H locs hH hS ls hl
    have hrec56 := ih
    unfold BX5_write_56 at hf
    refine lv_iload_n hx hb dX5_write_56 rfl (lv_at hl 3 rfl) ?_
    refine lv_aload_n hx hb dX5_write_57 rfl (lv_at hl 0 rfl) ?_
    refine oa_get (ci := 5) (C := RX5) (T := TX5) (N := 31) (v := .ref (ad 28 0)) hx hb hts inX5 hown hE hH 20 0 (by decide) rfl rfl 8 (by decide) (hts _ tw_623) rfl dX5_write_58 ?_
    refine lv_iload_n hx hb dX5_write_61 rfl (lv_at hl 2 rfl) ?_
    obtain ⟨hk1, hf⟩ := oa_ck hf
    refine oa_ild (v := (M 28 0 x2.toNatClampNeg)) hx hb hE hH 28 0 (by decide) 12 rfl rfl (oa_in_vp hk1) dX5_write_62 ?_
    refine lv_icmp_ge (tgt := 98) hx hb dX5_write_63 (by decide) (fun hq2 => ?_) (fun hq2 => ?_)
    · rw [if_pos hq2] at hf
      refine lv_aload_n hx hb dX5_write_98 rfl (lv_at hl 0 rfl) ?_
      refine oa_get (ci := 5) (C := RX5) (T := TX5) (N := 31) (v := .int (M 20 0 28)) hx hb hts inX5 hown hE hH 20 0 (by decide) rfl rfl 28 (by decide) (hts _ tw_643) rfl dX5_write_99 ?_
      cases hf
      exact oa_reti hx hb hr hlocks rfl hS hH dX5_write_102
    · rw [if_neg hq2] at hf
      refine lv_aload_n hx hb dX5_write_66 rfl (lv_at hl 0 rfl) ?_
      refine lv_iload_n hx hb dX5_write_67 rfl (lv_at hl 3 rfl) ?_
      refine lv_if_ne (tgt := 76) hx hb dX5_write_68 (by decide) (fun hq3 => ?_) (fun hq3 => ?_)
      · rw [if_neg hq3] at hf
        refine lv_bipush (v := (44 : Int32)) hx hb dX5_write_76 (by decide) ?_
        exact bX5_write_78 C _ hrec56 n x1 x2 x3 (44 : Int32) _ hf _ _ hH hS _ (lv_sub hl [0, 1, 2, 3] rfl)
      · rw [if_pos hq3] at hf
        refine lv_bipush (v := (32 : Int32)) hx hb dX5_write_71 (by decide) ?_
        refine lv_goto (tgt := 78) hx hb dX5_write_73 (by decide) ?_
        exact bX5_write_78 C _ hrec56 n x1 x2 x3 (32 : Int32) _ hf _ _ hH hS _ (lv_sub hl [0, 1, 2, 3] rfl)
set_option maxHeartbeats 4000000 in
set_option maxRecDepth 100000 in
theorem cX5_write_k (l : Launch) (D : va_G) (ca : Nat → ClassId) (ad : Nat → Nat → Nat) (b0 : Nat) (hw : oa_W ad b0) (n : Nat) (x1 : Int32) (M : oa_M) (o : Int32 × oa_M) (hf : FX5_write n x1 M = some o) : oa_Mi l yX5_write (oa_w yX5_write cX5_write 4 (some .int)) ({ frames := 3, cells := 0, slots := 0, locals := 72 } : Room) D ca ad b0 [.ref (ad 20 0), .int x1] M o.1 o.2 := by
  refine oa_ofW (cc := cX5_write) (maxL := 4) (ret := some .int) (by decide) rfl (Nat.le_of_ble_eq_true rfl) ?_
  intro p e s m below meth c hx hb hml hr hlocks hown hts0 hP ls hl
  obtain ⟨hH, hE⟩ := hP
  have hts : ∀ w ∈ oa_T, w.before _ s = true := fun w h => hts0 w (List.mem_cons_of_mem _ h)
  have hS : va_S (fun q => b0 ≤ q) s.heap s.heap [] := va_S.rf
  have C : oa_Cx p s m _ meth c cX5_write 4 (some .int) RX5 D ca b0 ad := ⟨hx, hb, hml, hr, hlocks, hown, hts, hE, hw⟩
  have hl : lv_has ls 4 [(0, .ref (ad 20 0)), (1, .int x1)] := hl
  unfold FX5_write at hf
  refine lv_aload_n hx hb dX5_write_0 rfl (lv_at hl 0 rfl) ?_
  refine lv_aload_n hx hb dX5_write_1 rfl (lv_at hl 0 rfl) ?_
  refine lv_iload_n hx hb dX5_write_2 rfl (lv_at hl 1 rfl) ?_
  obtain ⟨r1, M2, hc3, hf⟩ := oa_bdE hf
  refine oa_cvi (As := [.int x1]) (rest := [.ref (ad 20 0)]) ⟨hx, hb, hml, hown, hts⟩ (cX5_wrongAddress_ok l D ca ad b0 hw n x1 _ _ _ hc3) (cwV 1 hts (oa_gV tw_784 tw_786 tw_29 tw_49 tw_787) rfl rfl rfl (by decide +kernel) ⟨Nat.le_of_ble_eq_true rfl, Nat.le_of_ble_eq_true rfl⟩) hE hH hS (oa_recv (k := 20) (ci := 5) hE hH (by decide) rfl rfl) rfl hl.1 rfl (Nat.le_of_ble_eq_true rfl) dX5_write_3 ⟨by decide, by decide⟩ (fun H locs hH hS => ?_)
  refine oa_put (ci := 5) (C := RX5) (T := TX5) (N := 31) (v := .int r1) (x := r1) hx hb hts inX5 tyX5 tyX5_ok nmX5 hown hE hw hH hS 20 0 (by decide) rfl rfl 30 (by decide) (hts _ tw_645) rfl rfl rfl (Nat.le_of_ble_eq_true rfl) rfl dX5_write_6 (fun H locs hH hS => ?_)
  refine lv_aload_n hx hb dX5_write_9 rfl (lv_at hl 0 rfl) ?_
  refine oa_get (ci := 5) (C := RX5) (T := TX5) (N := 31) (v := .int r1) hx hb hts inX5 hown hE hH 20 0 (by decide) rfl rfl 30 (by decide) (hts _ tw_645) rfl dX5_write_10 ?_
  refine lv_if_eq (tgt := 18) hx hb dX5_write_13 (by decide) (fun hq4 => ?_) (fun hq4 => ?_)
  · rw [if_pos hq4] at hf
    refine lv_aload_n hx hb dX5_write_18 rfl (lv_at hl 0 rfl) ?_
    refine lv_iconst (v := (0 : Int32)) hx hb dX5_write_19 (by decide) ?_
    refine oa_put (ci := 5) (C := RX5) (T := TX5) (N := 31) (v := .int (0 : Int32)) (x := (0 : Int32)) hx hb hts inX5 tyX5 tyX5_ok nmX5 hown hE hw hH hS 20 0 (by decide) rfl rfl 28 (by decide) (hts _ tw_643) rfl rfl rfl (Nat.le_of_ble_eq_true rfl) rfl dX5_write_20 (fun H locs hH hS => ?_)
    refine lv_aload_n hx hb dX5_write_23 rfl (lv_at hl 0 rfl) ?_
    refine lv_iload_n hx hb dX5_write_24 rfl (lv_at hl 1 rfl) ?_
    obtain ⟨r5, M6, hc7, hf⟩ := oa_bdE hf
    refine oa_cvi (As := [.int x1]) (rest := []) ⟨hx, hb, hml, hown, hts⟩ (cX5_decoded_ok l D ca ad b0 hw n x1 _ _ _ hc7) (cwV 1 hts (oa_gV tw_788 tw_790 tw_30 tw_49 tw_791) rfl rfl rfl (by decide +kernel) ⟨Nat.le_of_ble_eq_true rfl, Nat.le_of_ble_eq_true rfl⟩) hE hH hS (oa_recv (k := 20) (ci := 5) hE hH (by decide) rfl rfl) rfl hl.1 rfl (Nat.le_of_ble_eq_true rfl) dX5_write_25 ⟨by decide, by decide⟩ (fun H locs hH hS => ?_)
    refine lv_istore_n (lv' := [(2, .int r5), (0, .ref (ad 20 0)), (1, .int x1)]) hx hb dX5_write_28 rfl hl (by decide) rfl (fun ls hl => ?_)
    refine lv_iload_n hx hb dX5_write_29 rfl (lv_at hl 0 rfl) ?_
    refine lv_if_ge (tgt := 44) hx hb dX5_write_30 (by decide) (fun hq8 => ?_) (fun hq8 => ?_)
    · rw [if_pos hq8] at hf
      refine lv_aload_n hx hb dX5_write_44 rfl (lv_at hl 1 rfl) ?_
      refine lv_aload_n hx hb dX5_write_45 rfl (lv_at hl 1 rfl) ?_
      refine oa_get (ci := 5) (C := RX5) (T := TX5) (N := 31) (v := .ref (ad 25 0)) hx hb hts inX5 hown hE hH 20 0 (by decide) rfl rfl 5 (by decide) (hts _ tw_620) rfl dX5_write_46 ?_
      refine lv_iload_n hx hb dX5_write_49 rfl (lv_at hl 0 rfl) ?_
      obtain ⟨hk9, hf⟩ := oa_ck hf
      refine oa_ild (v := (M6 25 0 r5.toNatClampNeg)) hx hb hE hH 25 0 (by decide) 12 rfl rfl (oa_in_vp hk9) dX5_write_50 ?_
      obtain ⟨M11, hc12, hf⟩ := oa_bvE hf
      refine oa_cvv (As := [.int (M6 25 0 r5.toNatClampNeg)]) (rest := []) ⟨hx, hb, hml, hown, hts⟩ (cX5_addName_ok l D ca ad b0 hw n (M6 25 0 r5.toNatClampNeg) _ _ hc12) (cwV 1 hts (oa_gV tw_816 tw_818 tw_35 tw_49 tw_819) rfl rfl rfl (by decide +kernel) ⟨Nat.le_of_ble_eq_true rfl, Nat.le_of_ble_eq_true rfl⟩) hE hH hS (oa_recv (k := 20) (ci := 5) hE hH (by decide) rfl rfl) rfl hl.1 rfl (Nat.le_of_ble_eq_true rfl) dX5_write_51 ⟨by decide, by decide⟩ (fun H locs hH hS => ?_)
      refine lv_iconst (v := (0 : Int32)) hx hb dX5_write_54 (by decide) ?_
      refine lv_istore_n (lv' := [(3, .int (0 : Int32)), (2, .int r5), (0, .ref (ad 20 0)), (1, .int x1)]) hx hb dX5_write_55 rfl hl (by decide) rfl (fun ls hl => ?_)
      exact bX5_write_56 C n x1 r5 (0 : Int32) _ hf _ _ hH hS _ (lv_sub hl [2, 3, 1, 0] rfl)
    · rw [if_neg hq8] at hf
      refine lv_aload_n hx hb dX5_write_33 rfl (lv_at hl 1 rfl) ?_
      refine lv_bipush (v := (63 : Int32)) hx hb dX5_write_34 (by decide) ?_
      obtain ⟨M14, hc15, hf⟩ := oa_bvE hf
      refine oa_cvv (As := [.int (63 : Int32)]) (rest := []) ⟨hx, hb, hml, hown, hts⟩ (cX5_add_ok l D ca ad b0 hw n (63 : Int32) _ _ hc15) (cwV 1 hts (oa_gV tw_812 tw_814 tw_34 tw_49 tw_815) rfl rfl rfl (by decide +kernel) ⟨Nat.le_of_ble_eq_true rfl, Nat.le_of_ble_eq_true rfl⟩) hE hH hS (oa_recv (k := 20) (ci := 5) hE hH (by decide) rfl rfl) rfl hl.1 rfl (Nat.le_of_ble_eq_true rfl) dX5_write_36 ⟨by decide, by decide⟩ (fun H locs hH hS => ?_)
      refine lv_aload_n hx hb dX5_write_39 rfl (lv_at hl 1 rfl) ?_
      refine oa_get (ci := 5) (C := RX5) (T := TX5) (N := 31) (v := .int (M14 20 0 28)) hx hb hts inX5 hown hE hH 20 0 (by decide) rfl rfl 28 (by decide) (hts _ tw_643) rfl dX5_write_40 ?_
      cases hf
      exact oa_reti hx hb hr hlocks rfl hS hH dX5_write_43
  · rw [if_neg hq4] at hf
    refine lv_iconst (v := (0 : Int32)) hx hb dX5_write_16 (by decide) ?_
    cases hf
    exact oa_reti hx hb hr hlocks rfl hS hH dX5_write_17
theorem cX5_write_ok (l : Launch) (D : va_G) (ca : Nat → ClassId) (ad : Nat → Nat → Nat) (b0 : Nat) (hw : oa_W ad b0) (n : Nat) (x1 : Int32) (M : oa_M) (r : Int32) (M' : oa_M) (hf : FX5_write n x1 M = some (r, M')) : oa_Mi l yX5_write (oa_w yX5_write cX5_write 4 (some .int)) ({ frames := 3, cells := 0, slots := 0, locals := 72 } : Room) D ca ad b0 [.ref (ad 20 0), .int x1] M r M' := cX5_write_k l D ca ad b0 hw n x1 M (r, M') hf
def BX5_written_27 (n : Nat) (x1 : Int32) (z0 : Int32) (M : oa_M) : Option (Int32 × oa_M) := (some (oa_nc z0, M))
def BX5_written_17 (n : Nat) (x1 : Int32) (M : oa_M) : Option (Int32 × oa_M) := (BX5_written_27 n x1 (0 : Int32) M)
def FX5_written (n : Nat) (x1 : Int32) (M : oa_M) : Option (Int32 × oa_M) := (if x1 < 0 then (BX5_written_17 n x1 (oa_up M 20 0 30 (0 : Int32))) else (if x1 < (M 20 0 28) then (if oa_in x1 40 = true then (BX5_written_27 n x1 (M 49 0 x1.toNatClampNeg) (oa_up M 20 0 30 (0 : Int32))) else none) else (BX5_written_17 n x1 (oa_up M 20 0 30 (0 : Int32)))))
set_option maxHeartbeats 4000000 in
set_option maxRecDepth 100000 in
theorem bX5_written_27 {p : Program} {l : Launch} {e : Env} {s : State} {m : MethodId} {args : Array Value} {below : List Frame} {meth : Method} {c : Code} {D : va_G} {ca : Nat → ClassId} {ad : Nat → Nat → Nat} {b0 : Nat} {o : Int32 × oa_M} (C : oa_Cx p s m args meth c cX5_written 2 (some .char) RX5 D ca b0 ad) : ∀ (n : Nat), ∀ (x1 : Int32) (z0 : Int32) (M : oa_M), BX5_written_27 n x1 z0 M = some o → ∀ (H : Heap) (locs : List Loc), oa_H D ca ad M H → va_S (fun q => b0 ≤ q) s.heap H locs → ∀ (ls : Array Slot), lv_has ls 2 [(0, .ref (ad 20 0)), (1, .int x1)] → W p l e ({ frames := 0, cells := 0, slots := 0, locals := 0 } : Room) s m args below meth c H locs 0 0 (MQ below (va_Qi (fun (r' : Int32) (u : oa_M) => r' = o.1 ∧ u = o.2) (fun u t => oa_H D ca ad u t.heap) (fun q => b0 ≤ q)) args s 0 0 (fun q => b0 ≤ q)) (F0 m 27 ls [.int z0]) := by
  obtain ⟨hx, hb, hml, hr, hlocks, hown, hts, hE, hw⟩ := id C
  intro n x1 z0 M hf H locs hH hS ls hl
  unfold BX5_written_27 at hf
  cases hf
  exact oa_reti hx hb hr hlocks rfl hS hH dX5_written_27
set_option maxHeartbeats 4000000 in
set_option maxRecDepth 100000 in
theorem bX5_written_17 {p : Program} {l : Launch} {e : Env} {s : State} {m : MethodId} {args : Array Value} {below : List Frame} {meth : Method} {c : Code} {D : va_G} {ca : Nat → ClassId} {ad : Nat → Nat → Nat} {b0 : Nat} {o : Int32 × oa_M} (C : oa_Cx p s m args meth c cX5_written 2 (some .char) RX5 D ca b0 ad) : ∀ (n : Nat), ∀ (x1 : Int32) (M : oa_M), BX5_written_17 n x1 M = some o → ∀ (H : Heap) (locs : List Loc), oa_H D ca ad M H → va_S (fun q => b0 ≤ q) s.heap H locs → ∀ (ls : Array Slot), lv_has ls 2 [(0, .ref (ad 20 0)), (1, .int x1)] → W p l e ({ frames := 0, cells := 0, slots := 0, locals := 0 } : Room) s m args below meth c H locs 0 0 (MQ below (va_Qi (fun (r' : Int32) (u : oa_M) => r' = o.1 ∧ u = o.2) (fun u t => oa_H D ca ad u t.heap) (fun q => b0 ≤ q)) args s 0 0 (fun q => b0 ≤ q)) (F0 m 17 ls []) := by
  obtain ⟨hx, hb, hml, hr, hlocks, hown, hts, hE, hw⟩ := id C
  intro n x1 M hf H locs hH hS ls hl
  unfold BX5_written_17 at hf
  refine lv_iconst (v := (0 : Int32)) hx hb dX5_written_17 (by decide) ?_
  refine lv_goto (tgt := 27) hx hb dX5_written_18 (by decide) ?_
  exact bX5_written_27 C n x1 (0 : Int32) _ hf _ _ hH hS _ (lv_sub hl [0, 1] rfl)
set_option maxHeartbeats 4000000 in
set_option maxRecDepth 100000 in
theorem cX5_written_k (l : Launch) (D : va_G) (ca : Nat → ClassId) (ad : Nat → Nat → Nat) (b0 : Nat) (hw : oa_W ad b0) (n : Nat) (x1 : Int32) (M : oa_M) (o : Int32 × oa_M) (hf : FX5_written n x1 M = some o) : oa_Mi l yX5_written (oa_w yX5_written cX5_written 2 (some .char)) ({ frames := 0, cells := 0, slots := 0, locals := 0 } : Room) D ca ad b0 [.ref (ad 20 0), .int x1] M o.1 o.2 := by
  refine oa_ofW (cc := cX5_written) (maxL := 2) (ret := some .char) (by decide) rfl (Nat.le_of_ble_eq_true rfl) ?_
  intro p e s m below meth c hx hb hml hr hlocks hown hts0 hP ls hl
  obtain ⟨hH, hE⟩ := hP
  have hts : ∀ w ∈ oa_T, w.before _ s = true := fun w h => hts0 w (List.mem_cons_of_mem _ h)
  have hS : va_S (fun q => b0 ≤ q) s.heap s.heap [] := va_S.rf
  have C : oa_Cx p s m _ meth c cX5_written 2 (some .char) RX5 D ca b0 ad := ⟨hx, hb, hml, hr, hlocks, hown, hts, hE, hw⟩
  have hl : lv_has ls 2 [(0, .ref (ad 20 0)), (1, .int x1)] := hl
  unfold FX5_written at hf
  refine lv_aload_n hx hb dX5_written_0 rfl (lv_at hl 0 rfl) ?_
  refine lv_iconst (v := (0 : Int32)) hx hb dX5_written_1 (by decide) ?_
  refine oa_put (ci := 5) (C := RX5) (T := TX5) (N := 31) (v := .int (0 : Int32)) (x := (0 : Int32)) hx hb hts inX5 tyX5 tyX5_ok nmX5 hown hE hw hH hS 20 0 (by decide) rfl rfl 30 (by decide) (hts _ tw_645) rfl rfl rfl (Nat.le_of_ble_eq_true rfl) rfl dX5_written_2 (fun H locs hH hS => ?_)
  refine lv_iload_n hx hb dX5_written_5 rfl (lv_at hl 1 rfl) ?_
  refine lv_if_lt (tgt := 17) hx hb dX5_written_6 (by decide) (fun hq1 => ?_) (fun hq1 => ?_)
  · rw [if_pos hq1] at hf
    exact bX5_written_17 C n x1 _ hf _ _ hH hS _ (lv_sub hl [0, 1] rfl)
  · rw [if_neg hq1] at hf
    refine lv_iload_n hx hb dX5_written_9 rfl (lv_at hl 1 rfl) ?_
    refine lv_aload_n hx hb dX5_written_10 rfl (lv_at hl 0 rfl) ?_
    refine oa_get (ci := 5) (C := RX5) (T := TX5) (N := 31) (v := .int (M 20 0 28)) hx hb hts inX5 hown hE hH 20 0 (by decide) rfl rfl 28 (by decide) (hts _ tw_643) rfl dX5_written_11 ?_
    refine lv_icmp_lt (tgt := 21) hx hb dX5_written_14 (by decide) (fun hq2 => ?_) (fun hq2 => ?_)
    · rw [if_pos hq2] at hf
      refine lv_aload_n hx hb dX5_written_21 rfl (lv_at hl 0 rfl) ?_
      refine oa_get (ci := 5) (C := RX5) (T := TX5) (N := 31) (v := .ref (ad 49 0)) hx hb hts inX5 hown hE hH 20 0 (by decide) rfl rfl 29 (by decide) (hts _ tw_644) rfl dX5_written_22 ?_
      refine lv_iload_n hx hb dX5_written_25 rfl (lv_at hl 1 rfl) ?_
      obtain ⟨hk3, hf⟩ := oa_ck hf
      refine oa_cld (v := (M 49 0 x1.toNatClampNeg)) hx hb hE hH 49 0 (by decide) 40 rfl rfl (oa_in_vp hk3) dX5_written_26 ?_
      exact bX5_written_27 C n x1 (M 49 0 x1.toNatClampNeg) _ hf _ _ hH hS _ (lv_sub hl [0, 1] rfl)
    · rw [if_neg hq2] at hf
      exact bX5_written_17 C n x1 _ hf _ _ hH hS _ (lv_sub hl [0, 1] rfl)
theorem cX5_written_ok (l : Launch) (D : va_G) (ca : Nat → ClassId) (ad : Nat → Nat → Nat) (b0 : Nat) (hw : oa_W ad b0) (n : Nat) (x1 : Int32) (M : oa_M) (r : Int32) (M' : oa_M) (hf : FX5_written n x1 M = some (r, M')) : oa_Mi l yX5_written (oa_w yX5_written cX5_written 2 (some .char)) ({ frames := 0, cells := 0, slots := 0, locals := 0 } : Room) D ca ad b0 [.ref (ad 20 0), .int x1] M r M' := cX5_written_k l D ca ad b0 hw n x1 M (r, M') hf
def BX5_isLabelLetter_17 (n : Nat) (x0 : Int32) (z0 : Int32) (M : oa_M) : Option (Int32 × oa_M) := (some (oa_nz z0, M))
def BX5_isLabelLetter_16 (n : Nat) (x0 : Int32) (M : oa_M) : Option (Int32 × oa_M) := (BX5_isLabelLetter_17 n x0 (0 : Int32) M)
def FX5_isLabelLetter (n : Nat) (x0 : Int32) (M : oa_M) : Option (Int32 × oa_M) := (if x0 < (65 : Int32) then (BX5_isLabelLetter_16 n x0 M) else (if (70 : Int32) < x0 then (BX5_isLabelLetter_16 n x0 M) else (BX5_isLabelLetter_17 n x0 (1 : Int32) M)))
set_option maxHeartbeats 4000000 in
set_option maxRecDepth 100000 in
theorem bX5_isLabelLetter_17 {p : Program} {l : Launch} {e : Env} {s : State} {m : MethodId} {args : Array Value} {below : List Frame} {meth : Method} {c : Code} {D : va_G} {ca : Nat → ClassId} {ad : Nat → Nat → Nat} {b0 : Nat} {o : Int32 × oa_M} (C : oa_Cx p s m args meth c cX5_isLabelLetter 1 (some .boolean) RX5 D ca b0 ad) : ∀ (n : Nat), ∀ (x0 : Int32) (z0 : Int32) (M : oa_M), BX5_isLabelLetter_17 n x0 z0 M = some o → ∀ (H : Heap) (locs : List Loc), oa_H D ca ad M H → va_S (fun q => b0 ≤ q) s.heap H locs → ∀ (ls : Array Slot), lv_has ls 1 [(0, .int x0)] → W p l e ({ frames := 0, cells := 0, slots := 0, locals := 0 } : Room) s m args below meth c H locs 0 0 (MQ below (va_Qi (fun (r' : Int32) (u : oa_M) => r' = o.1 ∧ u = o.2) (fun u t => oa_H D ca ad u t.heap) (fun q => b0 ≤ q)) args s 0 0 (fun q => b0 ≤ q)) (F0 m 17 ls [.int z0]) := by
  obtain ⟨hx, hb, hml, hr, hlocks, hown, hts, hE, hw⟩ := id C
  intro n x0 z0 M hf H locs hH hS ls hl
  unfold BX5_isLabelLetter_17 at hf
  cases hf
  exact oa_reti hx hb hr hlocks rfl hS hH dX5_isLabelLetter_17
set_option maxHeartbeats 4000000 in
set_option maxRecDepth 100000 in
theorem bX5_isLabelLetter_16 {p : Program} {l : Launch} {e : Env} {s : State} {m : MethodId} {args : Array Value} {below : List Frame} {meth : Method} {c : Code} {D : va_G} {ca : Nat → ClassId} {ad : Nat → Nat → Nat} {b0 : Nat} {o : Int32 × oa_M} (C : oa_Cx p s m args meth c cX5_isLabelLetter 1 (some .boolean) RX5 D ca b0 ad) : ∀ (n : Nat), ∀ (x0 : Int32) (M : oa_M), BX5_isLabelLetter_16 n x0 M = some o → ∀ (H : Heap) (locs : List Loc), oa_H D ca ad M H → va_S (fun q => b0 ≤ q) s.heap H locs → ∀ (ls : Array Slot), lv_has ls 1 [(0, .int x0)] → W p l e ({ frames := 0, cells := 0, slots := 0, locals := 0 } : Room) s m args below meth c H locs 0 0 (MQ below (va_Qi (fun (r' : Int32) (u : oa_M) => r' = o.1 ∧ u = o.2) (fun u t => oa_H D ca ad u t.heap) (fun q => b0 ≤ q)) args s 0 0 (fun q => b0 ≤ q)) (F0 m 16 ls []) := by
  obtain ⟨hx, hb, hml, hr, hlocks, hown, hts, hE, hw⟩ := id C
  intro n x0 M hf H locs hH hS ls hl
  unfold BX5_isLabelLetter_16 at hf
  refine lv_iconst (v := (0 : Int32)) hx hb dX5_isLabelLetter_16 (by decide) ?_
  exact bX5_isLabelLetter_17 C n x0 (0 : Int32) _ hf _ _ hH hS _ (lv_sub hl [0] rfl)
set_option maxHeartbeats 4000000 in
set_option maxRecDepth 100000 in
theorem cX5_isLabelLetter_k (l : Launch) (D : va_G) (ca : Nat → ClassId) (ad : Nat → Nat → Nat) (b0 : Nat) (hw : oa_W ad b0) (n : Nat) (x0 : Int32) (M : oa_M) (o : Int32 × oa_M) (hf : FX5_isLabelLetter n x0 M = some o) : oa_Mi l yX5_isLabelLetter (oa_w yX5_isLabelLetter cX5_isLabelLetter 1 (some .boolean)) ({ frames := 0, cells := 0, slots := 0, locals := 0 } : Room) D ca ad b0 [.int x0] M o.1 o.2 := by
  refine oa_ofW (cc := cX5_isLabelLetter) (maxL := 1) (ret := some .boolean) (by decide) rfl (Nat.le_of_ble_eq_true rfl) ?_
  intro p e s m below meth c hx hb hml hr hlocks hown hts0 hP ls hl
  obtain ⟨hH, hE⟩ := hP
  have hts : ∀ w ∈ oa_T, w.before _ s = true := fun w h => hts0 w (List.mem_cons_of_mem _ h)
  have hS : va_S (fun q => b0 ≤ q) s.heap s.heap [] := va_S.rf
  have C : oa_Cx p s m _ meth c cX5_isLabelLetter 1 (some .boolean) RX5 D ca b0 ad := ⟨hx, hb, hml, hr, hlocks, hown, hts, hE, hw⟩
  have hl : lv_has ls 1 [(0, .int x0)] := hl
  unfold FX5_isLabelLetter at hf
  refine lv_iload_n hx hb dX5_isLabelLetter_0 rfl (lv_at hl 0 rfl) ?_
  refine lv_bipush (v := (65 : Int32)) hx hb dX5_isLabelLetter_1 (by decide) ?_
  refine lv_icmp_lt (tgt := 16) hx hb dX5_isLabelLetter_3 (by decide) (fun hq1 => ?_) (fun hq1 => ?_)
  · rw [if_pos hq1] at hf
    exact bX5_isLabelLetter_16 C n x0 _ hf _ _ hH hS _ (lv_sub hl [0] rfl)
  · rw [if_neg hq1] at hf
    refine lv_iload_n hx hb dX5_isLabelLetter_6 rfl (lv_at hl 0 rfl) ?_
    refine lv_bipush (v := (70 : Int32)) hx hb dX5_isLabelLetter_7 (by decide) ?_
    refine lv_icmp_gt (tgt := 16) hx hb dX5_isLabelLetter_9 (by decide) (fun hq2 => ?_) (fun hq2 => ?_)
    · rw [if_pos hq2] at hf
      exact bX5_isLabelLetter_16 C n x0 _ hf _ _ hH hS _ (lv_sub hl [0] rfl)
    · rw [if_neg hq2] at hf
      refine lv_iconst (v := (1 : Int32)) hx hb dX5_isLabelLetter_12 (by decide) ?_
      refine lv_goto (tgt := 17) hx hb dX5_isLabelLetter_13 (by decide) ?_
      exact bX5_isLabelLetter_17 C n x0 (1 : Int32) _ hf _ _ hH hS _ (lv_sub hl [0] rfl)
theorem cX5_isLabelLetter_ok (l : Launch) (D : va_G) (ca : Nat → ClassId) (ad : Nat → Nat → Nat) (b0 : Nat) (hw : oa_W ad b0) (n : Nat) (x0 : Int32) (M : oa_M) (r : Int32) (M' : oa_M) (hf : FX5_isLabelLetter n x0 M = some (r, M')) : oa_Mi l yX5_isLabelLetter (oa_w yX5_isLabelLetter cX5_isLabelLetter 1 (some .boolean)) ({ frames := 0, cells := 0, slots := 0, locals := 0 } : Room) D ca ad b0 [.int x0] M r M' := cX5_isLabelLetter_k l D ca ad b0 hw n x0 M (r, M') hf
def BX5_readOperand_176 (n : Nat) (x1 : Int32) (x2 : Int32) (x3 : Int32) (x4 : Int32) (z1 : Int32) (z2 : Int32) (M : oa_M) : Option (oa_M) := (if oa_in z1 3 = true then (some (oa_up M 43 0 z1.toNatClampNeg z2)) else none)
def BX5_readOperand_158 (n : Nat) (x1 : Int32) (x2 : Int32) (x3 : Int32) (x4 : Int32) (z1 : Int32) (M : oa_M) : Option (oa_M) := (if oa_isb z1 = true then (if x2 = 0 then (BX5_readOperand_176 n x1 x2 x3 x4 x1 x3 (oa_up M 20 0 3 z1)) else (BX5_readOperand_176 n x1 x2 x3 x4 x1 (-x3) (oa_up M 20 0 3 z1))) else none)
def BX5_readOperand_153 (n : Nat) (x1 : Int32) (x2 : Int32) (x3 : Int32) (x4 : Int32) (M : oa_M) : Option (oa_M) := (BX5_readOperand_158 n x1 x2 x3 x4 (1 : Int32) M)
def BX5_readOperand_133 (n : Nat) (x1 : Int32) (x2 : Int32) (x3 : Int32) (x4 : Int32) (M : oa_M) : Option (oa_M) := (if (M 20 0 3) = 0 then (if x4 < (1 : Int32) then (BX5_readOperand_153 n x1 x2 x3 x4 M) else (if x4 ≤ (5 : Int32) then (BX5_readOperand_158 n x1 x2 x3 x4 (0 : Int32) M) else (BX5_readOperand_153 n x1 x2 x3 x4 M))) else (BX5_readOperand_153 n x1 x2 x3 x4 M))
def BX5_readOperand_87 : Nat → Int32 → Int32 → Int32 → Int32 → oa_M → Option (oa_M)
  | 0, _, _, _, _, _ => none
  | n + 1, x1, x2, x3, x4, M => (oa_bd (FX5_here n  M) (fun r1 M2 => (oa_bd (FX5_isDigit n r1 M2) (fun r4 M5 => (if r4 = 0 then (BX5_readOperand_133 n x1 x2 x3 x4 M5) else (if (6 : Int32) ≤ x4 then (BX5_readOperand_133 n x1 x2 x3 x4 M5) else (oa_bd (FX5_here n  M5) (fun r9 M10 => (BX5_readOperand_87 n x1 x2 ((((10 : Int32) * x3) + r9) - (48 : Int32)) (x4 + (1 : Int32)) (oa_up M10 20 0 2 ((M10 20 0 2) + (1 : Int32))))))))))))
def BX5_readOperand_79 (n : Nat) (x1 : Int32) (x2 : Int32) (z1 : Int32) (M : oa_M) : Option (oa_M) := (BX5_readOperand_87 n x1 x2 (0 : Int32) (0 : Int32) (oa_up M 20 0 2 z1))
def BX5_readOperand_60 (n : Nat) (x1 : Int32) (z0 : Int32) (M : oa_M) : Option (oa_M) := (if z0 = 0 then (BX5_readOperand_79 n x1 z0 (M 20 0 2) M) else (BX5_readOperand_79 n x1 z0 ((M 20 0 2) + (1 : Int32)) M))
def FX5_readOperand (n : Nat) (x1 : Int32) (M : oa_M) : Option (oa_M) := (oa_bd (FX5_here n  M) (fun r1 M2 => (oa_bd (FX5_isLabelLetter n r1 M2) (fun r4 M5 => (if oa_in x1 3 = true then (if oa_in x1 3 = true then (if ((oa_up M5 44 0 x1.toNatClampNeg (vp_nar .boolean r4)) 44 0 x1.toNatClampNeg) = 0 then (oa_bd (FX5_here n  (oa_up M5 44 0 x1.toNatClampNeg (vp_nar .boolean r4))) (fun r10 M11 => (if r10 = (45 : Int32) then (BX5_readOperand_60 n x1 (1 : Int32) M11) else (BX5_readOperand_60 n x1 (0 : Int32) M11)))) else (oa_bd (FX5_here n  (oa_up M5 44 0 x1.toNatClampNeg (vp_nar .boolean r4))) (fun r14 M15 => (if oa_in x1 3 = true then (some (oa_up (oa_up M15 43 0 x1.toNatClampNeg (r14 - (65 : Int32))) 20 0 2 ((M15 20 0 2) + (1 : Int32)))) else none)))) else none) else none)))))
set_option maxHeartbeats 4000000 in
set_option maxRecDepth 100000 in
theorem bX5_readOperand_176 {p : Program} {l : Launch} {e : Env} {s : State} {m : MethodId} {args : Array Value} {below : List Frame} {meth : Method} {c : Code} {D : va_G} {ca : Nat → ClassId} {ad : Nat → Nat → Nat} {b0 : Nat} {o : oa_M} (C : oa_Cx p s m args meth c cX5_readOperand 5 (none) RX5 D ca b0 ad) : ∀ (n : Nat), ∀ (x1 : Int32) (x2 : Int32) (x3 : Int32) (x4 : Int32) (z1 : Int32) (z2 : Int32) (M : oa_M), BX5_readOperand_176 n x1 x2 x3 x4 z1 z2 M = some o → ∀ (H : Heap) (locs : List Loc), oa_H D ca ad M H → va_S (fun q => b0 ≤ q) s.heap H locs → ∀ (ls : Array Slot), lv_has ls 5 [(0, .ref (ad 20 0)), (1, .int x1), (2, .int x2), (3, .int x3), (4, .int x4)] → W p l e ({ frames := 1, cells := 0, slots := 0, locals := 20 } : Room) s m args below meth c H locs 0 0 (MQ below (va_Qv (fun (u : oa_M) => u = o) (fun u t => oa_H D ca ad u t.heap) (fun q => b0 ≤ q)) args s 0 0 (fun q => b0 ≤ q)) (F0 m 176 ls [.int z2, .int z1, .ref (ad 43 0)]) := by
  obtain ⟨hx, hb, hml, hr, hlocks, hown, hts, hE, hw⟩ := id C
  intro n x1 x2 x3 x4 z1 z2 M hf H locs hH hS ls hl
  unfold BX5_readOperand_176 at hf
  obtain ⟨hk1, hf⟩ := oa_ck hf
  refine oa_ist hx hb hE hw hH hS 43 0 (by decide) 3 (fun _ => rfl) (oa_in_vp hk1) dX5_readOperand_176 (fun H locs hH hS => ?_)
  cases hf
  exact oa_retv hx hb hr hlocks hS hH dX5_readOperand_177
set_option maxHeartbeats 4000000 in
set_option maxRecDepth 100000 in
theorem bX5_readOperand_158 {p : Program} {l : Launch} {e : Env} {s : State} {m : MethodId} {args : Array Value} {below : List Frame} {meth : Method} {c : Code} {D : va_G} {ca : Nat → ClassId} {ad : Nat → Nat → Nat} {b0 : Nat} {o : oa_M} (C : oa_Cx p s m args meth c cX5_readOperand 5 (none) RX5 D ca b0 ad) : ∀ (n : Nat), ∀ (x1 : Int32) (x2 : Int32) (x3 : Int32) (x4 : Int32) (z1 : Int32) (M : oa_M), BX5_readOperand_158 n x1 x2 x3 x4 z1 M = some o → ∀ (H : Heap) (locs : List Loc), oa_H D ca ad M H → va_S (fun q => b0 ≤ q) s.heap H locs → ∀ (ls : Array Slot), lv_has ls 5 [(0, .ref (ad 20 0)), (1, .int x1), (2, .int x2), (3, .int x3), (4, .int x4)] → W p l e ({ frames := 1, cells := 0, slots := 0, locals := 20 } : Room) s m args below meth c H locs 0 0 (MQ below (va_Qv (fun (u : oa_M) => u = o) (fun u t => oa_H D ca ad u t.heap) (fun q => b0 ≤ q)) args s 0 0 (fun q => b0 ≤ q)) (F0 m 158 ls [.int z1, .ref (ad 20 0)]) := by
  obtain ⟨hx, hb, hml, hr, hlocks, hown, hts, hE, hw⟩ := id C
  intro n x1 x2 x3 x4 z1 M hf H locs hH hS ls hl
  unfold BX5_readOperand_158 at hf
  obtain ⟨hk1, hf⟩ := oa_ck hf
  refine oa_put (ci := 5) (C := RX5) (T := TX5) (N := 31) (v := .int z1) (x := z1) hx hb hts inX5 tyX5 tyX5_ok nmX5 hown hE hw hH hS 20 0 (by decide) rfl rfl 3 (by decide) (hts _ tw_618) rfl (oa_nb hk1) (oa_fb hk1) (Nat.le_of_ble_eq_true rfl) rfl dX5_readOperand_158 (fun H locs hH hS => ?_)
  refine lv_aload_n hx hb dX5_readOperand_161 rfl (lv_at hl 0 rfl) ?_
  refine oa_get (ci := 5) (C := RX5) (T := TX5) (N := 31) (v := .ref (ad 43 0)) hx hb hts inX5 hown hE hH 20 0 (by decide) rfl rfl 23 (by decide) (hts _ tw_638) rfl dX5_readOperand_162 ?_
  refine lv_iload_n hx hb dX5_readOperand_165 rfl (lv_at hl 1 rfl) ?_
  refine lv_iload_n hx hb dX5_readOperand_166 rfl (lv_at hl 2 rfl) ?_
  refine lv_if_eq (tgt := 175) hx hb dX5_readOperand_167 (by decide) (fun hq2 => ?_) (fun hq2 => ?_)
  · rw [if_pos hq2] at hf
    refine lv_iload_n hx hb dX5_readOperand_175 rfl (lv_at hl 3 rfl) ?_
    exact bX5_readOperand_176 C n x1 x2 x3 x4 x1 x3 _ hf _ _ hH hS _ (lv_sub hl [0, 1, 2, 3, 4] rfl)
  · rw [if_neg hq2] at hf
    refine lv_iload_n hx hb dX5_readOperand_170 rfl (lv_at hl 3 rfl) ?_
    refine lv_ineg hx hb dX5_readOperand_171 ?_
    refine lv_goto (tgt := 176) hx hb dX5_readOperand_172 (by decide) ?_
    exact bX5_readOperand_176 C n x1 x2 x3 x4 x1 (-x3) _ hf _ _ hH hS _ (lv_sub hl [0, 1, 2, 3, 4] rfl)
set_option maxHeartbeats 4000000 in
set_option maxRecDepth 100000 in
theorem bX5_readOperand_153 {p : Program} {l : Launch} {e : Env} {s : State} {m : MethodId} {args : Array Value} {below : List Frame} {meth : Method} {c : Code} {D : va_G} {ca : Nat → ClassId} {ad : Nat → Nat → Nat} {b0 : Nat} {o : oa_M} (C : oa_Cx p s m args meth c cX5_readOperand 5 (none) RX5 D ca b0 ad) : ∀ (n : Nat), ∀ (x1 : Int32) (x2 : Int32) (x3 : Int32) (x4 : Int32) (M : oa_M), BX5_readOperand_153 n x1 x2 x3 x4 M = some o → ∀ (H : Heap) (locs : List Loc), oa_H D ca ad M H → va_S (fun q => b0 ≤ q) s.heap H locs → ∀ (ls : Array Slot), lv_has ls 5 [(0, .ref (ad 20 0)), (1, .int x1), (2, .int x2), (3, .int x3), (4, .int x4)] → W p l e ({ frames := 1, cells := 0, slots := 0, locals := 20 } : Room) s m args below meth c H locs 0 0 (MQ below (va_Qv (fun (u : oa_M) => u = o) (fun u t => oa_H D ca ad u t.heap) (fun q => b0 ≤ q)) args s 0 0 (fun q => b0 ≤ q)) (F0 m 153 ls [.ref (ad 20 0)]) := by
  obtain ⟨hx, hb, hml, hr, hlocks, hown, hts, hE, hw⟩ := id C
  intro n x1 x2 x3 x4 M hf H locs hH hS ls hl
  unfold BX5_readOperand_153 at hf
  refine lv_iconst (v := (1 : Int32)) hx hb dX5_readOperand_153 (by decide) ?_
  refine lv_goto (tgt := 158) hx hb dX5_readOperand_154 (by decide) ?_
  exact bX5_readOperand_158 C n x1 x2 x3 x4 (1 : Int32) _ hf _ _ hH hS _ (lv_sub hl [0, 1, 2, 3, 4] rfl)
set_option maxHeartbeats 4000000 in
set_option maxRecDepth 100000 in
theorem bX5_readOperand_133 {p : Program} {l : Launch} {e : Env} {s : State} {m : MethodId} {args : Array Value} {below : List Frame} {meth : Method} {c : Code} {D : va_G} {ca : Nat → ClassId} {ad : Nat → Nat → Nat} {b0 : Nat} {o : oa_M} (C : oa_Cx p s m args meth c cX5_readOperand 5 (none) RX5 D ca b0 ad) : ∀ (n : Nat), ∀ (x1 : Int32) (x2 : Int32) (x3 : Int32) (x4 : Int32) (M : oa_M), BX5_readOperand_133 n x1 x2 x3 x4 M = some o → ∀ (H : Heap) (locs : List Loc), oa_H D ca ad M H → va_S (fun q => b0 ≤ q) s.heap H locs → ∀ (ls : Array Slot), lv_has ls 5 [(0, .ref (ad 20 0)), (1, .int x1), (2, .int x2), (3, .int x3), (4, .int x4)] → W p l e ({ frames := 1, cells := 0, slots := 0, locals := 20 } : Room) s m args below meth c H locs 0 0 (MQ below (va_Qv (fun (u : oa_M) => u = o) (fun u t => oa_H D ca ad u t.heap) (fun q => b0 ≤ q)) args s 0 0 (fun q => b0 ≤ q)) (F0 m 133 ls []) := by
  obtain ⟨hx, hb, hml, hr, hlocks, hown, hts, hE, hw⟩ := id C
  intro n x1 x2 x3 x4 M hf H locs hH hS ls hl
  unfold BX5_readOperand_133 at hf
  refine lv_aload_n hx hb dX5_readOperand_133 rfl (lv_at hl 0 rfl) ?_
  refine lv_aload_n hx hb dX5_readOperand_134 rfl (lv_at hl 0 rfl) ?_
  refine oa_get (ci := 5) (C := RX5) (T := TX5) (N := 31) (v := .int (M 20 0 3)) hx hb hts inX5 hown hE hH 20 0 (by decide) rfl rfl 3 (by decide) (hts _ tw_618) rfl dX5_readOperand_135 ?_
  refine lv_if_ne (tgt := 153) hx hb dX5_readOperand_138 (by decide) (fun hq1 => ?_) (fun hq1 => ?_)
  · rw [if_neg hq1] at hf
    exact bX5_readOperand_153 C n x1 x2 x3 x4 _ hf _ _ hH hS _ (lv_sub hl [0, 1, 2, 3, 4] rfl)
  · rw [if_pos hq1] at hf
    refine lv_iload hx hb dX5_readOperand_141 (lv_at hl 4 rfl) ?_
    refine lv_iconst (v := (1 : Int32)) hx hb dX5_readOperand_143 (by decide) ?_
    refine lv_icmp_lt (tgt := 153) hx hb dX5_readOperand_144 (by decide) (fun hq2 => ?_) (fun hq2 => ?_)
    · rw [if_pos hq2] at hf
      exact bX5_readOperand_153 C n x1 x2 x3 x4 _ hf _ _ hH hS _ (lv_sub hl [0, 1, 2, 3, 4] rfl)
    · rw [if_neg hq2] at hf
      refine lv_iload hx hb dX5_readOperand_147 (lv_at hl 4 rfl) ?_
      refine lv_iconst (v := (5 : Int32)) hx hb dX5_readOperand_149 (by decide) ?_
      refine lv_icmp_le (tgt := 157) hx hb dX5_readOperand_150 (by decide) (fun hq3 => ?_) (fun hq3 => ?_)
      · rw [if_pos hq3] at hf
        refine lv_iconst (v := (0 : Int32)) hx hb dX5_readOperand_157 (by decide) ?_
        exact bX5_readOperand_158 C n x1 x2 x3 x4 (0 : Int32) _ hf _ _ hH hS _ (lv_sub hl [0, 1, 2, 3, 4] rfl)
      · rw [if_neg hq3] at hf
        exact bX5_readOperand_153 C n x1 x2 x3 x4 _ hf _ _ hH hS _ (lv_sub hl [0, 1, 2, 3, 4] rfl)
set_option maxHeartbeats 4000000 in
set_option maxRecDepth 100000 in
theorem bX5_readOperand_87 {p : Program} {l : Launch} {e : Env} {s : State} {m : MethodId} {args : Array Value} {below : List Frame} {meth : Method} {c : Code} {D : va_G} {ca : Nat → ClassId} {ad : Nat → Nat → Nat} {b0 : Nat} {o : oa_M} (C : oa_Cx p s m args meth c cX5_readOperand 5 (none) RX5 D ca b0 ad) : ∀ (n : Nat), ∀ (x1 : Int32) (x2 : Int32) (x3 : Int32) (x4 : Int32) (M : oa_M), BX5_readOperand_87 n x1 x2 x3 x4 M = some o → ∀ (H : Heap) (locs : List Loc), oa_H D ca ad M H → va_S (fun q => b0 ≤ q) s.heap H locs → ∀ (ls : Array Slot), lv_has ls 5 [(0, .ref (ad 20 0)), (1, .int x1), (2, .int x2), (3, .int x3), (4, .int x4)] → W p l e ({ frames := 1, cells := 0, slots := 0, locals := 20 } : Room) s m args below meth c H locs 0 0 (MQ below (va_Qv (fun (u : oa_M) => u = o) (fun u t => oa_H D ca ad u t.heap) (fun q => b0 ≤ q)) args s 0 0 (fun q => b0 ≤ q)) (F0 m 87 ls []) := by
  obtain ⟨hx, hb, hml, hr, hlocks, hown, hts, hE, hw⟩ := id C
  intro n
  induction n with
  | zero => intro x1 x2 x3 x4 M hf; cases hf
  | succ n ih =>
    intro x1 x2 x3 x4 M hf H locs hH hS ls hl
    have hrec87 := ih
    unfold BX5_readOperand_87 at hf
    refine lv_aload_n hx hb dX5_readOperand_87 rfl (lv_at hl 0 rfl) ?_
    obtain ⟨r1, M2, hc3, hf⟩ := oa_bdE hf
    refine oa_cvi (As := []) (rest := []) ⟨hx, hb, hml, hown, hts⟩ (cX5_here_ok l D ca ad b0 hw n  _ _ _ hc3) (cwV 0 hts (oa_gV tw_726 tw_728 tw_21 tw_49 tw_729) rfl rfl rfl (by decide +kernel) ⟨Nat.le_of_ble_eq_true rfl, Nat.le_of_ble_eq_true rfl⟩) hE hH hS (oa_recv (k := 20) (ci := 5) hE hH (by decide) rfl rfl) rfl hl.1 rfl (Nat.le_of_ble_eq_true rfl) dX5_readOperand_88 ⟨by decide, by decide⟩ (fun H locs hH hS => ?_)
    obtain ⟨r4, M5, hc6, hf⟩ := oa_bdE hf
    refine oa_csi (As := [.int r1]) (rest := []) ⟨hx, hb, hml, hown, hts⟩ (cX5_isDigit_ok l D ca ad b0 hw n r1 _ _ _ hc6) (va_cwS 1 hts (oa_gS tw_843 tw_844 tw_49 tw_845) rfl rfl rfl (by decide +kernel) ⟨Nat.le_of_ble_eq_true rfl, Nat.le_of_ble_eq_true rfl⟩) hE hH hS rfl hl.1 rfl (Nat.le_of_ble_eq_true rfl) dX5_readOperand_91 ⟨by decide, by decide⟩ (fun H locs hH hS => ?_)
    refine lv_if_eq (tgt := 133) hx hb dX5_readOperand_94 (by decide) (fun hq7 => ?_) (fun hq7 => ?_)
    · rw [if_pos hq7] at hf
      exact bX5_readOperand_133 C n x1 x2 x3 x4 _ hf _ _ hH hS _ (lv_sub hl [0, 1, 2, 3, 4] rfl)
    · rw [if_neg hq7] at hf
      refine lv_iload hx hb dX5_readOperand_97 (lv_at hl 4 rfl) ?_
      refine lv_bipush (v := (6 : Int32)) hx hb dX5_readOperand_99 (by decide) ?_
      refine lv_icmp_ge (tgt := 133) hx hb dX5_readOperand_101 (by decide) (fun hq8 => ?_) (fun hq8 => ?_)
      · rw [if_pos hq8] at hf
        exact bX5_readOperand_133 C n x1 x2 x3 x4 _ hf _ _ hH hS _ (lv_sub hl [0, 1, 2, 3, 4] rfl)
      · rw [if_neg hq8] at hf
        refine lv_bipush (v := (10 : Int32)) hx hb dX5_readOperand_104 (by decide) ?_
        refine lv_iload_n hx hb dX5_readOperand_106 rfl (lv_at hl 3 rfl) ?_
        refine lv_imul hx hb dX5_readOperand_107 ?_
        refine lv_aload_n hx hb dX5_readOperand_108 rfl (lv_at hl 0 rfl) ?_
        obtain ⟨r9, M10, hc11, hf⟩ := oa_bdE hf
        refine oa_cvi (As := []) (rest := [.int ((10 : Int32) * x3)]) ⟨hx, hb, hml, hown, hts⟩ (cX5_here_ok l D ca ad b0 hw n  _ _ _ hc11) (cwV 0 hts (oa_gV tw_726 tw_728 tw_21 tw_49 tw_729) rfl rfl rfl (by decide +kernel) ⟨Nat.le_of_ble_eq_true rfl, Nat.le_of_ble_eq_true rfl⟩) hE hH hS (oa_recv (k := 20) (ci := 5) hE hH (by decide) rfl rfl) rfl hl.1 rfl (Nat.le_of_ble_eq_true rfl) dX5_readOperand_109 ⟨by decide, by decide⟩ (fun H locs hH hS => ?_)
        refine lv_iadd hx hb dX5_readOperand_112 ?_
        refine lv_bipush (v := (48 : Int32)) hx hb dX5_readOperand_113 (by decide) ?_
        refine lv_isub hx hb dX5_readOperand_115 ?_
        refine lv_istore_n (lv' := [(3, .int ((((10 : Int32) * x3) + r9) - (48 : Int32))), (0, .ref (ad 20 0)), (1, .int x1), (2, .int x2), (4, .int x4)]) hx hb dX5_readOperand_116 rfl hl (by decide) rfl (fun ls hl => ?_)
        refine lv_iinc (v := (x4 + (1 : Int32))) (lv' := [(4, .int (x4 + (1 : Int32))), (3, .int ((((10 : Int32) * x3) + r9) - (48 : Int32))), (0, .ref (ad 20 0)), (1, .int x1), (2, .int x2)]) hx hb dX5_readOperand_117 hl (k := 4) rfl rfl (by decide) rfl (fun ls hl => ?_)
        refine lv_aload_n hx hb dX5_readOperand_120 rfl (lv_at hl 2 rfl) ?_
        refine lv_dup hx hb dX5_readOperand_121 rfl ?_
        refine oa_get (ci := 5) (C := RX5) (T := TX5) (N := 31) (v := .int (M10 20 0 2)) hx hb hts inX5 hown hE hH 20 0 (by decide) rfl rfl 2 (by decide) (hts _ tw_617) rfl dX5_readOperand_122 ?_
        refine lv_iconst (v := (1 : Int32)) hx hb dX5_readOperand_125 (by decide) ?_
        refine lv_iadd hx hb dX5_readOperand_126 ?_
        refine oa_put (ci := 5) (C := RX5) (T := TX5) (N := 31) (v := .int ((M10 20 0 2) + (1 : Int32))) (x := ((M10 20 0 2) + (1 : Int32))) hx hb hts inX5 tyX5 tyX5_ok nmX5 hown hE hw hH hS 20 0 (by decide) rfl rfl 2 (by decide) (hts _ tw_617) rfl rfl rfl (Nat.le_of_ble_eq_true rfl) rfl dX5_readOperand_127 (fun H locs hH hS => ?_)
        refine lv_goto (tgt := 87) hx hb dX5_readOperand_130 (by decide) ?_
        exact hrec87 x1 x2 ((((10 : Int32) * x3) + r9) - (48 : Int32)) (x4 + (1 : Int32)) _ hf _ _ hH hS _ (lv_sub hl [2, 3, 4, 1, 0] rfl)
set_option maxHeartbeats 4000000 in
set_option maxRecDepth 100000 in
theorem bX5_readOperand_79 {p : Program} {l : Launch} {e : Env} {s : State} {m : MethodId} {args : Array Value} {below : List Frame} {meth : Method} {c : Code} {D : va_G} {ca : Nat → ClassId} {ad : Nat → Nat → Nat} {b0 : Nat} {o : oa_M} (C : oa_Cx p s m args meth c cX5_readOperand 5 (none) RX5 D ca b0 ad) : ∀ (n : Nat), ∀ (x1 : Int32) (x2 : Int32) (z1 : Int32) (M : oa_M), BX5_readOperand_79 n x1 x2 z1 M = some o → ∀ (H : Heap) (locs : List Loc), oa_H D ca ad M H → va_S (fun q => b0 ≤ q) s.heap H locs → ∀ (ls : Array Slot), lv_has ls 5 [(0, .ref (ad 20 0)), (1, .int x1), (2, .int x2)] → W p l e ({ frames := 1, cells := 0, slots := 0, locals := 20 } : Room) s m args below meth c H locs 0 0 (MQ below (va_Qv (fun (u : oa_M) => u = o) (fun u t => oa_H D ca ad u t.heap) (fun q => b0 ≤ q)) args s 0 0 (fun q => b0 ≤ q)) (F0 m 79 ls [.int z1, .ref (ad 20 0)]) := by
  obtain ⟨hx, hb, hml, hr, hlocks, hown, hts, hE, hw⟩ := id C
  intro n x1 x2 z1 M hf H locs hH hS ls hl
  unfold BX5_readOperand_79 at hf
  refine oa_put (ci := 5) (C := RX5) (T := TX5) (N := 31) (v := .int z1) (x := z1) hx hb hts inX5 tyX5 tyX5_ok nmX5 hown hE hw hH hS 20 0 (by decide) rfl rfl 2 (by decide) (hts _ tw_617) rfl rfl rfl (Nat.le_of_ble_eq_true rfl) rfl dX5_readOperand_79 (fun H locs hH hS => ?_)
  refine lv_iconst (v := (0 : Int32)) hx hb dX5_readOperand_82 (by decide) ?_
  refine lv_istore_n (lv' := [(3, .int (0 : Int32)), (0, .ref (ad 20 0)), (1, .int x1), (2, .int x2)]) hx hb dX5_readOperand_83 rfl hl (by decide) rfl (fun ls hl => ?_)
  refine lv_iconst (v := (0 : Int32)) hx hb dX5_readOperand_84 (by decide) ?_
  refine lv_istore (lv' := [(4, .int (0 : Int32)), (3, .int (0 : Int32)), (0, .ref (ad 20 0)), (1, .int x1), (2, .int x2)]) hx hb dX5_readOperand_85 hl (by decide) rfl (fun ls hl => ?_)
  exact bX5_readOperand_87 C n x1 x2 (0 : Int32) (0 : Int32) _ hf _ _ hH hS _ (lv_sub hl [2, 3, 4, 1, 0] rfl)
set_option maxHeartbeats 4000000 in
set_option maxRecDepth 100000 in
theorem bX5_readOperand_60 {p : Program} {l : Launch} {e : Env} {s : State} {m : MethodId} {args : Array Value} {below : List Frame} {meth : Method} {c : Code} {D : va_G} {ca : Nat → ClassId} {ad : Nat → Nat → Nat} {b0 : Nat} {o : oa_M} (C : oa_Cx p s m args meth c cX5_readOperand 5 (none) RX5 D ca b0 ad) : ∀ (n : Nat), ∀ (x1 : Int32) (z0 : Int32) (M : oa_M), BX5_readOperand_60 n x1 z0 M = some o → ∀ (H : Heap) (locs : List Loc), oa_H D ca ad M H → va_S (fun q => b0 ≤ q) s.heap H locs → ∀ (ls : Array Slot), lv_has ls 5 [(0, .ref (ad 20 0)), (1, .int x1)] → W p l e ({ frames := 1, cells := 0, slots := 0, locals := 20 } : Room) s m args below meth c H locs 0 0 (MQ below (va_Qv (fun (u : oa_M) => u = o) (fun u t => oa_H D ca ad u t.heap) (fun q => b0 ≤ q)) args s 0 0 (fun q => b0 ≤ q)) (F0 m 60 ls [.int z0]) := by
  obtain ⟨hx, hb, hml, hr, hlocks, hown, hts, hE, hw⟩ := id C
  intro n x1 z0 M hf H locs hH hS ls hl
  unfold BX5_readOperand_60 at hf
  refine lv_istore_n (lv' := [(2, .int z0), (0, .ref (ad 20 0)), (1, .int x1)]) hx hb dX5_readOperand_60 rfl hl (by decide) rfl (fun ls hl => ?_)
  refine lv_aload_n hx hb dX5_readOperand_61 rfl (lv_at hl 1 rfl) ?_
  refine lv_iload_n hx hb dX5_readOperand_62 rfl (lv_at hl 0 rfl) ?_
  refine lv_if_eq (tgt := 75) hx hb dX5_readOperand_63 (by decide) (fun hq1 => ?_) (fun hq1 => ?_)
  · rw [if_pos hq1] at hf
    refine lv_aload_n hx hb dX5_readOperand_75 rfl (lv_at hl 1 rfl) ?_
    refine oa_get (ci := 5) (C := RX5) (T := TX5) (N := 31) (v := .int (M 20 0 2)) hx hb hts inX5 hown hE hH 20 0 (by decide) rfl rfl 2 (by decide) (hts _ tw_617) rfl dX5_readOperand_76 ?_
    exact bX5_readOperand_79 C n x1 z0 (M 20 0 2) _ hf _ _ hH hS _ (lv_sub hl [1, 2, 0] rfl)
  · rw [if_neg hq1] at hf
    refine lv_aload_n hx hb dX5_readOperand_66 rfl (lv_at hl 1 rfl) ?_
    refine oa_get (ci := 5) (C := RX5) (T := TX5) (N := 31) (v := .int (M 20 0 2)) hx hb hts inX5 hown hE hH 20 0 (by decide) rfl rfl 2 (by decide) (hts _ tw_617) rfl dX5_readOperand_67 ?_
    refine lv_iconst (v := (1 : Int32)) hx hb dX5_readOperand_70 (by decide) ?_
    refine lv_iadd hx hb dX5_readOperand_71 ?_
    refine lv_goto (tgt := 79) hx hb dX5_readOperand_72 (by decide) ?_
    exact bX5_readOperand_79 C n x1 z0 ((M 20 0 2) + (1 : Int32)) _ hf _ _ hH hS _ (lv_sub hl [1, 2, 0] rfl)
set_option maxHeartbeats 4000000 in
set_option maxRecDepth 100000 in
theorem cX5_readOperand_k (l : Launch) (D : va_G) (ca : Nat → ClassId) (ad : Nat → Nat → Nat) (b0 : Nat) (hw : oa_W ad b0) (n : Nat) (x1 : Int32) (M : oa_M) (o : oa_M) (hf : FX5_readOperand n x1 M = some o) : oa_Mv l yX5_readOperand (oa_w yX5_readOperand cX5_readOperand 5 none) ({ frames := 1, cells := 0, slots := 0, locals := 20 } : Room) D ca ad b0 [.ref (ad 20 0), .int x1] M o := by
  refine oa_ofW (cc := cX5_readOperand) (maxL := 5) (ret := none) (by decide) rfl (Nat.le_of_ble_eq_true rfl) ?_
  intro p e s m below meth c hx hb hml hr hlocks hown hts0 hP ls hl
  obtain ⟨hH, hE⟩ := hP
  have hts : ∀ w ∈ oa_T, w.before _ s = true := fun w h => hts0 w (List.mem_cons_of_mem _ h)
  have hS : va_S (fun q => b0 ≤ q) s.heap s.heap [] := va_S.rf
  have C : oa_Cx p s m _ meth c cX5_readOperand 5 (none) RX5 D ca b0 ad := ⟨hx, hb, hml, hr, hlocks, hown, hts, hE, hw⟩
  have hl : lv_has ls 5 [(0, .ref (ad 20 0)), (1, .int x1)] := hl
  unfold FX5_readOperand at hf
  refine lv_aload_n hx hb dX5_readOperand_0 rfl (lv_at hl 0 rfl) ?_
  refine oa_get (ci := 5) (C := RX5) (T := TX5) (N := 31) (v := .ref (ad 44 0)) hx hb hts inX5 hown hE hH 20 0 (by decide) rfl rfl 24 (by decide) (hts _ tw_639) rfl dX5_readOperand_1 ?_
  refine lv_iload_n hx hb dX5_readOperand_4 rfl (lv_at hl 1 rfl) ?_
  refine lv_aload_n hx hb dX5_readOperand_5 rfl (lv_at hl 0 rfl) ?_
  obtain ⟨r1, M2, hc3, hf⟩ := oa_bdE hf
  refine oa_cvi (As := []) (rest := [.int x1, .ref (ad 44 0)]) ⟨hx, hb, hml, hown, hts⟩ (cX5_here_ok l D ca ad b0 hw n  _ _ _ hc3) (cwV 0 hts (oa_gV tw_726 tw_728 tw_21 tw_49 tw_729) rfl rfl rfl (by decide +kernel) ⟨Nat.le_of_ble_eq_true rfl, Nat.le_of_ble_eq_true rfl⟩) hE hH hS (oa_recv (k := 20) (ci := 5) hE hH (by decide) rfl rfl) rfl hl.1 rfl (Nat.le_of_ble_eq_true rfl) dX5_readOperand_6 ⟨by decide, by decide⟩ (fun H locs hH hS => ?_)
  obtain ⟨r4, M5, hc6, hf⟩ := oa_bdE hf
  refine oa_csi (As := [.int r1]) (rest := [.int x1, .ref (ad 44 0)]) ⟨hx, hb, hml, hown, hts⟩ (cX5_isLabelLetter_ok l D ca ad b0 hw n r1 _ _ _ hc6) (va_cwS 1 hts (oa_gS tw_832 tw_833 tw_49 tw_834) rfl rfl rfl (by decide +kernel) ⟨Nat.le_of_ble_eq_true rfl, Nat.le_of_ble_eq_true rfl⟩) hE hH hS rfl hl.1 rfl (Nat.le_of_ble_eq_true rfl) dX5_readOperand_9 ⟨by decide, by decide⟩ (fun H locs hH hS => ?_)
  obtain ⟨hk7, hf⟩ := oa_ck hf
  refine oa_zst hx hb hE hw hH hS 44 0 (by decide) 3 (fun _ => rfl) (oa_in_vp hk7) dX5_readOperand_12 (fun H locs hH hS => ?_)
  refine lv_aload_n hx hb dX5_readOperand_13 rfl (lv_at hl 0 rfl) ?_
  refine oa_get (ci := 5) (C := RX5) (T := TX5) (N := 31) (v := .ref (ad 44 0)) hx hb hts inX5 hown hE hH 20 0 (by decide) rfl rfl 24 (by decide) (hts _ tw_639) rfl dX5_readOperand_14 ?_
  refine lv_iload_n hx hb dX5_readOperand_17 rfl (lv_at hl 1 rfl) ?_
  obtain ⟨hk8, hf⟩ := oa_ck hf
  refine oa_zld (v := ((oa_up M5 44 0 x1.toNatClampNeg (vp_nar .boolean r4)) 44 0 x1.toNatClampNeg)) hx hb hE hH 44 0 (by decide) 3 rfl rfl (oa_in_vp hk8) dX5_readOperand_18 ?_
  refine lv_if_eq (tgt := 46) hx hb dX5_readOperand_19 (by decide) (fun hq9 => ?_) (fun hq9 => ?_)
  · rw [if_pos hq9] at hf
    refine lv_aload_n hx hb dX5_readOperand_46 rfl (lv_at hl 0 rfl) ?_
    obtain ⟨r10, M11, hc12, hf⟩ := oa_bdE hf
    refine oa_cvi (As := []) (rest := []) ⟨hx, hb, hml, hown, hts⟩ (cX5_here_ok l D ca ad b0 hw n  _ _ _ hc12) (cwV 0 hts (oa_gV tw_726 tw_728 tw_21 tw_49 tw_729) rfl rfl rfl (by decide +kernel) ⟨Nat.le_of_ble_eq_true rfl, Nat.le_of_ble_eq_true rfl⟩) hE hH hS (oa_recv (k := 20) (ci := 5) hE hH (by decide) rfl rfl) rfl hl.1 rfl (Nat.le_of_ble_eq_true rfl) dX5_readOperand_47 ⟨by decide, by decide⟩ (fun H locs hH hS => ?_)
    refine lv_bipush (v := (45 : Int32)) hx hb dX5_readOperand_50 (by decide) ?_
    refine lv_icmp_ne (tgt := 59) hx hb dX5_readOperand_52 (by decide) (fun hq13 => ?_) (fun hq13 => ?_)
    · rw [if_neg hq13] at hf
      refine lv_iconst (v := (0 : Int32)) hx hb dX5_readOperand_59 (by decide) ?_
      exact bX5_readOperand_60 C n x1 (0 : Int32) _ hf _ _ hH hS _ (lv_sub hl [0, 1] rfl)
    · rw [if_pos hq13] at hf
      refine lv_iconst (v := (1 : Int32)) hx hb dX5_readOperand_55 (by decide) ?_
      refine lv_goto (tgt := 60) hx hb dX5_readOperand_56 (by decide) ?_
      exact bX5_readOperand_60 C n x1 (1 : Int32) _ hf _ _ hH hS _ (lv_sub hl [0, 1] rfl)
  · rw [if_neg hq9] at hf
    refine lv_aload_n hx hb dX5_readOperand_22 rfl (lv_at hl 0 rfl) ?_
    refine oa_get (ci := 5) (C := RX5) (T := TX5) (N := 31) (v := .ref (ad 43 0)) hx hb hts inX5 hown hE hH 20 0 (by decide) rfl rfl 23 (by decide) (hts _ tw_638) rfl dX5_readOperand_23 ?_
    refine lv_iload_n hx hb dX5_readOperand_26 rfl (lv_at hl 1 rfl) ?_
    refine lv_aload_n hx hb dX5_readOperand_27 rfl (lv_at hl 0 rfl) ?_
    obtain ⟨r14, M15, hc16, hf⟩ := oa_bdE hf
    refine oa_cvi (As := []) (rest := [.int x1, .ref (ad 43 0)]) ⟨hx, hb, hml, hown, hts⟩ (cX5_here_ok l D ca ad b0 hw n  _ _ _ hc16) (cwV 0 hts (oa_gV tw_726 tw_728 tw_21 tw_49 tw_729) rfl rfl rfl (by decide +kernel) ⟨Nat.le_of_ble_eq_true rfl, Nat.le_of_ble_eq_true rfl⟩) hE hH hS (oa_recv (k := 20) (ci := 5) hE hH (by decide) rfl rfl) rfl hl.1 rfl (Nat.le_of_ble_eq_true rfl) dX5_readOperand_28 ⟨by decide, by decide⟩ (fun H locs hH hS => ?_)
    refine lv_bipush (v := (65 : Int32)) hx hb dX5_readOperand_31 (by decide) ?_
    refine lv_isub hx hb dX5_readOperand_33 ?_
    obtain ⟨hk17, hf⟩ := oa_ck hf
    refine oa_ist hx hb hE hw hH hS 43 0 (by decide) 3 (fun _ => rfl) (oa_in_vp hk17) dX5_readOperand_34 (fun H locs hH hS => ?_)
    refine lv_aload_n hx hb dX5_readOperand_35 rfl (lv_at hl 0 rfl) ?_
    refine lv_dup hx hb dX5_readOperand_36 rfl ?_
    refine oa_get (ci := 5) (C := RX5) (T := TX5) (N := 31) (v := .int (M15 20 0 2)) hx hb hts inX5 hown hE hH 20 0 (by decide) rfl rfl 2 (by decide) (hts _ tw_617) rfl dX5_readOperand_37 ?_
    refine lv_iconst (v := (1 : Int32)) hx hb dX5_readOperand_40 (by decide) ?_
    refine lv_iadd hx hb dX5_readOperand_41 ?_
    refine oa_put (ci := 5) (C := RX5) (T := TX5) (N := 31) (v := .int ((M15 20 0 2) + (1 : Int32))) (x := ((M15 20 0 2) + (1 : Int32))) hx hb hts inX5 tyX5 tyX5_ok nmX5 hown hE hw hH hS 20 0 (by decide) rfl rfl 2 (by decide) (hts _ tw_617) rfl rfl rfl (Nat.le_of_ble_eq_true rfl) rfl dX5_readOperand_42 (fun H locs hH hS => ?_)
    cases hf
    exact oa_retv hx hb hr hlocks hS hH dX5_readOperand_45
theorem cX5_readOperand_ok (l : Launch) (D : va_G) (ca : Nat → ClassId) (ad : Nat → Nat → Nat) (b0 : Nat) (hw : oa_W ad b0) (n : Nat) (x1 : Int32) (M : oa_M) (o : oa_M) (hf : FX5_readOperand n x1 M = some o) : oa_Mv l yX5_readOperand (oa_w yX5_readOperand cX5_readOperand 5 none) ({ frames := 1, cells := 0, slots := 0, locals := 20 } : Room) D ca ad b0 [.ref (ad 20 0), .int x1] M o := cX5_readOperand_k l D ca ad b0 hw n x1 M o hf
def BX5_readOperands_88 (rec17 : Int32 → Int32 → oa_M → Option (Int32 × oa_M)) (n : Nat) (x1 : Int32) (x2 : Int32) (z0 : Int32) (M : oa_M) : Option (Int32 × oa_M) := (rec17 x1 z0 M)
def BX5_readOperands_87 (rec17 : Int32 → Int32 → oa_M → Option (Int32 × oa_M)) (n : Nat) (x1 : Int32) (x2 : Int32) (M : oa_M) : Option (Int32 × oa_M) := (BX5_readOperands_88 rec17 n x1 x2 (0 : Int32) M)
def BX5_readOperands_67 (rec17 : Int32 → Int32 → oa_M → Option (Int32 × oa_M)) (n : Nat) (x1 : Int32) (x2 : Int32) (M : oa_M) : Option (Int32 × oa_M) := (if (M 20 0 3) = 0 then (oa_bd (FX5_here n  M) (fun r2 M3 => (if r2 = (44 : Int32) then (BX5_readOperands_88 rec17 n x1 x2 (1 : Int32) M3) else (BX5_readOperands_87 rec17 n x1 x2 M3)))) else (BX5_readOperands_87 rec17 n x1 x2 M))
def BX5_readOperands_49 (rec17 : Int32 → Int32 → oa_M → Option (Int32 × oa_M)) (n : Nat) (x1 : Int32) (x2 : Int32) (z1 : Int32) (M : oa_M) : Option (Int32 × oa_M) := (if oa_isb z1 = true then (if z1 = 0 then (oa_bv (FX5_readOperand n x1 (oa_up M 20 0 3 z1)) (fun M4 => (BX5_readOperands_67 rec17 n (x1 + (1 : Int32)) x2 M4))) else (BX5_readOperands_67 rec17 n x1 x2 (oa_up M 20 0 3 z1))) else none)
def BX5_readOperands_44 (rec17 : Int32 → Int32 → oa_M → Option (Int32 × oa_M)) (n : Nat) (x1 : Int32) (x2 : Int32) (M : oa_M) : Option (Int32 × oa_M) := (BX5_readOperands_49 rec17 n x1 x2 (1 : Int32) M)
def BX5_readOperands_17 : Nat → Int32 → Int32 → oa_M → Option (Int32 × oa_M)
  | 0, _, _, _ => none
  | n + 1, x1, x2, M => (if x2 = 0 then (some (x1, M)) else (if (M 20 0 3) = 0 then (if x1 = (3 : Int32) then (BX5_readOperands_44 (BX5_readOperands_17 n) n x1 x2 (oa_up M 20 0 2 ((M 20 0 2) + (1 : Int32)))) else (BX5_readOperands_49 (BX5_readOperands_17 n) n x1 x2 (0 : Int32) (oa_up M 20 0 2 ((M 20 0 2) + (1 : Int32))))) else (BX5_readOperands_44 (BX5_readOperands_17 n) n x1 x2 (oa_up M 20 0 2 ((M 20 0 2) + (1 : Int32))))))
def BX5_readOperands_16 (n : Nat) (x1 : Int32) (z0 : Int32) (M : oa_M) : Option (Int32 × oa_M) := (BX5_readOperands_17 n x1 z0 M)
def FX5_readOperands (n : Nat)  (M : oa_M) : Option (Int32 × oa_M) := (oa_bd (FX5_here n  M) (fun r1 M2 => (if r1 = (32 : Int32) then (BX5_readOperands_16 n (0 : Int32) (1 : Int32) M2) else (BX5_readOperands_16 n (0 : Int32) (0 : Int32) M2))))
set_option maxHeartbeats 4000000 in
set_option maxRecDepth 100000 in
theorem bX5_readOperands_88 {p : Program} {l : Launch} {e : Env} {s : State} {m : MethodId} {args : Array Value} {below : List Frame} {meth : Method} {c : Code} {D : va_G} {ca : Nat → ClassId} {ad : Nat → Nat → Nat} {b0 : Nat} {o : Int32 × oa_M} (C : oa_Cx p s m args meth c cX5_readOperands 3 (some .int) RX5 D ca b0 ad) (rec17 : Int32 → Int32 → oa_M → Option (Int32 × oa_M)) (hrec17 : ∀ (x1 : Int32) (x2 : Int32) (M : oa_M), rec17 x1 x2 M = some o → ∀ (H : Heap) (locs : List Loc), oa_H D ca ad M H → va_S (fun q => b0 ≤ q) s.heap H locs → ∀ (ls : Array Slot), lv_has ls 3 [(0, .ref (ad 20 0)), (1, .int x1), (2, .int x2)] → W p l e ({ frames := 2, cells := 0, slots := 0, locals := 44 } : Room) s m args below meth c H locs 0 0 (MQ below (va_Qi (fun (r' : Int32) (u : oa_M) => r' = o.1 ∧ u = o.2) (fun u t => oa_H D ca ad u t.heap) (fun q => b0 ≤ q)) args s 0 0 (fun q => b0 ≤ q)) (F0 m 17 ls [])) : ∀ (n : Nat), ∀ (x1 : Int32) (x2 : Int32) (z0 : Int32) (M : oa_M), BX5_readOperands_88 rec17 n x1 x2 z0 M = some o → ∀ (H : Heap) (locs : List Loc), oa_H D ca ad M H → va_S (fun q => b0 ≤ q) s.heap H locs → ∀ (ls : Array Slot), lv_has ls 3 [(0, .ref (ad 20 0)), (1, .int x1), (2, .int x2)] → W p l e ({ frames := 2, cells := 0, slots := 0, locals := 44 } : Room) s m args below meth c H locs 0 0 (MQ below (va_Qi (fun (r' : Int32) (u : oa_M) => r' = o.1 ∧ u = o.2) (fun u t => oa_H D ca ad u t.heap) (fun q => b0 ≤ q)) args s 0 0 (fun q => b0 ≤ q)) (F0 m 88 ls [.int z0]) := by
  obtain ⟨hx, hb, hml, hr, hlocks, hown, hts, hE, hw⟩ := id C
  intro n x1 x2 z0 M hf H locs hH hS ls hl
  unfold BX5_readOperands_88 at hf
  refine lv_istore_n (lv' := [(2, .int z0), (0, .ref (ad 20 0)), (1, .int x1)]) hx hb dX5_readOperands_88 rfl hl (by decide) rfl (fun ls hl => ?_)
  refine lv_goto (tgt := 17) hx hb dX5_readOperands_89 (by decide) ?_
  exact hrec17 x1 z0 _ hf _ _ hH hS _ (lv_sub hl [1, 2, 0] rfl)
set_option maxHeartbeats 4000000 in
set_option maxRecDepth 100000 in
theorem bX5_readOperands_87 {p : Program} {l : Launch} {e : Env} {s : State} {m : MethodId} {args : Array Value} {below : List Frame} {meth : Method} {c : Code} {D : va_G} {ca : Nat → ClassId} {ad : Nat → Nat → Nat} {b0 : Nat} {o : Int32 × oa_M} (C : oa_Cx p s m args meth c cX5_readOperands 3 (some .int) RX5 D ca b0 ad) (rec17 : Int32 → Int32 → oa_M → Option (Int32 × oa_M)) (hrec17 : ∀ (x1 : Int32) (x2 : Int32) (M : oa_M), rec17 x1 x2 M = some o → ∀ (H : Heap) (locs : List Loc), oa_H D ca ad M H → va_S (fun q => b0 ≤ q) s.heap H locs → ∀ (ls : Array Slot), lv_has ls 3 [(0, .ref (ad 20 0)), (1, .int x1), (2, .int x2)] → W p l e ({ frames := 2, cells := 0, slots := 0, locals := 44 } : Room) s m args below meth c H locs 0 0 (MQ below (va_Qi (fun (r' : Int32) (u : oa_M) => r' = o.1 ∧ u = o.2) (fun u t => oa_H D ca ad u t.heap) (fun q => b0 ≤ q)) args s 0 0 (fun q => b0 ≤ q)) (F0 m 17 ls [])) : ∀ (n : Nat), ∀ (x1 : Int32) (x2 : Int32) (M : oa_M), BX5_readOperands_87 rec17 n x1 x2 M = some o → ∀ (H : Heap) (locs : List Loc), oa_H D ca ad M H → va_S (fun q => b0 ≤ q) s.heap H locs → ∀ (ls : Array Slot), lv_has ls 3 [(0, .ref (ad 20 0)), (1, .int x1), (2, .int x2)] → W p l e ({ frames := 2, cells := 0, slots := 0, locals := 44 } : Room) s m args below meth c H locs 0 0 (MQ below (va_Qi (fun (r' : Int32) (u : oa_M) => r' = o.1 ∧ u = o.2) (fun u t => oa_H D ca ad u t.heap) (fun q => b0 ≤ q)) args s 0 0 (fun q => b0 ≤ q)) (F0 m 87 ls []) := by
  obtain ⟨hx, hb, hml, hr, hlocks, hown, hts, hE, hw⟩ := id C
  intro n x1 x2 M hf H locs hH hS ls hl
  unfold BX5_readOperands_87 at hf
  refine lv_iconst (v := (0 : Int32)) hx hb dX5_readOperands_87 (by decide) ?_
  exact bX5_readOperands_88 C _ hrec17 n x1 x2 (0 : Int32) _ hf _ _ hH hS _ (lv_sub hl [0, 1, 2] rfl)
set_option maxHeartbeats 4000000 in
set_option maxRecDepth 100000 in
theorem bX5_readOperands_67 {p : Program} {l : Launch} {e : Env} {s : State} {m : MethodId} {args : Array Value} {below : List Frame} {meth : Method} {c : Code} {D : va_G} {ca : Nat → ClassId} {ad : Nat → Nat → Nat} {b0 : Nat} {o : Int32 × oa_M} (C : oa_Cx p s m args meth c cX5_readOperands 3 (some .int) RX5 D ca b0 ad) (rec17 : Int32 → Int32 → oa_M → Option (Int32 × oa_M)) (hrec17 : ∀ (x1 : Int32) (x2 : Int32) (M : oa_M), rec17 x1 x2 M = some o → ∀ (H : Heap) (locs : List Loc), oa_H D ca ad M H → va_S (fun q => b0 ≤ q) s.heap H locs → ∀ (ls : Array Slot), lv_has ls 3 [(0, .ref (ad 20 0)), (1, .int x1), (2, .int x2)] → W p l e ({ frames := 2, cells := 0, slots := 0, locals := 44 } : Room) s m args below meth c H locs 0 0 (MQ below (va_Qi (fun (r' : Int32) (u : oa_M) => r' = o.1 ∧ u = o.2) (fun u t => oa_H D ca ad u t.heap) (fun q => b0 ≤ q)) args s 0 0 (fun q => b0 ≤ q)) (F0 m 17 ls [])) : ∀ (n : Nat), ∀ (x1 : Int32) (x2 : Int32) (M : oa_M), BX5_readOperands_67 rec17 n x1 x2 M = some o → ∀ (H : Heap) (locs : List Loc), oa_H D ca ad M H → va_S (fun q => b0 ≤ q) s.heap H locs → ∀ (ls : Array Slot), lv_has ls 3 [(0, .ref (ad 20 0)), (1, .int x1), (2, .int x2)] → W p l e ({ frames := 2, cells := 0, slots := 0, locals := 44 } : Room) s m args below meth c H locs 0 0 (MQ below (va_Qi (fun (r' : Int32) (u : oa_M) => r' = o.1 ∧ u = o.2) (fun u t => oa_H D ca ad u t.heap) (fun q => b0 ≤ q)) args s 0 0 (fun q => b0 ≤ q)) (F0 m 67 ls []) := by
  obtain ⟨hx, hb, hml, hr, hlocks, hown, hts, hE, hw⟩ := id C
  intro n x1 x2 M hf H locs hH hS ls hl
  unfold BX5_readOperands_67 at hf
  refine lv_aload_n hx hb dX5_readOperands_67 rfl (lv_at hl 0 rfl) ?_
  refine oa_get (ci := 5) (C := RX5) (T := TX5) (N := 31) (v := .int (M 20 0 3)) hx hb hts inX5 hown hE hH 20 0 (by decide) rfl rfl 3 (by decide) (hts _ tw_618) rfl dX5_readOperands_68 ?_
  refine lv_if_ne (tgt := 87) hx hb dX5_readOperands_71 (by decide) (fun hq1 => ?_) (fun hq1 => ?_)
  · rw [if_neg hq1] at hf
    exact bX5_readOperands_87 C _ hrec17 n x1 x2 _ hf _ _ hH hS _ (lv_sub hl [0, 1, 2] rfl)
  · rw [if_pos hq1] at hf
    refine lv_aload_n hx hb dX5_readOperands_74 rfl (lv_at hl 0 rfl) ?_
    obtain ⟨r2, M3, hc4, hf⟩ := oa_bdE hf
    refine oa_cvi (As := []) (rest := []) ⟨hx, hb, hml, hown, hts⟩ (cX5_here_ok l D ca ad b0 hw n  _ _ _ hc4) (cwV 0 hts (oa_gV tw_726 tw_728 tw_21 tw_49 tw_729) rfl rfl rfl (by decide +kernel) ⟨Nat.le_of_ble_eq_true rfl, Nat.le_of_ble_eq_true rfl⟩) hE hH hS (oa_recv (k := 20) (ci := 5) hE hH (by decide) rfl rfl) rfl hl.1 rfl (Nat.le_of_ble_eq_true rfl) dX5_readOperands_75 ⟨by decide, by decide⟩ (fun H locs hH hS => ?_)
    refine lv_bipush (v := (44 : Int32)) hx hb dX5_readOperands_78 (by decide) ?_
    refine lv_icmp_ne (tgt := 87) hx hb dX5_readOperands_80 (by decide) (fun hq5 => ?_) (fun hq5 => ?_)
    · rw [if_neg hq5] at hf
      exact bX5_readOperands_87 C _ hrec17 n x1 x2 _ hf _ _ hH hS _ (lv_sub hl [0, 1, 2] rfl)
    · rw [if_pos hq5] at hf
      refine lv_iconst (v := (1 : Int32)) hx hb dX5_readOperands_83 (by decide) ?_
      refine lv_goto (tgt := 88) hx hb dX5_readOperands_84 (by decide) ?_
      exact bX5_readOperands_88 C _ hrec17 n x1 x2 (1 : Int32) _ hf _ _ hH hS _ (lv_sub hl [0, 1, 2] rfl)
set_option maxHeartbeats 4000000 in
set_option maxRecDepth 100000 in
theorem bX5_readOperands_49 {p : Program} {l : Launch} {e : Env} {s : State} {m : MethodId} {args : Array Value} {below : List Frame} {meth : Method} {c : Code} {D : va_G} {ca : Nat → ClassId} {ad : Nat → Nat → Nat} {b0 : Nat} {o : Int32 × oa_M} (C : oa_Cx p s m args meth c cX5_readOperands 3 (some .int) RX5 D ca b0 ad) (rec17 : Int32 → Int32 → oa_M → Option (Int32 × oa_M)) (hrec17 : ∀ (x1 : Int32) (x2 : Int32) (M : oa_M), rec17 x1 x2 M = some o → ∀ (H : Heap) (locs : List Loc), oa_H D ca ad M H → va_S (fun q => b0 ≤ q) s.heap H locs → ∀ (ls : Array Slot), lv_has ls 3 [(0, .ref (ad 20 0)), (1, .int x1), (2, .int x2)] → W p l e ({ frames := 2, cells := 0, slots := 0, locals := 44 } : Room) s m args below meth c H locs 0 0 (MQ below (va_Qi (fun (r' : Int32) (u : oa_M) => r' = o.1 ∧ u = o.2) (fun u t => oa_H D ca ad u t.heap) (fun q => b0 ≤ q)) args s 0 0 (fun q => b0 ≤ q)) (F0 m 17 ls [])) : ∀ (n : Nat), ∀ (x1 : Int32) (x2 : Int32) (z1 : Int32) (M : oa_M), BX5_readOperands_49 rec17 n x1 x2 z1 M = some o → ∀ (H : Heap) (locs : List Loc), oa_H D ca ad M H → va_S (fun q => b0 ≤ q) s.heap H locs → ∀ (ls : Array Slot), lv_has ls 3 [(0, .ref (ad 20 0)), (1, .int x1), (2, .int x2)] → W p l e ({ frames := 2, cells := 0, slots := 0, locals := 44 } : Room) s m args below meth c H locs 0 0 (MQ below (va_Qi (fun (r' : Int32) (u : oa_M) => r' = o.1 ∧ u = o.2) (fun u t => oa_H D ca ad u t.heap) (fun q => b0 ≤ q)) args s 0 0 (fun q => b0 ≤ q)) (F0 m 49 ls [.int z1, .ref (ad 20 0)]) := by
  obtain ⟨hx, hb, hml, hr, hlocks, hown, hts, hE, hw⟩ := id C
  intro n x1 x2 z1 M hf H locs hH hS ls hl
  unfold BX5_readOperands_49 at hf
  obtain ⟨hk1, hf⟩ := oa_ck hf
  refine oa_put (ci := 5) (C := RX5) (T := TX5) (N := 31) (v := .int z1) (x := z1) hx hb hts inX5 tyX5 tyX5_ok nmX5 hown hE hw hH hS 20 0 (by decide) rfl rfl 3 (by decide) (hts _ tw_618) rfl (oa_nb hk1) (oa_fb hk1) (Nat.le_of_ble_eq_true rfl) rfl dX5_readOperands_49 (fun H locs hH hS => ?_)
  refine lv_aload_n hx hb dX5_readOperands_52 rfl (lv_at hl 0 rfl) ?_
  refine oa_get (ci := 5) (C := RX5) (T := TX5) (N := 31) (v := .int z1) hx hb hts inX5 hown hE hH 20 0 (by decide) rfl rfl 3 (by decide) (hts _ tw_618) rfl dX5_readOperands_53 ?_
  refine lv_if_ne (tgt := 67) hx hb dX5_readOperands_56 (by decide) (fun hq2 => ?_) (fun hq2 => ?_)
  · rw [if_neg hq2] at hf
    exact bX5_readOperands_67 C _ hrec17 n x1 x2 _ hf _ _ hH hS _ (lv_sub hl [0, 1, 2] rfl)
  · rw [if_pos hq2] at hf
    refine lv_aload_n hx hb dX5_readOperands_59 rfl (lv_at hl 0 rfl) ?_
    refine lv_iload_n hx hb dX5_readOperands_60 rfl (lv_at hl 1 rfl) ?_
    obtain ⟨M4, hc5, hf⟩ := oa_bvE hf
    refine oa_cvv (As := [.int x1]) (rest := []) ⟨hx, hb, hml, hown, hts⟩ (cX5_readOperand_ok l D ca ad b0 hw n x1 _ _ hc5) (cwV 1 hts (oa_gV tw_839 tw_841 tw_38 tw_49 tw_842) rfl rfl rfl (by decide +kernel) ⟨Nat.le_of_ble_eq_true rfl, Nat.le_of_ble_eq_true rfl⟩) hE hH hS (oa_recv (k := 20) (ci := 5) hE hH (by decide) rfl rfl) rfl hl.1 rfl (Nat.le_of_ble_eq_true rfl) dX5_readOperands_61 ⟨by decide, by decide⟩ (fun H locs hH hS => ?_)
    refine lv_iinc (v := (x1 + (1 : Int32))) (lv' := [(1, .int (x1 + (1 : Int32))), (0, .ref (ad 20 0)), (2, .int x2)]) hx hb dX5_readOperands_64 hl (k := 1) rfl rfl (by decide) rfl (fun ls hl => ?_)
    exact bX5_readOperands_67 C _ hrec17 n (x1 + (1 : Int32)) x2 _ hf _ _ hH hS _ (lv_sub hl [1, 0, 2] rfl)
set_option maxHeartbeats 4000000 in
set_option maxRecDepth 100000 in
theorem bX5_readOperands_44 {p : Program} {l : Launch} {e : Env} {s : State} {m : MethodId} {args : Array Value} {below : List Frame} {meth : Method} {c : Code} {D : va_G} {ca : Nat → ClassId} {ad : Nat → Nat → Nat} {b0 : Nat} {o : Int32 × oa_M} (C : oa_Cx p s m args meth c cX5_readOperands 3 (some .int) RX5 D ca b0 ad) (rec17 : Int32 → Int32 → oa_M → Option (Int32 × oa_M)) (hrec17 : ∀ (x1 : Int32) (x2 : Int32) (M : oa_M), rec17 x1 x2 M = some o → ∀ (H : Heap) (locs : List Loc), oa_H D ca ad M H → va_S (fun q => b0 ≤ q) s.heap H locs → ∀ (ls : Array Slot), lv_has ls 3 [(0, .ref (ad 20 0)), (1, .int x1), (2, .int x2)] → W p l e ({ frames := 2, cells := 0, slots := 0, locals := 44 } : Room) s m args below meth c H locs 0 0 (MQ below (va_Qi (fun (r' : Int32) (u : oa_M) => r' = o.1 ∧ u = o.2) (fun u t => oa_H D ca ad u t.heap) (fun q => b0 ≤ q)) args s 0 0 (fun q => b0 ≤ q)) (F0 m 17 ls [])) : ∀ (n : Nat), ∀ (x1 : Int32) (x2 : Int32) (M : oa_M), BX5_readOperands_44 rec17 n x1 x2 M = some o → ∀ (H : Heap) (locs : List Loc), oa_H D ca ad M H → va_S (fun q => b0 ≤ q) s.heap H locs → ∀ (ls : Array Slot), lv_has ls 3 [(0, .ref (ad 20 0)), (1, .int x1), (2, .int x2)] → W p l e ({ frames := 2, cells := 0, slots := 0, locals := 44 } : Room) s m args below meth c H locs 0 0 (MQ below (va_Qi (fun (r' : Int32) (u : oa_M) => r' = o.1 ∧ u = o.2) (fun u t => oa_H D ca ad u t.heap) (fun q => b0 ≤ q)) args s 0 0 (fun q => b0 ≤ q)) (F0 m 44 ls [.ref (ad 20 0)]) := by
  obtain ⟨hx, hb, hml, hr, hlocks, hown, hts, hE, hw⟩ := id C
  intro n x1 x2 M hf H locs hH hS ls hl
  unfold BX5_readOperands_44 at hf
  refine lv_iconst (v := (1 : Int32)) hx hb dX5_readOperands_44 (by decide) ?_
  refine lv_goto (tgt := 49) hx hb dX5_readOperands_45 (by decide) ?_
  exact bX5_readOperands_49 C _ hrec17 n x1 x2 (1 : Int32) _ hf _ _ hH hS _ (lv_sub hl [0, 1, 2] rfl)
set_option maxHeartbeats 4000000 in
set_option maxRecDepth 100000 in
theorem bX5_readOperands_17 {p : Program} {l : Launch} {e : Env} {s : State} {m : MethodId} {args : Array Value} {below : List Frame} {meth : Method} {c : Code} {D : va_G} {ca : Nat → ClassId} {ad : Nat → Nat → Nat} {b0 : Nat} {o : Int32 × oa_M} (C : oa_Cx p s m args meth c cX5_readOperands 3 (some .int) RX5 D ca b0 ad) : ∀ (n : Nat), ∀ (x1 : Int32) (x2 : Int32) (M : oa_M), BX5_readOperands_17 n x1 x2 M = some o → ∀ (H : Heap) (locs : List Loc), oa_H D ca ad M H → va_S (fun q => b0 ≤ q) s.heap H locs → ∀ (ls : Array Slot), lv_has ls 3 [(0, .ref (ad 20 0)), (1, .int x1), (2, .int x2)] → W p l e ({ frames := 2, cells := 0, slots := 0, locals := 44 } : Room) s m args below meth c H locs 0 0 (MQ below (va_Qi (fun (r' : Int32) (u : oa_M) => r' = o.1 ∧ u = o.2) (fun u t => oa_H D ca ad u t.heap) (fun q => b0 ≤ q)) args s 0 0 (fun q => b0 ≤ q)) (F0 m 17 ls []) := by
  obtain ⟨hx, hb, hml, hr, hlocks, hown, hts, hE, hw⟩ := id C
  intro n
  induction n with
  | zero => intro x1 x2 M hf; cases hf
  | succ n ih =>
    intro x1 x2 M hf H locs hH hS ls hl
    have hrec17 := ih
    unfold BX5_readOperands_17 at hf
    refine lv_iload_n hx hb dX5_readOperands_17 rfl (lv_at hl 2 rfl) ?_
    refine lv_if_eq (tgt := 92) hx hb dX5_readOperands_18 (by decide) (fun hq1 => ?_) (fun hq1 => ?_)
    · rw [if_pos hq1] at hf
      refine lv_iload_n hx hb dX5_readOperands_92 rfl (lv_at hl 1 rfl) ?_
      cases hf
      exact oa_reti hx hb hr hlocks rfl hS hH dX5_readOperands_93
    · rw [if_neg hq1] at hf
      refine lv_aload_n hx hb dX5_readOperands_21 rfl (lv_at hl 0 rfl) ?_
      refine lv_dup hx hb dX5_readOperands_22 rfl ?_
      refine oa_get (ci := 5) (C := RX5) (T := TX5) (N := 31) (v := .int (M 20 0 2)) hx hb hts inX5 hown hE hH 20 0 (by decide) rfl rfl 2 (by decide) (hts _ tw_617) rfl dX5_readOperands_23 ?_
      refine lv_iconst (v := (1 : Int32)) hx hb dX5_readOperands_26 (by decide) ?_
      refine lv_iadd hx hb dX5_readOperands_27 ?_
      refine oa_put (ci := 5) (C := RX5) (T := TX5) (N := 31) (v := .int ((M 20 0 2) + (1 : Int32))) (x := ((M 20 0 2) + (1 : Int32))) hx hb hts inX5 tyX5 tyX5_ok nmX5 hown hE hw hH hS 20 0 (by decide) rfl rfl 2 (by decide) (hts _ tw_617) rfl rfl rfl (Nat.le_of_ble_eq_true rfl) rfl dX5_readOperands_28 (fun H locs hH hS => ?_)
      refine lv_aload_n hx hb dX5_readOperands_31 rfl (lv_at hl 0 rfl) ?_
      refine lv_aload_n hx hb dX5_readOperands_32 rfl (lv_at hl 0 rfl) ?_
      refine oa_get (ci := 5) (C := RX5) (T := TX5) (N := 31) (v := .int (M 20 0 3)) hx hb hts inX5 hown hE hH 20 0 (by decide) rfl rfl 3 (by decide) (hts _ tw_618) rfl dX5_readOperands_33 ?_
      refine lv_if_ne (tgt := 44) hx hb dX5_readOperands_36 (by decide) (fun hq2 => ?_) (fun hq2 => ?_)
      · rw [if_neg hq2] at hf
        exact bX5_readOperands_44 C _ hrec17 n x1 x2 _ hf _ _ hH hS _ (lv_sub hl [0, 1, 2] rfl)
      · rw [if_pos hq2] at hf
        refine lv_iload_n hx hb dX5_readOperands_39 rfl (lv_at hl 1 rfl) ?_
        refine lv_iconst (v := (3 : Int32)) hx hb dX5_readOperands_40 (by decide) ?_
        refine lv_icmp_ne (tgt := 48) hx hb dX5_readOperands_41 (by decide) (fun hq3 => ?_) (fun hq3 => ?_)
        · rw [if_neg hq3] at hf
          refine lv_iconst (v := (0 : Int32)) hx hb dX5_readOperands_48 (by decide) ?_
          exact bX5_readOperands_49 C _ hrec17 n x1 x2 (0 : Int32) _ hf _ _ hH hS _ (lv_sub hl [0, 1, 2] rfl)
        · rw [if_pos hq3] at hf
          exact bX5_readOperands_44 C _ hrec17 n x1 x2 _ hf _ _ hH hS _ (lv_sub hl [0, 1, 2] rfl)
set_option maxHeartbeats 4000000 in
set_option maxRecDepth 100000 in
theorem bX5_readOperands_16 {p : Program} {l : Launch} {e : Env} {s : State} {m : MethodId} {args : Array Value} {below : List Frame} {meth : Method} {c : Code} {D : va_G} {ca : Nat → ClassId} {ad : Nat → Nat → Nat} {b0 : Nat} {o : Int32 × oa_M} (C : oa_Cx p s m args meth c cX5_readOperands 3 (some .int) RX5 D ca b0 ad) : ∀ (n : Nat), ∀ (x1 : Int32) (z0 : Int32) (M : oa_M), BX5_readOperands_16 n x1 z0 M = some o → ∀ (H : Heap) (locs : List Loc), oa_H D ca ad M H → va_S (fun q => b0 ≤ q) s.heap H locs → ∀ (ls : Array Slot), lv_has ls 3 [(0, .ref (ad 20 0)), (1, .int x1)] → W p l e ({ frames := 2, cells := 0, slots := 0, locals := 44 } : Room) s m args below meth c H locs 0 0 (MQ below (va_Qi (fun (r' : Int32) (u : oa_M) => r' = o.1 ∧ u = o.2) (fun u t => oa_H D ca ad u t.heap) (fun q => b0 ≤ q)) args s 0 0 (fun q => b0 ≤ q)) (F0 m 16 ls [.int z0]) := by
  obtain ⟨hx, hb, hml, hr, hlocks, hown, hts, hE, hw⟩ := id C
  intro n x1 z0 M hf H locs hH hS ls hl
  unfold BX5_readOperands_16 at hf
  refine lv_istore_n (lv' := [(2, .int z0), (0, .ref (ad 20 0)), (1, .int x1)]) hx hb dX5_readOperands_16 rfl hl (by decide) rfl (fun ls hl => ?_)
  exact bX5_readOperands_17 C n x1 z0 _ hf _ _ hH hS _ (lv_sub hl [1, 2, 0] rfl)
set_option maxHeartbeats 4000000 in
set_option maxRecDepth 100000 in
theorem cX5_readOperands_k (l : Launch) (D : va_G) (ca : Nat → ClassId) (ad : Nat → Nat → Nat) (b0 : Nat) (hw : oa_W ad b0) (n : Nat)  (M : oa_M) (o : Int32 × oa_M) (hf : FX5_readOperands n  M = some o) : oa_Mi l yX5_readOperands (oa_w yX5_readOperands cX5_readOperands 3 (some .int)) ({ frames := 2, cells := 0, slots := 0, locals := 44 } : Room) D ca ad b0 [.ref (ad 20 0)] M o.1 o.2 := by
  refine oa_ofW (cc := cX5_readOperands) (maxL := 3) (ret := some .int) (by decide) rfl (Nat.le_of_ble_eq_true rfl) ?_
  intro p e s m below meth c hx hb hml hr hlocks hown hts0 hP ls hl
  obtain ⟨hH, hE⟩ := hP
  have hts : ∀ w ∈ oa_T, w.before _ s = true := fun w h => hts0 w (List.mem_cons_of_mem _ h)
  have hS : va_S (fun q => b0 ≤ q) s.heap s.heap [] := va_S.rf
  have C : oa_Cx p s m _ meth c cX5_readOperands 3 (some .int) RX5 D ca b0 ad := ⟨hx, hb, hml, hr, hlocks, hown, hts, hE, hw⟩
  have hl : lv_has ls 3 [(0, .ref (ad 20 0))] := hl
  unfold FX5_readOperands at hf
  refine lv_iconst (v := (0 : Int32)) hx hb dX5_readOperands_0 (by decide) ?_
  refine lv_istore_n (lv' := [(1, .int (0 : Int32)), (0, .ref (ad 20 0))]) hx hb dX5_readOperands_1 rfl hl (by decide) rfl (fun ls hl => ?_)
  refine lv_aload_n hx hb dX5_readOperands_2 rfl (lv_at hl 1 rfl) ?_
  obtain ⟨r1, M2, hc3, hf⟩ := oa_bdE hf
  refine oa_cvi (As := []) (rest := []) ⟨hx, hb, hml, hown, hts⟩ (cX5_here_ok l D ca ad b0 hw n  _ _ _ hc3) (cwV 0 hts (oa_gV tw_726 tw_728 tw_21 tw_49 tw_729) rfl rfl rfl (by decide +kernel) ⟨Nat.le_of_ble_eq_true rfl, Nat.le_of_ble_eq_true rfl⟩) hE hH hS (oa_recv (k := 20) (ci := 5) hE hH (by decide) rfl rfl) rfl hl.1 rfl (Nat.le_of_ble_eq_true rfl) dX5_readOperands_3 ⟨by decide, by decide⟩ (fun H locs hH hS => ?_)
  refine lv_bipush (v := (32 : Int32)) hx hb dX5_readOperands_6 (by decide) ?_
  refine lv_icmp_ne (tgt := 15) hx hb dX5_readOperands_8 (by decide) (fun hq4 => ?_) (fun hq4 => ?_)
  · rw [if_neg hq4] at hf
    refine lv_iconst (v := (0 : Int32)) hx hb dX5_readOperands_15 (by decide) ?_
    exact bX5_readOperands_16 C n (0 : Int32) (0 : Int32) _ hf _ _ hH hS _ (lv_sub hl [1, 0] rfl)
  · rw [if_pos hq4] at hf
    refine lv_iconst (v := (1 : Int32)) hx hb dX5_readOperands_11 (by decide) ?_
    refine lv_goto (tgt := 16) hx hb dX5_readOperands_12 (by decide) ?_
    exact bX5_readOperands_16 C n (0 : Int32) (1 : Int32) _ hf _ _ hH hS _ (lv_sub hl [1, 0] rfl)
theorem cX5_readOperands_ok (l : Launch) (D : va_G) (ca : Nat → ClassId) (ad : Nat → Nat → Nat) (b0 : Nat) (hw : oa_W ad b0) (n : Nat)  (M : oa_M) (r : Int32) (M' : oa_M) (hf : FX5_readOperands n  M = some (r, M')) : oa_Mi l yX5_readOperands (oa_w yX5_readOperands cX5_readOperands 3 (some .int)) ({ frames := 2, cells := 0, slots := 0, locals := 44 } : Room) D ca ad b0 [.ref (ad 20 0)] M r M' := cX5_readOperands_k l D ca ad b0 hw n  M (r, M') hf
def BX5_line_227 : Nat → Int32 → Int32 → Int32 → Int32 → oa_M → Option (Int32 × oa_M)
  | 0, _, _, _, _, _ => none
  | n + 1, x1, x2, x3, x4, M => (if (3 : Int32) ≤ x4 then (some (((M 20 0 17) + (1 : Int32)), (oa_up M 20 0 17 ((M 20 0 17) + (1 : Int32))))) else (if oa_in x4 3 = true then (if oa_in (((3 : Int32) * (M 20 0 17)) + x4) 60 = true then (if oa_in x4 3 = true then (if oa_in (((3 : Int32) * (M 20 0 17)) + x4) 60 = true then (BX5_line_227 n x1 x2 x3 (x4 + (1 : Int32)) (oa_up (oa_up M 41 0 (((3 : Int32) * (M 20 0 17)) + x4).toNatClampNeg (M 43 0 x4.toNatClampNeg)) 42 0 (((3 : Int32) * (M 20 0 17)) + x4).toNatClampNeg (vp_nar .boolean (M 44 0 x4.toNatClampNeg)))) else none) else none) else none) else none))
def BX5_line_182 (n : Nat) (x1 : Int32) (x2 : Int32) (x3 : Int32) (x4 : Int32) (z1 : Int32) (M : oa_M) : Option (Int32 × oa_M) := (if z1 = 0 then (if oa_in (M 20 0 17) 20 = true then (if oa_in (M 20 0 17) 20 = true then (if oa_in (M 20 0 17) 20 = true then (BX5_line_227 n x1 x2 x3 (0 : Int32) (oa_up (oa_up (oa_up (oa_up M 20 0 30 z1) 38 0 (M 20 0 17).toNatClampNeg x1) 39 0 (M 20 0 17).toNatClampNeg x2) 40 0 (M 20 0 17).toNatClampNeg x3)) else none) else none) else none) else (some ((0 : Int32), (oa_up M 20 0 30 z1))))
def BX5_line_142 (rec105 : Int32 → Int32 → Int32 → Int32 → oa_M → Option (Int32 × oa_M)) (n : Nat) (x1 : Int32) (x2 : Int32) (x3 : Int32) (x4 : Int32) (z1 : Int32) (M : oa_M) : Option (Int32 × oa_M) := (if oa_isb z1 = true then (rec105 x1 x2 x3 (x4 + (1 : Int32)) (oa_up M 20 0 3 z1)) else none)
def BX5_line_141 (rec105 : Int32 → Int32 → Int32 → Int32 → oa_M → Option (Int32 × oa_M)) (n : Nat) (x1 : Int32) (x2 : Int32) (x3 : Int32) (x4 : Int32) (M : oa_M) : Option (Int32 × oa_M) := (BX5_line_142 rec105 n x1 x2 x3 x4 (0 : Int32) M)
def BX5_line_137 (rec105 : Int32 → Int32 → Int32 → Int32 → oa_M → Option (Int32 × oa_M)) (n : Nat) (x1 : Int32) (x2 : Int32) (x3 : Int32) (x4 : Int32) (M : oa_M) : Option (Int32 × oa_M) := (BX5_line_142 rec105 n x1 x2 x3 x4 (1 : Int32) M)
def BX5_line_105 : Nat → Int32 → Int32 → Int32 → Int32 → oa_M → Option (Int32 × oa_M)
  | 0, _, _, _, _, _ => none
  | n + 1, x1, x2, x3, x4, M => (if (M 20 0 17) ≤ x4 then (if (M 20 0 3) = 0 then (if (M 20 0 17) = (20 : Int32) then (BX5_line_182 n x1 x2 x3 x4 (2 : Int32) (oa_up M 20 0 0 (0 : Int32))) else (BX5_line_182 n x1 x2 x3 x4 (0 : Int32) (oa_up M 20 0 0 (0 : Int32)))) else (BX5_line_182 n x1 x2 x3 x4 (1 : Int32) (oa_up M 20 0 0 (0 : Int32)))) else (if (M 20 0 3) = 0 then (if x1 < 0 then (BX5_line_141 (BX5_line_105 n) n x1 x2 x3 x4 M) else (if oa_in x4 20 = true then (if (M 38 0 x4.toNatClampNeg) = x1 then (BX5_line_137 (BX5_line_105 n) n x1 x2 x3 x4 M) else (BX5_line_141 (BX5_line_105 n) n x1 x2 x3 x4 M)) else none)) else (BX5_line_137 (BX5_line_105 n) n x1 x2 x3 x4 M)))
def BX5_line_99 (n : Nat) (x1 : Int32) (x2 : Int32) (x3 : Int32) (z1 : Int32) (M : oa_M) : Option (Int32 × oa_M) := (if oa_isb z1 = true then (BX5_line_105 n x1 x2 x3 (0 : Int32) (oa_up M 20 0 3 z1)) else none)
def BX5_line_94 (n : Nat) (x1 : Int32) (x2 : Int32) (x3 : Int32) (M : oa_M) : Option (Int32 × oa_M) := (BX5_line_99 n x1 x2 x3 (1 : Int32) M)
def BX5_line_75 (n : Nat) (x1 : Int32) (x2 : Int32) (x3 : Int32) (M : oa_M) : Option (Int32 × oa_M) := (if (M 20 0 3) = 0 then (if (M 20 0 0) ≤ (M 20 0 2) then (BX5_line_99 n x1 x2 x3 (0 : Int32) M) else (BX5_line_94 n x1 x2 x3 M)) else (BX5_line_94 n x1 x2 x3 M))
def BX5_line_65 (n : Nat) (x1 : Int32) (x2 : Int32) (x3 : Int32) (M : oa_M) : Option (Int32 × oa_M) := (oa_bd (FX5_readName n  M) (fun r1 M2 => (oa_bd (FX5_readOperands n  M2) (fun r4 M5 => (BX5_line_75 n x1 r1 r4 M5)))))
def BX5_line_46 (n : Nat) (x1 : Int32) (M : oa_M) : Option (Int32 × oa_M) := (if x1 < 0 then (BX5_line_65 n x1 (0 : Int32) (0 : Int32) M) else (if (M 20 0 0) ≤ (M 20 0 2) then (BX5_line_75 n x1 (0 : Int32) (0 : Int32) M) else (BX5_line_65 n x1 (0 : Int32) (0 : Int32) M)))
def FX5_line (n : Nat)  (M : oa_M) : Option (Int32 × oa_M) := (oa_bd (FX5_here n  (oa_up (oa_up M 20 0 2 (0 : Int32)) 20 0 3 (0 : Int32))) (fun r1 M2 => (oa_bd (FX5_isLabelLetter n r1 M2) (fun r4 M5 => (if r4 = 0 then (BX5_line_46 n (-1 : Int32) M5) else (oa_bd (FX5_here n  M5) (fun r8 M9 => (oa_bv (FX5_must n (58 : Int32) (oa_up M9 20 0 2 ((M9 20 0 2) + (1 : Int32)))) (fun M12 => (BX5_line_46 n (r8 - (65 : Int32)) M12))))))))))
set_option maxHeartbeats 4000000 in
set_option maxRecDepth 100000 in
theorem bX5_line_227 {p : Program} {l : Launch} {e : Env} {s : State} {m : MethodId} {args : Array Value} {below : List Frame} {meth : Method} {c : Code} {D : va_G} {ca : Nat → ClassId} {ad : Nat → Nat → Nat} {b0 : Nat} {o : Int32 × oa_M} (C : oa_Cx p s m args meth c cX5_line 5 (some .int) RX5 D ca b0 ad) : ∀ (n : Nat), ∀ (x1 : Int32) (x2 : Int32) (x3 : Int32) (x4 : Int32) (M : oa_M), BX5_line_227 n x1 x2 x3 x4 M = some o → ∀ (H : Heap) (locs : List Loc), oa_H D ca ad M H → va_S (fun q => b0 ≤ q) s.heap H locs → ∀ (ls : Array Slot), lv_has ls 5 [(0, .ref (ad 20 0)), (1, .int x1), (2, .int x2), (3, .int x3), (4, .int x4)] → W p l e ({ frames := 3, cells := 0, slots := 0, locals := 66 } : Room) s m args below meth c H locs 0 0 (MQ below (va_Qi (fun (r' : Int32) (u : oa_M) => r' = o.1 ∧ u = o.2) (fun u t => oa_H D ca ad u t.heap) (fun q => b0 ≤ q)) args s 0 0 (fun q => b0 ≤ q)) (F0 m 227 ls []) := by
  obtain ⟨hx, hb, hml, hr, hlocks, hown, hts, hE, hw⟩ := id C
  intro n
  induction n with
  | zero => intro x1 x2 x3 x4 M hf; cases hf
  | succ n ih =>
    intro x1 x2 x3 x4 M hf H locs hH hS ls hl
    have hrec227 := ih
    unfold BX5_line_227 at hf
    refine lv_iload hx hb dX5_line_227 (lv_at hl 4 rfl) ?_
    refine lv_iconst (v := (3 : Int32)) hx hb dX5_line_229 (by decide) ?_
    refine lv_icmp_ge (tgt := 281) hx hb dX5_line_230 (by decide) (fun hq1 => ?_) (fun hq1 => ?_)
    · rw [if_pos hq1] at hf
      refine lv_aload_n hx hb dX5_line_281 rfl (lv_at hl 0 rfl) ?_
      refine lv_dup hx hb dX5_line_282 rfl ?_
      refine oa_get (ci := 5) (C := RX5) (T := TX5) (N := 31) (v := .int (M 20 0 17)) hx hb hts inX5 hown hE hH 20 0 (by decide) rfl rfl 17 (by decide) (hts _ tw_632) rfl dX5_line_283 ?_
      refine lv_iconst (v := (1 : Int32)) hx hb dX5_line_286 (by decide) ?_
      refine lv_iadd hx hb dX5_line_287 ?_
      refine oa_put (ci := 5) (C := RX5) (T := TX5) (N := 31) (v := .int ((M 20 0 17) + (1 : Int32))) (x := ((M 20 0 17) + (1 : Int32))) hx hb hts inX5 tyX5 tyX5_ok nmX5 hown hE hw hH hS 20 0 (by decide) rfl rfl 17 (by decide) (hts _ tw_632) rfl rfl rfl (Nat.le_of_ble_eq_true rfl) rfl dX5_line_288 (fun H locs hH hS => ?_)
      refine lv_aload_n hx hb dX5_line_291 rfl (lv_at hl 0 rfl) ?_
      refine oa_get (ci := 5) (C := RX5) (T := TX5) (N := 31) (v := .int ((M 20 0 17) + (1 : Int32))) hx hb hts inX5 hown hE hH 20 0 (by decide) rfl rfl 17 (by decide) (hts _ tw_632) rfl dX5_line_292 ?_
      cases hf
      exact oa_reti hx hb hr hlocks rfl hS hH dX5_line_295
    · rw [if_neg hq1] at hf
      refine lv_aload_n hx hb dX5_line_233 rfl (lv_at hl 0 rfl) ?_
      refine oa_get (ci := 5) (C := RX5) (T := TX5) (N := 31) (v := .ref (ad 41 0)) hx hb hts inX5 hown hE hH 20 0 (by decide) rfl rfl 21 (by decide) (hts _ tw_636) rfl dX5_line_234 ?_
      refine lv_iconst (v := (3 : Int32)) hx hb dX5_line_237 (by decide) ?_
      refine lv_aload_n hx hb dX5_line_238 rfl (lv_at hl 0 rfl) ?_
      refine oa_get (ci := 5) (C := RX5) (T := TX5) (N := 31) (v := .int (M 20 0 17)) hx hb hts inX5 hown hE hH 20 0 (by decide) rfl rfl 17 (by decide) (hts _ tw_632) rfl dX5_line_239 ?_
      refine lv_imul hx hb dX5_line_242 ?_
      refine lv_iload hx hb dX5_line_243 (lv_at hl 4 rfl) ?_
      refine lv_iadd hx hb dX5_line_245 ?_
      refine lv_aload_n hx hb dX5_line_246 rfl (lv_at hl 0 rfl) ?_
      refine oa_get (ci := 5) (C := RX5) (T := TX5) (N := 31) (v := .ref (ad 43 0)) hx hb hts inX5 hown hE hH 20 0 (by decide) rfl rfl 23 (by decide) (hts _ tw_638) rfl dX5_line_247 ?_
      refine lv_iload hx hb dX5_line_250 (lv_at hl 4 rfl) ?_
      obtain ⟨hk2, hf⟩ := oa_ck hf
      refine oa_ild (v := (M 43 0 x4.toNatClampNeg)) hx hb hE hH 43 0 (by decide) 3 rfl rfl (oa_in_vp hk2) dX5_line_252 ?_
      obtain ⟨hk3, hf⟩ := oa_ck hf
      refine oa_ist hx hb hE hw hH hS 41 0 (by decide) 60 (fun _ => rfl) (oa_in_vp hk3) dX5_line_253 (fun H locs hH hS => ?_)
      refine lv_aload_n hx hb dX5_line_254 rfl (lv_at hl 0 rfl) ?_
      refine oa_get (ci := 5) (C := RX5) (T := TX5) (N := 31) (v := .ref (ad 42 0)) hx hb hts inX5 hown hE hH 20 0 (by decide) rfl rfl 22 (by decide) (hts _ tw_637) rfl dX5_line_255 ?_
      refine lv_iconst (v := (3 : Int32)) hx hb dX5_line_258 (by decide) ?_
      refine lv_aload_n hx hb dX5_line_259 rfl (lv_at hl 0 rfl) ?_
      refine oa_get (ci := 5) (C := RX5) (T := TX5) (N := 31) (v := .int (M 20 0 17)) hx hb hts inX5 hown hE hH 20 0 (by decide) rfl rfl 17 (by decide) (hts _ tw_632) rfl dX5_line_260 ?_
      refine lv_imul hx hb dX5_line_263 ?_
      refine lv_iload hx hb dX5_line_264 (lv_at hl 4 rfl) ?_
      refine lv_iadd hx hb dX5_line_266 ?_
      refine lv_aload_n hx hb dX5_line_267 rfl (lv_at hl 0 rfl) ?_
      refine oa_get (ci := 5) (C := RX5) (T := TX5) (N := 31) (v := .ref (ad 44 0)) hx hb hts inX5 hown hE hH 20 0 (by decide) rfl rfl 24 (by decide) (hts _ tw_639) rfl dX5_line_268 ?_
      refine lv_iload hx hb dX5_line_271 (lv_at hl 4 rfl) ?_
      obtain ⟨hk4, hf⟩ := oa_ck hf
      refine oa_zld (v := (M 44 0 x4.toNatClampNeg)) hx hb hE hH 44 0 (by decide) 3 rfl rfl (oa_in_vp hk4) dX5_line_273 ?_
      obtain ⟨hk5, hf⟩ := oa_ck hf
      refine oa_zst hx hb hE hw hH hS 42 0 (by decide) 60 (fun _ => rfl) (oa_in_vp hk5) dX5_line_274 (fun H locs hH hS => ?_)
      refine lv_iinc (v := (x4 + (1 : Int32))) (lv' := [(4, .int (x4 + (1 : Int32))), (0, .ref (ad 20 0)), (1, .int x1), (2, .int x2), (3, .int x3)]) hx hb dX5_line_275 hl (k := 4) rfl rfl (by decide) rfl (fun ls hl => ?_)
      refine lv_goto (tgt := 227) hx hb dX5_line_278 (by decide) ?_
      exact hrec227 x1 x2 x3 (x4 + (1 : Int32)) _ hf _ _ hH hS _ (lv_sub hl [1, 2, 3, 4, 0] rfl)
set_option maxHeartbeats 4000000 in
set_option maxRecDepth 100000 in
theorem bX5_line_182 {p : Program} {l : Launch} {e : Env} {s : State} {m : MethodId} {args : Array Value} {below : List Frame} {meth : Method} {c : Code} {D : va_G} {ca : Nat → ClassId} {ad : Nat → Nat → Nat} {b0 : Nat} {o : Int32 × oa_M} (C : oa_Cx p s m args meth c cX5_line 5 (some .int) RX5 D ca b0 ad) : ∀ (n : Nat), ∀ (x1 : Int32) (x2 : Int32) (x3 : Int32) (x4 : Int32) (z1 : Int32) (M : oa_M), BX5_line_182 n x1 x2 x3 x4 z1 M = some o → ∀ (H : Heap) (locs : List Loc), oa_H D ca ad M H → va_S (fun q => b0 ≤ q) s.heap H locs → ∀ (ls : Array Slot), lv_has ls 5 [(0, .ref (ad 20 0)), (1, .int x1), (2, .int x2), (3, .int x3), (4, .int x4)] → W p l e ({ frames := 3, cells := 0, slots := 0, locals := 66 } : Room) s m args below meth c H locs 0 0 (MQ below (va_Qi (fun (r' : Int32) (u : oa_M) => r' = o.1 ∧ u = o.2) (fun u t => oa_H D ca ad u t.heap) (fun q => b0 ≤ q)) args s 0 0 (fun q => b0 ≤ q)) (F0 m 182 ls [.int z1, .ref (ad 20 0)]) := by
  obtain ⟨hx, hb, hml, hr, hlocks, hown, hts, hE, hw⟩ := id C
  intro n x1 x2 x3 x4 z1 M hf H locs hH hS ls hl
  unfold BX5_line_182 at hf
  refine oa_put (ci := 5) (C := RX5) (T := TX5) (N := 31) (v := .int z1) (x := z1) hx hb hts inX5 tyX5 tyX5_ok nmX5 hown hE hw hH hS 20 0 (by decide) rfl rfl 30 (by decide) (hts _ tw_645) rfl rfl rfl (Nat.le_of_ble_eq_true rfl) rfl dX5_line_182 (fun H locs hH hS => ?_)
  refine lv_aload_n hx hb dX5_line_185 rfl (lv_at hl 0 rfl) ?_
  refine oa_get (ci := 5) (C := RX5) (T := TX5) (N := 31) (v := .int z1) hx hb hts inX5 hown hE hH 20 0 (by decide) rfl rfl 30 (by decide) (hts _ tw_645) rfl dX5_line_186 ?_
  refine lv_if_eq (tgt := 194) hx hb dX5_line_189 (by decide) (fun hq1 => ?_) (fun hq1 => ?_)
  · rw [if_pos hq1] at hf
    refine lv_aload_n hx hb dX5_line_194 rfl (lv_at hl 0 rfl) ?_
    refine oa_get (ci := 5) (C := RX5) (T := TX5) (N := 31) (v := .ref (ad 38 0)) hx hb hts inX5 hown hE hH 20 0 (by decide) rfl rfl 18 (by decide) (hts _ tw_633) rfl dX5_line_195 ?_
    refine lv_aload_n hx hb dX5_line_198 rfl (lv_at hl 0 rfl) ?_
    refine oa_get (ci := 5) (C := RX5) (T := TX5) (N := 31) (v := .int (M 20 0 17)) hx hb hts inX5 hown hE hH 20 0 (by decide) rfl rfl 17 (by decide) (hts _ tw_632) rfl dX5_line_199 ?_
    refine lv_iload_n hx hb dX5_line_202 rfl (lv_at hl 1 rfl) ?_
    obtain ⟨hk2, hf⟩ := oa_ck hf
    refine oa_ist hx hb hE hw hH hS 38 0 (by decide) 20 (fun _ => rfl) (oa_in_vp hk2) dX5_line_203 (fun H locs hH hS => ?_)
    refine lv_aload_n hx hb dX5_line_204 rfl (lv_at hl 0 rfl) ?_
    refine oa_get (ci := 5) (C := RX5) (T := TX5) (N := 31) (v := .ref (ad 39 0)) hx hb hts inX5 hown hE hH 20 0 (by decide) rfl rfl 19 (by decide) (hts _ tw_634) rfl dX5_line_205 ?_
    refine lv_aload_n hx hb dX5_line_208 rfl (lv_at hl 0 rfl) ?_
    refine oa_get (ci := 5) (C := RX5) (T := TX5) (N := 31) (v := .int (M 20 0 17)) hx hb hts inX5 hown hE hH 20 0 (by decide) rfl rfl 17 (by decide) (hts _ tw_632) rfl dX5_line_209 ?_
    refine lv_iload_n hx hb dX5_line_212 rfl (lv_at hl 2 rfl) ?_
    obtain ⟨hk3, hf⟩ := oa_ck hf
    refine oa_ist hx hb hE hw hH hS 39 0 (by decide) 20 (fun _ => rfl) (oa_in_vp hk3) dX5_line_213 (fun H locs hH hS => ?_)
    refine lv_aload_n hx hb dX5_line_214 rfl (lv_at hl 0 rfl) ?_
    refine oa_get (ci := 5) (C := RX5) (T := TX5) (N := 31) (v := .ref (ad 40 0)) hx hb hts inX5 hown hE hH 20 0 (by decide) rfl rfl 20 (by decide) (hts _ tw_635) rfl dX5_line_215 ?_
    refine lv_aload_n hx hb dX5_line_218 rfl (lv_at hl 0 rfl) ?_
    refine oa_get (ci := 5) (C := RX5) (T := TX5) (N := 31) (v := .int (M 20 0 17)) hx hb hts inX5 hown hE hH 20 0 (by decide) rfl rfl 17 (by decide) (hts _ tw_632) rfl dX5_line_219 ?_
    refine lv_iload_n hx hb dX5_line_222 rfl (lv_at hl 3 rfl) ?_
    obtain ⟨hk4, hf⟩ := oa_ck hf
    refine oa_ist hx hb hE hw hH hS 40 0 (by decide) 20 (fun _ => rfl) (oa_in_vp hk4) dX5_line_223 (fun H locs hH hS => ?_)
    refine lv_iconst (v := (0 : Int32)) hx hb dX5_line_224 (by decide) ?_
    refine lv_istore (lv' := [(4, .int (0 : Int32)), (0, .ref (ad 20 0)), (1, .int x1), (2, .int x2), (3, .int x3)]) hx hb dX5_line_225 hl (by decide) rfl (fun ls hl => ?_)
    exact bX5_line_227 C n x1 x2 x3 (0 : Int32) _ hf _ _ hH hS _ (lv_sub hl [1, 2, 3, 4, 0] rfl)
  · rw [if_neg hq1] at hf
    refine lv_iconst (v := (0 : Int32)) hx hb dX5_line_192 (by decide) ?_
    cases hf
    exact oa_reti hx hb hr hlocks rfl hS hH dX5_line_193
set_option maxHeartbeats 4000000 in
set_option maxRecDepth 100000 in
theorem bX5_line_142 {p : Program} {l : Launch} {e : Env} {s : State} {m : MethodId} {args : Array Value} {below : List Frame} {meth : Method} {c : Code} {D : va_G} {ca : Nat → ClassId} {ad : Nat → Nat → Nat} {b0 : Nat} {o : Int32 × oa_M} (C : oa_Cx p s m args meth c cX5_line 5 (some .int) RX5 D ca b0 ad) (rec105 : Int32 → Int32 → Int32 → Int32 → oa_M → Option (Int32 × oa_M)) (hrec105 : ∀ (x1 : Int32) (x2 : Int32) (x3 : Int32) (x4 : Int32) (M : oa_M), rec105 x1 x2 x3 x4 M = some o → ∀ (H : Heap) (locs : List Loc), oa_H D ca ad M H → va_S (fun q => b0 ≤ q) s.heap H locs → ∀ (ls : Array Slot), lv_has ls 5 [(0, .ref (ad 20 0)), (1, .int x1), (2, .int x2), (3, .int x3), (4, .int x4)] → W p l e ({ frames := 3, cells := 0, slots := 0, locals := 66 } : Room) s m args below meth c H locs 0 0 (MQ below (va_Qi (fun (r' : Int32) (u : oa_M) => r' = o.1 ∧ u = o.2) (fun u t => oa_H D ca ad u t.heap) (fun q => b0 ≤ q)) args s 0 0 (fun q => b0 ≤ q)) (F0 m 105 ls [])) : ∀ (n : Nat), ∀ (x1 : Int32) (x2 : Int32) (x3 : Int32) (x4 : Int32) (z1 : Int32) (M : oa_M), BX5_line_142 rec105 n x1 x2 x3 x4 z1 M = some o → ∀ (H : Heap) (locs : List Loc), oa_H D ca ad M H → va_S (fun q => b0 ≤ q) s.heap H locs → ∀ (ls : Array Slot), lv_has ls 5 [(0, .ref (ad 20 0)), (1, .int x1), (2, .int x2), (3, .int x3), (4, .int x4)] → W p l e ({ frames := 3, cells := 0, slots := 0, locals := 66 } : Room) s m args below meth c H locs 0 0 (MQ below (va_Qi (fun (r' : Int32) (u : oa_M) => r' = o.1 ∧ u = o.2) (fun u t => oa_H D ca ad u t.heap) (fun q => b0 ≤ q)) args s 0 0 (fun q => b0 ≤ q)) (F0 m 142 ls [.int z1, .ref (ad 20 0)]) := by
  obtain ⟨hx, hb, hml, hr, hlocks, hown, hts, hE, hw⟩ := id C
  intro n x1 x2 x3 x4 z1 M hf H locs hH hS ls hl
  unfold BX5_line_142 at hf
  obtain ⟨hk1, hf⟩ := oa_ck hf
  refine oa_put (ci := 5) (C := RX5) (T := TX5) (N := 31) (v := .int z1) (x := z1) hx hb hts inX5 tyX5 tyX5_ok nmX5 hown hE hw hH hS 20 0 (by decide) rfl rfl 3 (by decide) (hts _ tw_618) rfl (oa_nb hk1) (oa_fb hk1) (Nat.le_of_ble_eq_true rfl) rfl dX5_line_142 (fun H locs hH hS => ?_)
  refine lv_iinc (v := (x4 + (1 : Int32))) (lv' := [(4, .int (x4 + (1 : Int32))), (0, .ref (ad 20 0)), (1, .int x1), (2, .int x2), (3, .int x3)]) hx hb dX5_line_145 hl (k := 4) rfl rfl (by decide) rfl (fun ls hl => ?_)
  refine lv_goto (tgt := 105) hx hb dX5_line_148 (by decide) ?_
  exact hrec105 x1 x2 x3 (x4 + (1 : Int32)) _ hf _ _ hH hS _ (lv_sub hl [1, 2, 3, 4, 0] rfl)
set_option maxHeartbeats 4000000 in
set_option maxRecDepth 100000 in
theorem bX5_line_141 {p : Program} {l : Launch} {e : Env} {s : State} {m : MethodId} {args : Array Value} {below : List Frame} {meth : Method} {c : Code} {D : va_G} {ca : Nat → ClassId} {ad : Nat → Nat → Nat} {b0 : Nat} {o : Int32 × oa_M} (C : oa_Cx p s m args meth c cX5_line 5 (some .int) RX5 D ca b0 ad) (rec105 : Int32 → Int32 → Int32 → Int32 → oa_M → Option (Int32 × oa_M)) (hrec105 : ∀ (x1 : Int32) (x2 : Int32) (x3 : Int32) (x4 : Int32) (M : oa_M), rec105 x1 x2 x3 x4 M = some o → ∀ (H : Heap) (locs : List Loc), oa_H D ca ad M H → va_S (fun q => b0 ≤ q) s.heap H locs → ∀ (ls : Array Slot), lv_has ls 5 [(0, .ref (ad 20 0)), (1, .int x1), (2, .int x2), (3, .int x3), (4, .int x4)] → W p l e ({ frames := 3, cells := 0, slots := 0, locals := 66 } : Room) s m args below meth c H locs 0 0 (MQ below (va_Qi (fun (r' : Int32) (u : oa_M) => r' = o.1 ∧ u = o.2) (fun u t => oa_H D ca ad u t.heap) (fun q => b0 ≤ q)) args s 0 0 (fun q => b0 ≤ q)) (F0 m 105 ls [])) : ∀ (n : Nat), ∀ (x1 : Int32) (x2 : Int32) (x3 : Int32) (x4 : Int32) (M : oa_M), BX5_line_141 rec105 n x1 x2 x3 x4 M = some o → ∀ (H : Heap) (locs : List Loc), oa_H D ca ad M H → va_S (fun q => b0 ≤ q) s.heap H locs → ∀ (ls : Array Slot), lv_has ls 5 [(0, .ref (ad 20 0)), (1, .int x1), (2, .int x2), (3, .int x3), (4, .int x4)] → W p l e ({ frames := 3, cells := 0, slots := 0, locals := 66 } : Room) s m args below meth c H locs 0 0 (MQ below (va_Qi (fun (r' : Int32) (u : oa_M) => r' = o.1 ∧ u = o.2) (fun u t => oa_H D ca ad u t.heap) (fun q => b0 ≤ q)) args s 0 0 (fun q => b0 ≤ q)) (F0 m 141 ls [.ref (ad 20 0)]) := by
  obtain ⟨hx, hb, hml, hr, hlocks, hown, hts, hE, hw⟩ := id C
  intro n x1 x2 x3 x4 M hf H locs hH hS ls hl
  unfold BX5_line_141 at hf
  refine lv_iconst (v := (0 : Int32)) hx hb dX5_line_141 (by decide) ?_
  exact bX5_line_142 C _ hrec105 n x1 x2 x3 x4 (0 : Int32) _ hf _ _ hH hS _ (lv_sub hl [0, 1, 2, 3, 4] rfl)
set_option maxHeartbeats 4000000 in
set_option maxRecDepth 100000 in
theorem bX5_line_137 {p : Program} {l : Launch} {e : Env} {s : State} {m : MethodId} {args : Array Value} {below : List Frame} {meth : Method} {c : Code} {D : va_G} {ca : Nat → ClassId} {ad : Nat → Nat → Nat} {b0 : Nat} {o : Int32 × oa_M} (C : oa_Cx p s m args meth c cX5_line 5 (some .int) RX5 D ca b0 ad) (rec105 : Int32 → Int32 → Int32 → Int32 → oa_M → Option (Int32 × oa_M)) (hrec105 : ∀ (x1 : Int32) (x2 : Int32) (x3 : Int32) (x4 : Int32) (M : oa_M), rec105 x1 x2 x3 x4 M = some o → ∀ (H : Heap) (locs : List Loc), oa_H D ca ad M H → va_S (fun q => b0 ≤ q) s.heap H locs → ∀ (ls : Array Slot), lv_has ls 5 [(0, .ref (ad 20 0)), (1, .int x1), (2, .int x2), (3, .int x3), (4, .int x4)] → W p l e ({ frames := 3, cells := 0, slots := 0, locals := 66 } : Room) s m args below meth c H locs 0 0 (MQ below (va_Qi (fun (r' : Int32) (u : oa_M) => r' = o.1 ∧ u = o.2) (fun u t => oa_H D ca ad u t.heap) (fun q => b0 ≤ q)) args s 0 0 (fun q => b0 ≤ q)) (F0 m 105 ls [])) : ∀ (n : Nat), ∀ (x1 : Int32) (x2 : Int32) (x3 : Int32) (x4 : Int32) (M : oa_M), BX5_line_137 rec105 n x1 x2 x3 x4 M = some o → ∀ (H : Heap) (locs : List Loc), oa_H D ca ad M H → va_S (fun q => b0 ≤ q) s.heap H locs → ∀ (ls : Array Slot), lv_has ls 5 [(0, .ref (ad 20 0)), (1, .int x1), (2, .int x2), (3, .int x3), (4, .int x4)] → W p l e ({ frames := 3, cells := 0, slots := 0, locals := 66 } : Room) s m args below meth c H locs 0 0 (MQ below (va_Qi (fun (r' : Int32) (u : oa_M) => r' = o.1 ∧ u = o.2) (fun u t => oa_H D ca ad u t.heap) (fun q => b0 ≤ q)) args s 0 0 (fun q => b0 ≤ q)) (F0 m 137 ls [.ref (ad 20 0)]) := by
  obtain ⟨hx, hb, hml, hr, hlocks, hown, hts, hE, hw⟩ := id C
  intro n x1 x2 x3 x4 M hf H locs hH hS ls hl
  unfold BX5_line_137 at hf
  refine lv_iconst (v := (1 : Int32)) hx hb dX5_line_137 (by decide) ?_
  refine lv_goto (tgt := 142) hx hb dX5_line_138 (by decide) ?_
  exact bX5_line_142 C _ hrec105 n x1 x2 x3 x4 (1 : Int32) _ hf _ _ hH hS _ (lv_sub hl [0, 1, 2, 3, 4] rfl)
set_option maxHeartbeats 4000000 in
set_option maxRecDepth 100000 in
theorem bX5_line_105 {p : Program} {l : Launch} {e : Env} {s : State} {m : MethodId} {args : Array Value} {below : List Frame} {meth : Method} {c : Code} {D : va_G} {ca : Nat → ClassId} {ad : Nat → Nat → Nat} {b0 : Nat} {o : Int32 × oa_M} (C : oa_Cx p s m args meth c cX5_line 5 (some .int) RX5 D ca b0 ad) : ∀ (n : Nat), ∀ (x1 : Int32) (x2 : Int32) (x3 : Int32) (x4 : Int32) (M : oa_M), BX5_line_105 n x1 x2 x3 x4 M = some o → ∀ (H : Heap) (locs : List Loc), oa_H D ca ad M H → va_S (fun q => b0 ≤ q) s.heap H locs → ∀ (ls : Array Slot), lv_has ls 5 [(0, .ref (ad 20 0)), (1, .int x1), (2, .int x2), (3, .int x3), (4, .int x4)] → W p l e ({ frames := 3, cells := 0, slots := 0, locals := 66 } : Room) s m args below meth c H locs 0 0 (MQ below (va_Qi (fun (r' : Int32) (u : oa_M) => r' = o.1 ∧ u = o.2) (fun u t => oa_H D ca ad u t.heap) (fun q => b0 ≤ q)) args s 0 0 (fun q => b0 ≤ q)) (F0 m 105 ls []) := by
  obtain ⟨hx, hb, hml, hr, hlocks, hown, hts, hE, hw⟩ := id C
  intro n
  induction n with
  | zero => intro x1 x2 x3 x4 M hf; cases hf
  | succ n ih =>
    intro x1 x2 x3 x4 M hf H locs hH hS ls hl
    have hrec105 := ih
    unfold BX5_line_105 at hf
    refine lv_iload hx hb dX5_line_105 (lv_at hl 4 rfl) ?_
    refine lv_aload_n hx hb dX5_line_107 rfl (lv_at hl 0 rfl) ?_
    refine oa_get (ci := 5) (C := RX5) (T := TX5) (N := 31) (v := .int (M 20 0 17)) hx hb hts inX5 hown hE hH 20 0 (by decide) rfl rfl 17 (by decide) (hts _ tw_632) rfl dX5_line_108 ?_
    refine lv_icmp_ge (tgt := 151) hx hb dX5_line_111 (by decide) (fun hq1 => ?_) (fun hq1 => ?_)
    · rw [if_pos hq1] at hf
      refine lv_aload_n hx hb dX5_line_151 rfl (lv_at hl 0 rfl) ?_
      refine lv_iconst (v := (0 : Int32)) hx hb dX5_line_152 (by decide) ?_
      refine oa_put (ci := 5) (C := RX5) (T := TX5) (N := 31) (v := .int (0 : Int32)) (x := (0 : Int32)) hx hb hts inX5 tyX5 tyX5_ok nmX5 hown hE hw hH hS 20 0 (by decide) rfl rfl 0 (by decide) (hts _ tw_615) rfl rfl rfl (Nat.le_of_ble_eq_true rfl) rfl dX5_line_153 (fun H locs hH hS => ?_)
      refine lv_aload_n hx hb dX5_line_156 rfl (lv_at hl 0 rfl) ?_
      refine lv_aload_n hx hb dX5_line_157 rfl (lv_at hl 0 rfl) ?_
      refine oa_get (ci := 5) (C := RX5) (T := TX5) (N := 31) (v := .int (M 20 0 3)) hx hb hts inX5 hown hE hH 20 0 (by decide) rfl rfl 3 (by decide) (hts _ tw_618) rfl dX5_line_158 ?_
      refine lv_if_eq (tgt := 168) hx hb dX5_line_161 (by decide) (fun hq2 => ?_) (fun hq2 => ?_)
      · rw [if_pos hq2] at hf
        refine lv_aload_n hx hb dX5_line_168 rfl (lv_at hl 0 rfl) ?_
        refine oa_get (ci := 5) (C := RX5) (T := TX5) (N := 31) (v := .int (M 20 0 17)) hx hb hts inX5 hown hE hH 20 0 (by decide) rfl rfl 17 (by decide) (hts _ tw_632) rfl dX5_line_169 ?_
        refine lv_bipush (v := (20 : Int32)) hx hb dX5_line_172 (by decide) ?_
        refine lv_icmp_ne (tgt := 181) hx hb dX5_line_174 (by decide) (fun hq3 => ?_) (fun hq3 => ?_)
        · rw [if_neg hq3] at hf
          refine lv_iconst (v := (0 : Int32)) hx hb dX5_line_181 (by decide) ?_
          exact bX5_line_182 C n x1 x2 x3 x4 (0 : Int32) _ hf _ _ hH hS _ (lv_sub hl [0, 1, 2, 3, 4] rfl)
        · rw [if_pos hq3] at hf
          refine lv_iconst (v := (2 : Int32)) hx hb dX5_line_177 (by decide) ?_
          refine lv_goto (tgt := 182) hx hb dX5_line_178 (by decide) ?_
          exact bX5_line_182 C n x1 x2 x3 x4 (2 : Int32) _ hf _ _ hH hS _ (lv_sub hl [0, 1, 2, 3, 4] rfl)
      · rw [if_neg hq2] at hf
        refine lv_iconst (v := (1 : Int32)) hx hb dX5_line_164 (by decide) ?_
        refine lv_goto (tgt := 182) hx hb dX5_line_165 (by decide) ?_
        exact bX5_line_182 C n x1 x2 x3 x4 (1 : Int32) _ hf _ _ hH hS _ (lv_sub hl [0, 1, 2, 3, 4] rfl)
    · rw [if_neg hq1] at hf
      refine lv_aload_n hx hb dX5_line_114 rfl (lv_at hl 0 rfl) ?_
      refine lv_aload_n hx hb dX5_line_115 rfl (lv_at hl 0 rfl) ?_
      refine oa_get (ci := 5) (C := RX5) (T := TX5) (N := 31) (v := .int (M 20 0 3)) hx hb hts inX5 hown hE hH 20 0 (by decide) rfl rfl 3 (by decide) (hts _ tw_618) rfl dX5_line_116 ?_
      refine lv_if_ne (tgt := 137) hx hb dX5_line_119 (by decide) (fun hq4 => ?_) (fun hq4 => ?_)
      · rw [if_neg hq4] at hf
        exact bX5_line_137 C _ hrec105 n x1 x2 x3 x4 _ hf _ _ hH hS _ (lv_sub hl [0, 1, 2, 3, 4] rfl)
      · rw [if_pos hq4] at hf
        refine lv_iload_n hx hb dX5_line_122 rfl (lv_at hl 1 rfl) ?_
        refine lv_if_lt (tgt := 141) hx hb dX5_line_123 (by decide) (fun hq5 => ?_) (fun hq5 => ?_)
        · rw [if_pos hq5] at hf
          exact bX5_line_141 C _ hrec105 n x1 x2 x3 x4 _ hf _ _ hH hS _ (lv_sub hl [0, 1, 2, 3, 4] rfl)
        · rw [if_neg hq5] at hf
          refine lv_aload_n hx hb dX5_line_126 rfl (lv_at hl 0 rfl) ?_
          refine oa_get (ci := 5) (C := RX5) (T := TX5) (N := 31) (v := .ref (ad 38 0)) hx hb hts inX5 hown hE hH 20 0 (by decide) rfl rfl 18 (by decide) (hts _ tw_633) rfl dX5_line_127 ?_
          refine lv_iload hx hb dX5_line_130 (lv_at hl 4 rfl) ?_
          obtain ⟨hk6, hf⟩ := oa_ck hf
          refine oa_ild (v := (M 38 0 x4.toNatClampNeg)) hx hb hE hH 38 0 (by decide) 20 rfl rfl (oa_in_vp hk6) dX5_line_132 ?_
          refine lv_iload_n hx hb dX5_line_133 rfl (lv_at hl 1 rfl) ?_
          refine lv_icmp_ne (tgt := 141) hx hb dX5_line_134 (by decide) (fun hq7 => ?_) (fun hq7 => ?_)
          · rw [if_neg hq7] at hf
            exact bX5_line_141 C _ hrec105 n x1 x2 x3 x4 _ hf _ _ hH hS _ (lv_sub hl [0, 1, 2, 3, 4] rfl)
          · rw [if_pos hq7] at hf
            exact bX5_line_137 C _ hrec105 n x1 x2 x3 x4 _ hf _ _ hH hS _ (lv_sub hl [0, 1, 2, 3, 4] rfl)
set_option maxHeartbeats 4000000 in
set_option maxRecDepth 100000 in
theorem bX5_line_99 {p : Program} {l : Launch} {e : Env} {s : State} {m : MethodId} {args : Array Value} {below : List Frame} {meth : Method} {c : Code} {D : va_G} {ca : Nat → ClassId} {ad : Nat → Nat → Nat} {b0 : Nat} {o : Int32 × oa_M} (C : oa_Cx p s m args meth c cX5_line 5 (some .int) RX5 D ca b0 ad) : ∀ (n : Nat), ∀ (x1 : Int32) (x2 : Int32) (x3 : Int32) (z1 : Int32) (M : oa_M), BX5_line_99 n x1 x2 x3 z1 M = some o → ∀ (H : Heap) (locs : List Loc), oa_H D ca ad M H → va_S (fun q => b0 ≤ q) s.heap H locs → ∀ (ls : Array Slot), lv_has ls 5 [(0, .ref (ad 20 0)), (1, .int x1), (2, .int x2), (3, .int x3)] → W p l e ({ frames := 3, cells := 0, slots := 0, locals := 66 } : Room) s m args below meth c H locs 0 0 (MQ below (va_Qi (fun (r' : Int32) (u : oa_M) => r' = o.1 ∧ u = o.2) (fun u t => oa_H D ca ad u t.heap) (fun q => b0 ≤ q)) args s 0 0 (fun q => b0 ≤ q)) (F0 m 99 ls [.int z1, .ref (ad 20 0)]) := by
  obtain ⟨hx, hb, hml, hr, hlocks, hown, hts, hE, hw⟩ := id C
  intro n x1 x2 x3 z1 M hf H locs hH hS ls hl
  unfold BX5_line_99 at hf
  obtain ⟨hk1, hf⟩ := oa_ck hf
  refine oa_put (ci := 5) (C := RX5) (T := TX5) (N := 31) (v := .int z1) (x := z1) hx hb hts inX5 tyX5 tyX5_ok nmX5 hown hE hw hH hS 20 0 (by decide) rfl rfl 3 (by decide) (hts _ tw_618) rfl (oa_nb hk1) (oa_fb hk1) (Nat.le_of_ble_eq_true rfl) rfl dX5_line_99 (fun H locs hH hS => ?_)
  refine lv_iconst (v := (0 : Int32)) hx hb dX5_line_102 (by decide) ?_
  refine lv_istore (lv' := [(4, .int (0 : Int32)), (0, .ref (ad 20 0)), (1, .int x1), (2, .int x2), (3, .int x3)]) hx hb dX5_line_103 hl (by decide) rfl (fun ls hl => ?_)
  exact bX5_line_105 C n x1 x2 x3 (0 : Int32) _ hf _ _ hH hS _ (lv_sub hl [1, 2, 3, 4, 0] rfl)
set_option maxHeartbeats 4000000 in
set_option maxRecDepth 100000 in
theorem bX5_line_94 {p : Program} {l : Launch} {e : Env} {s : State} {m : MethodId} {args : Array Value} {below : List Frame} {meth : Method} {c : Code} {D : va_G} {ca : Nat → ClassId} {ad : Nat → Nat → Nat} {b0 : Nat} {o : Int32 × oa_M} (C : oa_Cx p s m args meth c cX5_line 5 (some .int) RX5 D ca b0 ad) : ∀ (n : Nat), ∀ (x1 : Int32) (x2 : Int32) (x3 : Int32) (M : oa_M), BX5_line_94 n x1 x2 x3 M = some o → ∀ (H : Heap) (locs : List Loc), oa_H D ca ad M H → va_S (fun q => b0 ≤ q) s.heap H locs → ∀ (ls : Array Slot), lv_has ls 5 [(0, .ref (ad 20 0)), (1, .int x1), (2, .int x2), (3, .int x3)] → W p l e ({ frames := 3, cells := 0, slots := 0, locals := 66 } : Room) s m args below meth c H locs 0 0 (MQ below (va_Qi (fun (r' : Int32) (u : oa_M) => r' = o.1 ∧ u = o.2) (fun u t => oa_H D ca ad u t.heap) (fun q => b0 ≤ q)) args s 0 0 (fun q => b0 ≤ q)) (F0 m 94 ls [.ref (ad 20 0)]) := by
  obtain ⟨hx, hb, hml, hr, hlocks, hown, hts, hE, hw⟩ := id C
  intro n x1 x2 x3 M hf H locs hH hS ls hl
  unfold BX5_line_94 at hf
  refine lv_iconst (v := (1 : Int32)) hx hb dX5_line_94 (by decide) ?_
  refine lv_goto (tgt := 99) hx hb dX5_line_95 (by decide) ?_
  exact bX5_line_99 C n x1 x2 x3 (1 : Int32) _ hf _ _ hH hS _ (lv_sub hl [0, 1, 2, 3] rfl)
set_option maxHeartbeats 4000000 in
set_option maxRecDepth 100000 in
theorem bX5_line_75 {p : Program} {l : Launch} {e : Env} {s : State} {m : MethodId} {args : Array Value} {below : List Frame} {meth : Method} {c : Code} {D : va_G} {ca : Nat → ClassId} {ad : Nat → Nat → Nat} {b0 : Nat} {o : Int32 × oa_M} (C : oa_Cx p s m args meth c cX5_line 5 (some .int) RX5 D ca b0 ad) : ∀ (n : Nat), ∀ (x1 : Int32) (x2 : Int32) (x3 : Int32) (M : oa_M), BX5_line_75 n x1 x2 x3 M = some o → ∀ (H : Heap) (locs : List Loc), oa_H D ca ad M H → va_S (fun q => b0 ≤ q) s.heap H locs → ∀ (ls : Array Slot), lv_has ls 5 [(0, .ref (ad 20 0)), (1, .int x1), (2, .int x2), (3, .int x3)] → W p l e ({ frames := 3, cells := 0, slots := 0, locals := 66 } : Room) s m args below meth c H locs 0 0 (MQ below (va_Qi (fun (r' : Int32) (u : oa_M) => r' = o.1 ∧ u = o.2) (fun u t => oa_H D ca ad u t.heap) (fun q => b0 ≤ q)) args s 0 0 (fun q => b0 ≤ q)) (F0 m 75 ls []) := by
  obtain ⟨hx, hb, hml, hr, hlocks, hown, hts, hE, hw⟩ := id C
  intro n x1 x2 x3 M hf H locs hH hS ls hl
  unfold BX5_line_75 at hf
  refine lv_aload_n hx hb dX5_line_75 rfl (lv_at hl 0 rfl) ?_
  refine lv_aload_n hx hb dX5_line_76 rfl (lv_at hl 0 rfl) ?_
  refine oa_get (ci := 5) (C := RX5) (T := TX5) (N := 31) (v := .int (M 20 0 3)) hx hb hts inX5 hown hE hH 20 0 (by decide) rfl rfl 3 (by decide) (hts _ tw_618) rfl dX5_line_77 ?_
  refine lv_if_ne (tgt := 94) hx hb dX5_line_80 (by decide) (fun hq1 => ?_) (fun hq1 => ?_)
  · rw [if_neg hq1] at hf
    exact bX5_line_94 C n x1 x2 x3 _ hf _ _ hH hS _ (lv_sub hl [0, 1, 2, 3] rfl)
  · rw [if_pos hq1] at hf
    refine lv_aload_n hx hb dX5_line_83 rfl (lv_at hl 0 rfl) ?_
    refine oa_get (ci := 5) (C := RX5) (T := TX5) (N := 31) (v := .int (M 20 0 2)) hx hb hts inX5 hown hE hH 20 0 (by decide) rfl rfl 2 (by decide) (hts _ tw_617) rfl dX5_line_84 ?_
    refine lv_aload_n hx hb dX5_line_87 rfl (lv_at hl 0 rfl) ?_
    refine oa_get (ci := 5) (C := RX5) (T := TX5) (N := 31) (v := .int (M 20 0 0)) hx hb hts inX5 hown hE hH 20 0 (by decide) rfl rfl 0 (by decide) (hts _ tw_615) rfl dX5_line_88 ?_
    refine lv_icmp_ge (tgt := 98) hx hb dX5_line_91 (by decide) (fun hq2 => ?_) (fun hq2 => ?_)
    · rw [if_pos hq2] at hf
      refine lv_iconst (v := (0 : Int32)) hx hb dX5_line_98 (by decide) ?_
      exact bX5_line_99 C n x1 x2 x3 (0 : Int32) _ hf _ _ hH hS _ (lv_sub hl [0, 1, 2, 3] rfl)
    · rw [if_neg hq2] at hf
      exact bX5_line_94 C n x1 x2 x3 _ hf _ _ hH hS _ (lv_sub hl [0, 1, 2, 3] rfl)
set_option maxHeartbeats 4000000 in
set_option maxRecDepth 100000 in
theorem bX5_line_65 {p : Program} {l : Launch} {e : Env} {s : State} {m : MethodId} {args : Array Value} {below : List Frame} {meth : Method} {c : Code} {D : va_G} {ca : Nat → ClassId} {ad : Nat → Nat → Nat} {b0 : Nat} {o : Int32 × oa_M} (C : oa_Cx p s m args meth c cX5_line 5 (some .int) RX5 D ca b0 ad) : ∀ (n : Nat), ∀ (x1 : Int32) (x2 : Int32) (x3 : Int32) (M : oa_M), BX5_line_65 n x1 x2 x3 M = some o → ∀ (H : Heap) (locs : List Loc), oa_H D ca ad M H → va_S (fun q => b0 ≤ q) s.heap H locs → ∀ (ls : Array Slot), lv_has ls 5 [(0, .ref (ad 20 0)), (1, .int x1), (2, .int x2), (3, .int x3)] → W p l e ({ frames := 3, cells := 0, slots := 0, locals := 66 } : Room) s m args below meth c H locs 0 0 (MQ below (va_Qi (fun (r' : Int32) (u : oa_M) => r' = o.1 ∧ u = o.2) (fun u t => oa_H D ca ad u t.heap) (fun q => b0 ≤ q)) args s 0 0 (fun q => b0 ≤ q)) (F0 m 65 ls []) := by
  obtain ⟨hx, hb, hml, hr, hlocks, hown, hts, hE, hw⟩ := id C
  intro n x1 x2 x3 M hf H locs hH hS ls hl
  unfold BX5_line_65 at hf
  refine lv_aload_n hx hb dX5_line_65 rfl (lv_at hl 0 rfl) ?_
  obtain ⟨r1, M2, hc3, hf⟩ := oa_bdE hf
  refine oa_cvi (As := []) (rest := []) ⟨hx, hb, hml, hown, hts⟩ (cX5_readName_ok l D ca ad b0 hw n  _ _ _ hc3) (cwV 0 hts (oa_gV tw_722 tw_724 tw_20 tw_49 tw_725) rfl rfl rfl (by decide +kernel) ⟨Nat.le_of_ble_eq_true rfl, Nat.le_of_ble_eq_true rfl⟩) hE hH hS (oa_recv (k := 20) (ci := 5) hE hH (by decide) rfl rfl) rfl hl.1 rfl (Nat.le_of_ble_eq_true rfl) dX5_line_66 ⟨by decide, by decide⟩ (fun H locs hH hS => ?_)
  refine lv_istore_n (lv' := [(2, .int r1), (0, .ref (ad 20 0)), (1, .int x1), (3, .int x3)]) hx hb dX5_line_69 rfl hl (by decide) rfl (fun ls hl => ?_)
  refine lv_aload_n hx hb dX5_line_70 rfl (lv_at hl 1 rfl) ?_
  obtain ⟨r4, M5, hc6, hf⟩ := oa_bdE hf
  refine oa_cvi (As := []) (rest := []) ⟨hx, hb, hml, hown, hts⟩ (cX5_readOperands_ok l D ca ad b0 hw n  _ _ _ hc6) (cwV 0 hts (oa_gV tw_835 tw_837 tw_37 tw_49 tw_838) rfl rfl rfl (by decide +kernel) ⟨Nat.le_of_ble_eq_true rfl, Nat.le_of_ble_eq_true rfl⟩) hE hH hS (oa_recv (k := 20) (ci := 5) hE hH (by decide) rfl rfl) rfl hl.1 rfl (Nat.le_of_ble_eq_true rfl) dX5_line_71 ⟨by decide, by decide⟩ (fun H locs hH hS => ?_)
  refine lv_istore_n (lv' := [(3, .int r4), (2, .int r1), (0, .ref (ad 20 0)), (1, .int x1)]) hx hb dX5_line_74 rfl hl (by decide) rfl (fun ls hl => ?_)
  exact bX5_line_75 C n x1 r1 r4 _ hf _ _ hH hS _ (lv_sub hl [2, 3, 1, 0] rfl)
set_option maxHeartbeats 4000000 in
set_option maxRecDepth 100000 in
theorem bX5_line_46 {p : Program} {l : Launch} {e : Env} {s : State} {m : MethodId} {args : Array Value} {below : List Frame} {meth : Method} {c : Code} {D : va_G} {ca : Nat → ClassId} {ad : Nat → Nat → Nat} {b0 : Nat} {o : Int32 × oa_M} (C : oa_Cx p s m args meth c cX5_line 5 (some .int) RX5 D ca b0 ad) : ∀ (n : Nat), ∀ (x1 : Int32) (M : oa_M), BX5_line_46 n x1 M = some o → ∀ (H : Heap) (locs : List Loc), oa_H D ca ad M H → va_S (fun q => b0 ≤ q) s.heap H locs → ∀ (ls : Array Slot), lv_has ls 5 [(0, .ref (ad 20 0)), (1, .int x1)] → W p l e ({ frames := 3, cells := 0, slots := 0, locals := 66 } : Room) s m args below meth c H locs 0 0 (MQ below (va_Qi (fun (r' : Int32) (u : oa_M) => r' = o.1 ∧ u = o.2) (fun u t => oa_H D ca ad u t.heap) (fun q => b0 ≤ q)) args s 0 0 (fun q => b0 ≤ q)) (F0 m 46 ls []) := by
  obtain ⟨hx, hb, hml, hr, hlocks, hown, hts, hE, hw⟩ := id C
  intro n x1 M hf H locs hH hS ls hl
  unfold BX5_line_46 at hf
  refine lv_iconst (v := (0 : Int32)) hx hb dX5_line_46 (by decide) ?_
  refine lv_istore_n (lv' := [(2, .int (0 : Int32)), (0, .ref (ad 20 0)), (1, .int x1)]) hx hb dX5_line_47 rfl hl (by decide) rfl (fun ls hl => ?_)
  refine lv_iconst (v := (0 : Int32)) hx hb dX5_line_48 (by decide) ?_
  refine lv_istore_n (lv' := [(3, .int (0 : Int32)), (2, .int (0 : Int32)), (0, .ref (ad 20 0)), (1, .int x1)]) hx hb dX5_line_49 rfl hl (by decide) rfl (fun ls hl => ?_)
  refine lv_iload_n hx hb dX5_line_50 rfl (lv_at hl 3 rfl) ?_
  refine lv_if_lt (tgt := 65) hx hb dX5_line_51 (by decide) (fun hq1 => ?_) (fun hq1 => ?_)
  · rw [if_pos hq1] at hf
    exact bX5_line_65 C n x1 (0 : Int32) (0 : Int32) _ hf _ _ hH hS _ (lv_sub hl [2, 3, 1, 0] rfl)
  · rw [if_neg hq1] at hf
    refine lv_aload_n hx hb dX5_line_54 rfl (lv_at hl 2 rfl) ?_
    refine oa_get (ci := 5) (C := RX5) (T := TX5) (N := 31) (v := .int (M 20 0 2)) hx hb hts inX5 hown hE hH 20 0 (by decide) rfl rfl 2 (by decide) (hts _ tw_617) rfl dX5_line_55 ?_
    refine lv_aload_n hx hb dX5_line_58 rfl (lv_at hl 2 rfl) ?_
    refine oa_get (ci := 5) (C := RX5) (T := TX5) (N := 31) (v := .int (M 20 0 0)) hx hb hts inX5 hown hE hH 20 0 (by decide) rfl rfl 0 (by decide) (hts _ tw_615) rfl dX5_line_59 ?_
    refine lv_icmp_ge (tgt := 75) hx hb dX5_line_62 (by decide) (fun hq2 => ?_) (fun hq2 => ?_)
    · rw [if_pos hq2] at hf
      exact bX5_line_75 C n x1 (0 : Int32) (0 : Int32) _ hf _ _ hH hS _ (lv_sub hl [2, 3, 1, 0] rfl)
    · rw [if_neg hq2] at hf
      exact bX5_line_65 C n x1 (0 : Int32) (0 : Int32) _ hf _ _ hH hS _ (lv_sub hl [2, 3, 1, 0] rfl)
set_option maxHeartbeats 4000000 in
set_option maxRecDepth 100000 in
theorem cX5_line_k (l : Launch) (D : va_G) (ca : Nat → ClassId) (ad : Nat → Nat → Nat) (b0 : Nat) (hw : oa_W ad b0) (n : Nat)  (M : oa_M) (o : Int32 × oa_M) (hf : FX5_line n  M = some o) : oa_Mi l yX5_line (oa_w yX5_line cX5_line 5 (some .int)) ({ frames := 3, cells := 0, slots := 0, locals := 66 } : Room) D ca ad b0 [.ref (ad 20 0)] M o.1 o.2 := by
  refine oa_ofW (cc := cX5_line) (maxL := 5) (ret := some .int) (by decide) rfl (Nat.le_of_ble_eq_true rfl) ?_
  intro p e s m below meth c hx hb hml hr hlocks hown hts0 hP ls hl
  obtain ⟨hH, hE⟩ := hP
  have hts : ∀ w ∈ oa_T, w.before _ s = true := fun w h => hts0 w (List.mem_cons_of_mem _ h)
  have hS : va_S (fun q => b0 ≤ q) s.heap s.heap [] := va_S.rf
  have C : oa_Cx p s m _ meth c cX5_line 5 (some .int) RX5 D ca b0 ad := ⟨hx, hb, hml, hr, hlocks, hown, hts, hE, hw⟩
  have hl : lv_has ls 5 [(0, .ref (ad 20 0))] := hl
  unfold FX5_line at hf
  refine lv_aload_n hx hb dX5_line_0 rfl (lv_at hl 0 rfl) ?_
  refine lv_iconst (v := (0 : Int32)) hx hb dX5_line_1 (by decide) ?_
  refine oa_put (ci := 5) (C := RX5) (T := TX5) (N := 31) (v := .int (0 : Int32)) (x := (0 : Int32)) hx hb hts inX5 tyX5 tyX5_ok nmX5 hown hE hw hH hS 20 0 (by decide) rfl rfl 2 (by decide) (hts _ tw_617) rfl rfl rfl (Nat.le_of_ble_eq_true rfl) rfl dX5_line_2 (fun H locs hH hS => ?_)
  refine lv_aload_n hx hb dX5_line_5 rfl (lv_at hl 0 rfl) ?_
  refine lv_iconst (v := (0 : Int32)) hx hb dX5_line_6 (by decide) ?_
  refine oa_put (ci := 5) (C := RX5) (T := TX5) (N := 31) (v := .int (0 : Int32)) (x := (0 : Int32)) hx hb hts inX5 tyX5 tyX5_ok nmX5 hown hE hw hH hS 20 0 (by decide) rfl rfl 3 (by decide) (hts _ tw_618) rfl rfl (by decide) (Nat.le_of_ble_eq_true rfl) rfl dX5_line_7 (fun H locs hH hS => ?_)
  refine lv_iconst (v := (-1 : Int32)) hx hb dX5_line_10 (by decide) ?_
  refine lv_istore_n (lv' := [(1, .int (-1 : Int32)), (0, .ref (ad 20 0))]) hx hb dX5_line_11 rfl hl (by decide) rfl (fun ls hl => ?_)
  refine lv_aload_n hx hb dX5_line_12 rfl (lv_at hl 1 rfl) ?_
  obtain ⟨r1, M2, hc3, hf⟩ := oa_bdE hf
  refine oa_cvi (As := []) (rest := []) ⟨hx, hb, hml, hown, hts⟩ (cX5_here_ok l D ca ad b0 hw n  _ _ _ hc3) (cwV 0 hts (oa_gV tw_726 tw_728 tw_21 tw_49 tw_729) rfl rfl rfl (by decide +kernel) ⟨Nat.le_of_ble_eq_true rfl, Nat.le_of_ble_eq_true rfl⟩) hE hH hS (oa_recv (k := 20) (ci := 5) hE hH (by decide) rfl rfl) rfl hl.1 rfl (Nat.le_of_ble_eq_true rfl) dX5_line_13 ⟨by decide, by decide⟩ (fun H locs hH hS => ?_)
  obtain ⟨r4, M5, hc6, hf⟩ := oa_bdE hf
  refine oa_csi (As := [.int r1]) (rest := []) ⟨hx, hb, hml, hown, hts⟩ (cX5_isLabelLetter_ok l D ca ad b0 hw n r1 _ _ _ hc6) (va_cwS 1 hts (oa_gS tw_832 tw_833 tw_49 tw_834) rfl rfl rfl (by decide +kernel) ⟨Nat.le_of_ble_eq_true rfl, Nat.le_of_ble_eq_true rfl⟩) hE hH hS rfl hl.1 rfl (Nat.le_of_ble_eq_true rfl) dX5_line_16 ⟨by decide, by decide⟩ (fun H locs hH hS => ?_)
  refine lv_if_eq (tgt := 46) hx hb dX5_line_19 (by decide) (fun hq7 => ?_) (fun hq7 => ?_)
  · rw [if_pos hq7] at hf
    exact bX5_line_46 C n (-1 : Int32) _ hf _ _ hH hS _ (lv_sub hl [1, 0] rfl)
  · rw [if_neg hq7] at hf
    refine lv_aload_n hx hb dX5_line_22 rfl (lv_at hl 1 rfl) ?_
    obtain ⟨r8, M9, hc10, hf⟩ := oa_bdE hf
    refine oa_cvi (As := []) (rest := []) ⟨hx, hb, hml, hown, hts⟩ (cX5_here_ok l D ca ad b0 hw n  _ _ _ hc10) (cwV 0 hts (oa_gV tw_726 tw_728 tw_21 tw_49 tw_729) rfl rfl rfl (by decide +kernel) ⟨Nat.le_of_ble_eq_true rfl, Nat.le_of_ble_eq_true rfl⟩) hE hH hS (oa_recv (k := 20) (ci := 5) hE hH (by decide) rfl rfl) rfl hl.1 rfl (Nat.le_of_ble_eq_true rfl) dX5_line_23 ⟨by decide, by decide⟩ (fun H locs hH hS => ?_)
    refine lv_bipush (v := (65 : Int32)) hx hb dX5_line_26 (by decide) ?_
    refine lv_isub hx hb dX5_line_28 ?_
    refine lv_istore_n (lv' := [(1, .int (r8 - (65 : Int32))), (0, .ref (ad 20 0))]) hx hb dX5_line_29 rfl hl (by decide) rfl (fun ls hl => ?_)
    refine lv_aload_n hx hb dX5_line_30 rfl (lv_at hl 1 rfl) ?_
    refine lv_dup hx hb dX5_line_31 rfl ?_
    refine oa_get (ci := 5) (C := RX5) (T := TX5) (N := 31) (v := .int (M9 20 0 2)) hx hb hts inX5 hown hE hH 20 0 (by decide) rfl rfl 2 (by decide) (hts _ tw_617) rfl dX5_line_32 ?_
    refine lv_iconst (v := (1 : Int32)) hx hb dX5_line_35 (by decide) ?_
    refine lv_iadd hx hb dX5_line_36 ?_
    refine oa_put (ci := 5) (C := RX5) (T := TX5) (N := 31) (v := .int ((M9 20 0 2) + (1 : Int32))) (x := ((M9 20 0 2) + (1 : Int32))) hx hb hts inX5 tyX5 tyX5_ok nmX5 hown hE hw hH hS 20 0 (by decide) rfl rfl 2 (by decide) (hts _ tw_617) rfl rfl rfl (Nat.le_of_ble_eq_true rfl) rfl dX5_line_37 (fun H locs hH hS => ?_)
    refine lv_aload_n hx hb dX5_line_40 rfl (lv_at hl 1 rfl) ?_
    refine lv_bipush (v := (58 : Int32)) hx hb dX5_line_41 (by decide) ?_
    obtain ⟨M12, hc13, hf⟩ := oa_bvE hf
    refine oa_cvv (As := [.int (58 : Int32)]) (rest := []) ⟨hx, hb, hml, hown, hts⟩ (cX5_must_ok l D ca ad b0 hw n (58 : Int32) _ _ hc13) (cwV 1 hts (oa_gV tw_733 tw_735 tw_22 tw_49 tw_736) rfl rfl rfl (by decide +kernel) ⟨Nat.le_of_ble_eq_true rfl, Nat.le_of_ble_eq_true rfl⟩) hE hH hS (oa_recv (k := 20) (ci := 5) hE hH (by decide) rfl rfl) rfl hl.1 rfl (Nat.le_of_ble_eq_true rfl) dX5_line_43 ⟨by decide, by decide⟩ (fun H locs hH hS => ?_)
    exact bX5_line_46 C n (r8 - (65 : Int32)) _ hf _ _ hH hS _ (lv_sub hl [1, 0] rfl)
theorem cX5_line_ok (l : Launch) (D : va_G) (ca : Nat → ClassId) (ad : Nat → Nat → Nat) (b0 : Nat) (hw : oa_W ad b0) (n : Nat)  (M : oa_M) (r : Int32) (M' : oa_M) (hf : FX5_line n  M = some (r, M')) : oa_Mi l yX5_line (oa_w yX5_line cX5_line 5 (some .int)) ({ frames := 3, cells := 0, slots := 0, locals := 66 } : Room) D ca ad b0 [.ref (ad 20 0)] M r M' := cX5_line_k l D ca ad b0 hw n  M (r, M') hf
def FX5_erase (n : Nat)  (M : oa_M) : Option (Int32 × oa_M) := (some ((M 20 0 17), (oa_up (oa_up M 20 0 30 (0 : Int32)) 20 0 17 (0 : Int32))))
set_option maxHeartbeats 4000000 in
set_option maxRecDepth 100000 in
theorem cX5_erase_k (l : Launch) (D : va_G) (ca : Nat → ClassId) (ad : Nat → Nat → Nat) (b0 : Nat) (hw : oa_W ad b0) (n : Nat)  (M : oa_M) (o : Int32 × oa_M) (hf : FX5_erase n  M = some o) : oa_Mi l yX5_erase (oa_w yX5_erase cX5_erase 2 (some .int)) ({ frames := 0, cells := 0, slots := 0, locals := 0 } : Room) D ca ad b0 [.ref (ad 20 0)] M o.1 o.2 := by
  refine oa_ofW (cc := cX5_erase) (maxL := 2) (ret := some .int) (by decide) rfl (Nat.le_of_ble_eq_true rfl) ?_
  intro p e s m below meth c hx hb hml hr hlocks hown hts0 hP ls hl
  obtain ⟨hH, hE⟩ := hP
  have hts : ∀ w ∈ oa_T, w.before _ s = true := fun w h => hts0 w (List.mem_cons_of_mem _ h)
  have hS : va_S (fun q => b0 ≤ q) s.heap s.heap [] := va_S.rf
  have C : oa_Cx p s m _ meth c cX5_erase 2 (some .int) RX5 D ca b0 ad := ⟨hx, hb, hml, hr, hlocks, hown, hts, hE, hw⟩
  have hl : lv_has ls 2 [(0, .ref (ad 20 0))] := hl
  unfold FX5_erase at hf
  refine lv_aload_n hx hb dX5_erase_0 rfl (lv_at hl 0 rfl) ?_
  refine lv_iconst (v := (0 : Int32)) hx hb dX5_erase_1 (by decide) ?_
  refine oa_put (ci := 5) (C := RX5) (T := TX5) (N := 31) (v := .int (0 : Int32)) (x := (0 : Int32)) hx hb hts inX5 tyX5 tyX5_ok nmX5 hown hE hw hH hS 20 0 (by decide) rfl rfl 30 (by decide) (hts _ tw_645) rfl rfl rfl (Nat.le_of_ble_eq_true rfl) rfl dX5_erase_2 (fun H locs hH hS => ?_)
  refine lv_aload_n hx hb dX5_erase_5 rfl (lv_at hl 0 rfl) ?_
  refine oa_get (ci := 5) (C := RX5) (T := TX5) (N := 31) (v := .int (M 20 0 17)) hx hb hts inX5 hown hE hH 20 0 (by decide) rfl rfl 17 (by decide) (hts _ tw_632) rfl dX5_erase_6 ?_
  refine lv_istore_n (lv' := [(1, .int (M 20 0 17)), (0, .ref (ad 20 0))]) hx hb dX5_erase_9 rfl hl (by decide) rfl (fun ls hl => ?_)
  refine lv_aload_n hx hb dX5_erase_10 rfl (lv_at hl 1 rfl) ?_
  refine lv_iconst (v := (0 : Int32)) hx hb dX5_erase_11 (by decide) ?_
  refine oa_put (ci := 5) (C := RX5) (T := TX5) (N := 31) (v := .int (0 : Int32)) (x := (0 : Int32)) hx hb hts inX5 tyX5 tyX5_ok nmX5 hown hE hw hH hS 20 0 (by decide) rfl rfl 17 (by decide) (hts _ tw_632) rfl rfl rfl (Nat.le_of_ble_eq_true rfl) rfl dX5_erase_12 (fun H locs hH hS => ?_)
  refine lv_iload_n hx hb dX5_erase_15 rfl (lv_at hl 0 rfl) ?_
  cases hf
  exact oa_reti hx hb hr hlocks rfl hS hH dX5_erase_16
theorem cX5_erase_ok (l : Launch) (D : va_G) (ca : Nat → ClassId) (ad : Nat → Nat → Nat) (b0 : Nat) (hw : oa_W ad b0) (n : Nat)  (M : oa_M) (r : Int32) (M' : oa_M) (hf : FX5_erase n  M = some (r, M')) : oa_Mi l yX5_erase (oa_w yX5_erase cX5_erase 2 (some .int)) ({ frames := 0, cells := 0, slots := 0, locals := 0 } : Room) D ca ad b0 [.ref (ad 20 0)] M r M' := cX5_erase_k l D ca ad b0 hw n  M (r, M') hf
def BX5_lineOf_2 : Nat → Int32 → Int32 → oa_M → Option (Int32 × oa_M)
  | 0, _, _, _ => none
  | n + 1, x1, x2, M => (if (M 20 0 17) ≤ x2 then (some ((-1 : Int32), M)) else (if oa_in x2 20 = true then (if (M 38 0 x2.toNatClampNeg) = x1 then (some (x2, M)) else (BX5_lineOf_2 n x1 (x2 + (1 : Int32)) M)) else none))
def FX5_lineOf (n : Nat) (x1 : Int32) (M : oa_M) : Option (Int32 × oa_M) := (BX5_lineOf_2 n x1 (0 : Int32) M)
set_option maxHeartbeats 4000000 in
set_option maxRecDepth 100000 in
theorem bX5_lineOf_2 {p : Program} {l : Launch} {e : Env} {s : State} {m : MethodId} {args : Array Value} {below : List Frame} {meth : Method} {c : Code} {D : va_G} {ca : Nat → ClassId} {ad : Nat → Nat → Nat} {b0 : Nat} {o : Int32 × oa_M} (C : oa_Cx p s m args meth c cX5_lineOf 3 (some .int) RX5 D ca b0 ad) : ∀ (n : Nat), ∀ (x1 : Int32) (x2 : Int32) (M : oa_M), BX5_lineOf_2 n x1 x2 M = some o → ∀ (H : Heap) (locs : List Loc), oa_H D ca ad M H → va_S (fun q => b0 ≤ q) s.heap H locs → ∀ (ls : Array Slot), lv_has ls 3 [(0, .ref (ad 20 0)), (1, .int x1), (2, .int x2)] → W p l e ({ frames := 0, cells := 0, slots := 0, locals := 0 } : Room) s m args below meth c H locs 0 0 (MQ below (va_Qi (fun (r' : Int32) (u : oa_M) => r' = o.1 ∧ u = o.2) (fun u t => oa_H D ca ad u t.heap) (fun q => b0 ≤ q)) args s 0 0 (fun q => b0 ≤ q)) (F0 m 2 ls []) := by
  obtain ⟨hx, hb, hml, hr, hlocks, hown, hts, hE, hw⟩ := id C
  intro n
  induction n with
  | zero => intro x1 x2 M hf; cases hf
  | succ n ih =>
    intro x1 x2 M hf H locs hH hS ls hl
    have hrec2 := ih
    unfold BX5_lineOf_2 at hf
    refine lv_iload_n hx hb dX5_lineOf_2 rfl (lv_at hl 2 rfl) ?_
    refine lv_aload_n hx hb dX5_lineOf_3 rfl (lv_at hl 0 rfl) ?_
    refine oa_get (ci := 5) (C := RX5) (T := TX5) (N := 31) (v := .int (M 20 0 17)) hx hb hts inX5 hown hE hH 20 0 (by decide) rfl rfl 17 (by decide) (hts _ tw_632) rfl dX5_lineOf_4 ?_
    refine lv_icmp_ge (tgt := 28) hx hb dX5_lineOf_7 (by decide) (fun hq1 => ?_) (fun hq1 => ?_)
    · rw [if_pos hq1] at hf
      refine lv_iconst (v := (-1 : Int32)) hx hb dX5_lineOf_28 (by decide) ?_
      cases hf
      exact oa_reti hx hb hr hlocks rfl hS hH dX5_lineOf_29
    · rw [if_neg hq1] at hf
      refine lv_aload_n hx hb dX5_lineOf_10 rfl (lv_at hl 0 rfl) ?_
      refine oa_get (ci := 5) (C := RX5) (T := TX5) (N := 31) (v := .ref (ad 38 0)) hx hb hts inX5 hown hE hH 20 0 (by decide) rfl rfl 18 (by decide) (hts _ tw_633) rfl dX5_lineOf_11 ?_
      refine lv_iload_n hx hb dX5_lineOf_14 rfl (lv_at hl 2 rfl) ?_
      obtain ⟨hk2, hf⟩ := oa_ck hf
      refine oa_ild (v := (M 38 0 x2.toNatClampNeg)) hx hb hE hH 38 0 (by decide) 20 rfl rfl (oa_in_vp hk2) dX5_lineOf_15 ?_
      refine lv_iload_n hx hb dX5_lineOf_16 rfl (lv_at hl 1 rfl) ?_
      refine lv_icmp_ne (tgt := 22) hx hb dX5_lineOf_17 (by decide) (fun hq3 => ?_) (fun hq3 => ?_)
      · rw [if_neg hq3] at hf
        refine lv_iinc (v := (x2 + (1 : Int32))) (lv' := [(2, .int (x2 + (1 : Int32))), (0, .ref (ad 20 0)), (1, .int x1)]) hx hb dX5_lineOf_22 hl (k := 2) rfl rfl (by decide) rfl (fun ls hl => ?_)
        refine lv_goto (tgt := 2) hx hb dX5_lineOf_25 (by decide) ?_
        exact hrec2 x1 (x2 + (1 : Int32)) _ hf _ _ hH hS _ (lv_sub hl [1, 2, 0] rfl)
      · rw [if_pos hq3] at hf
        refine lv_iload_n hx hb dX5_lineOf_20 rfl (lv_at hl 2 rfl) ?_
        cases hf
        exact oa_reti hx hb hr hlocks rfl hS hH dX5_lineOf_21
set_option maxHeartbeats 4000000 in
set_option maxRecDepth 100000 in
theorem cX5_lineOf_k (l : Launch) (D : va_G) (ca : Nat → ClassId) (ad : Nat → Nat → Nat) (b0 : Nat) (hw : oa_W ad b0) (n : Nat) (x1 : Int32) (M : oa_M) (o : Int32 × oa_M) (hf : FX5_lineOf n x1 M = some o) : oa_Mi l yX5_lineOf (oa_w yX5_lineOf cX5_lineOf 3 (some .int)) ({ frames := 0, cells := 0, slots := 0, locals := 0 } : Room) D ca ad b0 [.ref (ad 20 0), .int x1] M o.1 o.2 := by
  refine oa_ofW (cc := cX5_lineOf) (maxL := 3) (ret := some .int) (by decide) rfl (Nat.le_of_ble_eq_true rfl) ?_
  intro p e s m below meth c hx hb hml hr hlocks hown hts0 hP ls hl
  obtain ⟨hH, hE⟩ := hP
  have hts : ∀ w ∈ oa_T, w.before _ s = true := fun w h => hts0 w (List.mem_cons_of_mem _ h)
  have hS : va_S (fun q => b0 ≤ q) s.heap s.heap [] := va_S.rf
  have C : oa_Cx p s m _ meth c cX5_lineOf 3 (some .int) RX5 D ca b0 ad := ⟨hx, hb, hml, hr, hlocks, hown, hts, hE, hw⟩
  have hl : lv_has ls 3 [(0, .ref (ad 20 0)), (1, .int x1)] := hl
  unfold FX5_lineOf at hf
  refine lv_iconst (v := (0 : Int32)) hx hb dX5_lineOf_0 (by decide) ?_
  refine lv_istore_n (lv' := [(2, .int (0 : Int32)), (0, .ref (ad 20 0)), (1, .int x1)]) hx hb dX5_lineOf_1 rfl hl (by decide) rfl (fun ls hl => ?_)
  exact bX5_lineOf_2 C n x1 (0 : Int32) _ hf _ _ hH hS _ (lv_sub hl [1, 2, 0] rfl)
theorem cX5_lineOf_ok (l : Launch) (D : va_G) (ca : Nat → ClassId) (ad : Nat → Nat → Nat) (b0 : Nat) (hw : oa_W ad b0) (n : Nat) (x1 : Int32) (M : oa_M) (r : Int32) (M' : oa_M) (hf : FX5_lineOf n x1 M = some (r, M')) : oa_Mi l yX5_lineOf (oa_w yX5_lineOf cX5_lineOf 3 (some .int)) ({ frames := 0, cells := 0, slots := 0, locals := 0 } : Room) D ca ad b0 [.ref (ad 20 0), .int x1] M r M' := cX5_lineOf_k l D ca ad b0 hw n x1 M (r, M') hf
def BX5_missing_100 (rec48 : Int32 → oa_M → Option (Int32 × oa_M)) (rec58 : Int32 → Int32 → oa_M → Option (Int32 × oa_M)) (n : Nat) (x1 : Int32) (x2 : Int32) (M : oa_M) : Option (Int32 × oa_M) := (rec58 x1 (x2 + (1 : Int32)) M)
def BX5_missing_58 (rec48 : Int32 → oa_M → Option (Int32 × oa_M)) : Nat → Int32 → Int32 → oa_M → Option (Int32 × oa_M)
  | 0, _, _, _ => none
  | n + 1, x1, x2, M => (if oa_in x1 20 = true then (if (M 40 0 x1.toNatClampNeg) ≤ x2 then (rec48 (x1 + (1 : Int32)) M) else (if oa_in (((3 : Int32) * x1) + x2) 60 = true then (if (M 42 0 (((3 : Int32) * x1) + x2).toNatClampNeg) = 0 then (BX5_missing_100 rec48 (BX5_missing_58 rec48 n) n x1 x2 M) else (if oa_in (((3 : Int32) * x1) + x2) 60 = true then (oa_bd (FX5_lineOf n (M 41 0 (((3 : Int32) * x1) + x2).toNatClampNeg) M) (fun r6 M7 => (if 0 ≤ r6 then (BX5_missing_100 rec48 (BX5_missing_58 rec48 n) n x1 x2 M7) else (some (x1, M7))))) else none)) else none)) else none)
def BX5_missing_48 : Nat → Int32 → oa_M → Option (Int32 × oa_M)
  | 0, _, _ => none
  | n + 1, x1, M => (if (M 20 0 17) ≤ x1 then (some ((-1 : Int32), M)) else (BX5_missing_58 (BX5_missing_48 n) n x1 (0 : Int32) M))
def BX5_missing_40 (rec2 : Int32 → oa_M → Option (Int32 × oa_M)) (n : Nat) (x1 : Int32) (M : oa_M) : Option (Int32 × oa_M) := (rec2 (x1 + (1 : Int32)) M)
def BX5_missing_2 : Nat → Int32 → oa_M → Option (Int32 × oa_M)
  | 0, _, _ => none
  | n + 1, x1, M => (if (M 20 0 17) ≤ x1 then (BX5_missing_48 n (0 : Int32) M) else (if oa_in x1 20 = true then (if (M 39 0 x1.toNatClampNeg) ≤ 0 then (BX5_missing_40 (BX5_missing_2 n) n x1 M) else (if oa_in x1 20 = true then (if oa_in x1 20 = true then (oa_bd (FX5_formOf n (M 39 0 x1.toNatClampNeg) (M 40 0 x1.toNatClampNeg) M) (fun r6 M7 => (if 0 ≤ r6 then (BX5_missing_40 (BX5_missing_2 n) n x1 M7) else (some (x1, M7))))) else none) else none)) else none))
def FX5_missing (n : Nat)  (M : oa_M) : Option (Int32 × oa_M) := (BX5_missing_2 n (0 : Int32) M)
set_option maxHeartbeats 4000000 in
set_option maxRecDepth 100000 in
theorem bX5_missing_100 {p : Program} {l : Launch} {e : Env} {s : State} {m : MethodId} {args : Array Value} {below : List Frame} {meth : Method} {c : Code} {D : va_G} {ca : Nat → ClassId} {ad : Nat → Nat → Nat} {b0 : Nat} {o : Int32 × oa_M} (C : oa_Cx p s m args meth c cX5_missing 3 (some .int) RX5 D ca b0 ad) (rec48 : Int32 → oa_M → Option (Int32 × oa_M)) (hrec48 : ∀ (x1 : Int32) (M : oa_M), rec48 x1 M = some o → ∀ (H : Heap) (locs : List Loc), oa_H D ca ad M H → va_S (fun q => b0 ≤ q) s.heap H locs → ∀ (ls : Array Slot), lv_has ls 3 [(0, .ref (ad 20 0)), (1, .int x1)] → W p l e ({ frames := 1, cells := 0, slots := 0, locals := 23 } : Room) s m args below meth c H locs 0 0 (MQ below (va_Qi (fun (r' : Int32) (u : oa_M) => r' = o.1 ∧ u = o.2) (fun u t => oa_H D ca ad u t.heap) (fun q => b0 ≤ q)) args s 0 0 (fun q => b0 ≤ q)) (F0 m 48 ls [])) (rec58 : Int32 → Int32 → oa_M → Option (Int32 × oa_M)) (hrec58 : ∀ (x1 : Int32) (x2 : Int32) (M : oa_M), rec58 x1 x2 M = some o → ∀ (H : Heap) (locs : List Loc), oa_H D ca ad M H → va_S (fun q => b0 ≤ q) s.heap H locs → ∀ (ls : Array Slot), lv_has ls 3 [(0, .ref (ad 20 0)), (1, .int x1), (2, .int x2)] → W p l e ({ frames := 1, cells := 0, slots := 0, locals := 23 } : Room) s m args below meth c H locs 0 0 (MQ below (va_Qi (fun (r' : Int32) (u : oa_M) => r' = o.1 ∧ u = o.2) (fun u t => oa_H D ca ad u t.heap) (fun q => b0 ≤ q)) args s 0 0 (fun q => b0 ≤ q)) (F0 m 58 ls [])) : ∀ (n : Nat), ∀ (x1 : Int32) (x2 : Int32) (M : oa_M), BX5_missing_100 rec48 rec58 n x1 x2 M = some o → ∀ (H : Heap) (locs : List Loc), oa_H D ca ad M H → va_S (fun q => b0 ≤ q) s.heap H locs → ∀ (ls : Array Slot), lv_has ls 3 [(0, .ref (ad 20 0)), (1, .int x1), (2, .int x2)] → W p l e ({ frames := 1, cells := 0, slots := 0, locals := 23 } : Room) s m args below meth c H locs 0 0 (MQ below (va_Qi (fun (r' : Int32) (u : oa_M) => r' = o.1 ∧ u = o.2) (fun u t => oa_H D ca ad u t.heap) (fun q => b0 ≤ q)) args s 0 0 (fun q => b0 ≤ q)) (F0 m 100 ls []) := by
  obtain ⟨hx, hb, hml, hr, hlocks, hown, hts, hE, hw⟩ := id C
  intro n x1 x2 M hf H locs hH hS ls hl
  unfold BX5_missing_100 at hf
  refine lv_iinc (v := (x2 + (1 : Int32))) (lv' := [(2, .int (x2 + (1 : Int32))), (0, .ref (ad 20 0)), (1, .int x1)]) hx hb dX5_missing_100 hl (k := 2) rfl rfl (by decide) rfl (fun ls hl => ?_)
  refine lv_goto (tgt := 58) hx hb dX5_missing_103 (by decide) ?_
  exact hrec58 x1 (x2 + (1 : Int32)) _ hf _ _ hH hS _ (lv_sub hl [1, 2, 0] rfl)
set_option maxHeartbeats 4000000 in
set_option maxRecDepth 100000 in
theorem bX5_missing_58 {p : Program} {l : Launch} {e : Env} {s : State} {m : MethodId} {args : Array Value} {below : List Frame} {meth : Method} {c : Code} {D : va_G} {ca : Nat → ClassId} {ad : Nat → Nat → Nat} {b0 : Nat} {o : Int32 × oa_M} (C : oa_Cx p s m args meth c cX5_missing 3 (some .int) RX5 D ca b0 ad) (rec48 : Int32 → oa_M → Option (Int32 × oa_M)) (hrec48 : ∀ (x1 : Int32) (M : oa_M), rec48 x1 M = some o → ∀ (H : Heap) (locs : List Loc), oa_H D ca ad M H → va_S (fun q => b0 ≤ q) s.heap H locs → ∀ (ls : Array Slot), lv_has ls 3 [(0, .ref (ad 20 0)), (1, .int x1)] → W p l e ({ frames := 1, cells := 0, slots := 0, locals := 23 } : Room) s m args below meth c H locs 0 0 (MQ below (va_Qi (fun (r' : Int32) (u : oa_M) => r' = o.1 ∧ u = o.2) (fun u t => oa_H D ca ad u t.heap) (fun q => b0 ≤ q)) args s 0 0 (fun q => b0 ≤ q)) (F0 m 48 ls [])) : ∀ (n : Nat), ∀ (x1 : Int32) (x2 : Int32) (M : oa_M), BX5_missing_58 rec48 n x1 x2 M = some o → ∀ (H : Heap) (locs : List Loc), oa_H D ca ad M H → va_S (fun q => b0 ≤ q) s.heap H locs → ∀ (ls : Array Slot), lv_has ls 3 [(0, .ref (ad 20 0)), (1, .int x1), (2, .int x2)] → W p l e ({ frames := 1, cells := 0, slots := 0, locals := 23 } : Room) s m args below meth c H locs 0 0 (MQ below (va_Qi (fun (r' : Int32) (u : oa_M) => r' = o.1 ∧ u = o.2) (fun u t => oa_H D ca ad u t.heap) (fun q => b0 ≤ q)) args s 0 0 (fun q => b0 ≤ q)) (F0 m 58 ls []) := by
  obtain ⟨hx, hb, hml, hr, hlocks, hown, hts, hE, hw⟩ := id C
  intro n
  induction n with
  | zero => intro x1 x2 M hf; cases hf
  | succ n ih =>
    intro x1 x2 M hf H locs hH hS ls hl
    have hrec58 := ih
    unfold BX5_missing_58 at hf
    refine lv_iload_n hx hb dX5_missing_58 rfl (lv_at hl 2 rfl) ?_
    refine lv_aload_n hx hb dX5_missing_59 rfl (lv_at hl 0 rfl) ?_
    refine oa_get (ci := 5) (C := RX5) (T := TX5) (N := 31) (v := .ref (ad 40 0)) hx hb hts inX5 hown hE hH 20 0 (by decide) rfl rfl 20 (by decide) (hts _ tw_635) rfl dX5_missing_60 ?_
    refine lv_iload_n hx hb dX5_missing_63 rfl (lv_at hl 1 rfl) ?_
    obtain ⟨hk1, hf⟩ := oa_ck hf
    refine oa_ild (v := (M 40 0 x1.toNatClampNeg)) hx hb hE hH 40 0 (by decide) 20 rfl rfl (oa_in_vp hk1) dX5_missing_64 ?_
    refine lv_icmp_ge (tgt := 106) hx hb dX5_missing_65 (by decide) (fun hq2 => ?_) (fun hq2 => ?_)
    · rw [if_pos hq2] at hf
      refine lv_iinc (v := (x1 + (1 : Int32))) (lv' := [(1, .int (x1 + (1 : Int32))), (0, .ref (ad 20 0)), (2, .int x2)]) hx hb dX5_missing_106 hl (k := 1) rfl rfl (by decide) rfl (fun ls hl => ?_)
      refine lv_goto (tgt := 48) hx hb dX5_missing_109 (by decide) ?_
      exact hrec48 (x1 + (1 : Int32)) _ hf _ _ hH hS _ (lv_sub hl [1, 0] rfl)
    · rw [if_neg hq2] at hf
      refine lv_aload_n hx hb dX5_missing_68 rfl (lv_at hl 0 rfl) ?_
      refine oa_get (ci := 5) (C := RX5) (T := TX5) (N := 31) (v := .ref (ad 42 0)) hx hb hts inX5 hown hE hH 20 0 (by decide) rfl rfl 22 (by decide) (hts _ tw_637) rfl dX5_missing_69 ?_
      refine lv_iconst (v := (3 : Int32)) hx hb dX5_missing_72 (by decide) ?_
      refine lv_iload_n hx hb dX5_missing_73 rfl (lv_at hl 1 rfl) ?_
      refine lv_imul hx hb dX5_missing_74 ?_
      refine lv_iload_n hx hb dX5_missing_75 rfl (lv_at hl 2 rfl) ?_
      refine lv_iadd hx hb dX5_missing_76 ?_
      obtain ⟨hk3, hf⟩ := oa_ck hf
      refine oa_zld (v := (M 42 0 (((3 : Int32) * x1) + x2).toNatClampNeg)) hx hb hE hH 42 0 (by decide) 60 rfl rfl (oa_in_vp hk3) dX5_missing_77 ?_
      refine lv_if_eq (tgt := 100) hx hb dX5_missing_78 (by decide) (fun hq4 => ?_) (fun hq4 => ?_)
      · rw [if_pos hq4] at hf
        exact bX5_missing_100 C _ hrec48 _ hrec58 n x1 x2 _ hf _ _ hH hS _ (lv_sub hl [0, 1, 2] rfl)
      · rw [if_neg hq4] at hf
        refine lv_aload_n hx hb dX5_missing_81 rfl (lv_at hl 0 rfl) ?_
        refine lv_aload_n hx hb dX5_missing_82 rfl (lv_at hl 0 rfl) ?_
        refine oa_get (ci := 5) (C := RX5) (T := TX5) (N := 31) (v := .ref (ad 41 0)) hx hb hts inX5 hown hE hH 20 0 (by decide) rfl rfl 21 (by decide) (hts _ tw_636) rfl dX5_missing_83 ?_
        refine lv_iconst (v := (3 : Int32)) hx hb dX5_missing_86 (by decide) ?_
        refine lv_iload_n hx hb dX5_missing_87 rfl (lv_at hl 1 rfl) ?_
        refine lv_imul hx hb dX5_missing_88 ?_
        refine lv_iload_n hx hb dX5_missing_89 rfl (lv_at hl 2 rfl) ?_
        refine lv_iadd hx hb dX5_missing_90 ?_
        obtain ⟨hk5, hf⟩ := oa_ck hf
        refine oa_ild (v := (M 41 0 (((3 : Int32) * x1) + x2).toNatClampNeg)) hx hb hE hH 41 0 (by decide) 60 rfl rfl (oa_in_vp hk5) dX5_missing_91 ?_
        obtain ⟨r6, M7, hc8, hf⟩ := oa_bdE hf
        refine oa_cvi (As := [.int (M 41 0 (((3 : Int32) * x1) + x2).toNatClampNeg)]) (rest := []) ⟨hx, hb, hml, hown, hts⟩ (cX5_lineOf_ok l D ca ad b0 hw n (M 41 0 (((3 : Int32) * x1) + x2).toNatClampNeg) _ _ _ hc8) (cwV 1 hts (oa_gV tw_858 tw_860 tw_40 tw_49 tw_861) rfl rfl rfl (by decide +kernel) ⟨Nat.le_of_ble_eq_true rfl, Nat.le_of_ble_eq_true rfl⟩) hE hH hS (oa_recv (k := 20) (ci := 5) hE hH (by decide) rfl rfl) rfl hl.1 rfl (Nat.le_of_ble_eq_true rfl) dX5_missing_92 ⟨by decide, by decide⟩ (fun H locs hH hS => ?_)
        refine lv_if_ge (tgt := 100) hx hb dX5_missing_95 (by decide) (fun hq9 => ?_) (fun hq9 => ?_)
        · rw [if_pos hq9] at hf
          exact bX5_missing_100 C _ hrec48 _ hrec58 n x1 x2 _ hf _ _ hH hS _ (lv_sub hl [0, 1, 2] rfl)
        · rw [if_neg hq9] at hf
          refine lv_iload_n hx hb dX5_missing_98 rfl (lv_at hl 1 rfl) ?_
          cases hf
          exact oa_reti hx hb hr hlocks rfl hS hH dX5_missing_99
set_option maxHeartbeats 4000000 in
set_option maxRecDepth 100000 in
theorem bX5_missing_48 {p : Program} {l : Launch} {e : Env} {s : State} {m : MethodId} {args : Array Value} {below : List Frame} {meth : Method} {c : Code} {D : va_G} {ca : Nat → ClassId} {ad : Nat → Nat → Nat} {b0 : Nat} {o : Int32 × oa_M} (C : oa_Cx p s m args meth c cX5_missing 3 (some .int) RX5 D ca b0 ad) : ∀ (n : Nat), ∀ (x1 : Int32) (M : oa_M), BX5_missing_48 n x1 M = some o → ∀ (H : Heap) (locs : List Loc), oa_H D ca ad M H → va_S (fun q => b0 ≤ q) s.heap H locs → ∀ (ls : Array Slot), lv_has ls 3 [(0, .ref (ad 20 0)), (1, .int x1)] → W p l e ({ frames := 1, cells := 0, slots := 0, locals := 23 } : Room) s m args below meth c H locs 0 0 (MQ below (va_Qi (fun (r' : Int32) (u : oa_M) => r' = o.1 ∧ u = o.2) (fun u t => oa_H D ca ad u t.heap) (fun q => b0 ≤ q)) args s 0 0 (fun q => b0 ≤ q)) (F0 m 48 ls []) := by
  obtain ⟨hx, hb, hml, hr, hlocks, hown, hts, hE, hw⟩ := id C
  intro n
  induction n with
  | zero => intro x1 M hf; cases hf
  | succ n ih =>
    intro x1 M hf H locs hH hS ls hl
    have hrec48 := ih
    unfold BX5_missing_48 at hf
    refine lv_iload_n hx hb dX5_missing_48 rfl (lv_at hl 1 rfl) ?_
    refine lv_aload_n hx hb dX5_missing_49 rfl (lv_at hl 0 rfl) ?_
    refine oa_get (ci := 5) (C := RX5) (T := TX5) (N := 31) (v := .int (M 20 0 17)) hx hb hts inX5 hown hE hH 20 0 (by decide) rfl rfl 17 (by decide) (hts _ tw_632) rfl dX5_missing_50 ?_
    refine lv_icmp_ge (tgt := 112) hx hb dX5_missing_53 (by decide) (fun hq1 => ?_) (fun hq1 => ?_)
    · rw [if_pos hq1] at hf
      refine lv_iconst (v := (-1 : Int32)) hx hb dX5_missing_112 (by decide) ?_
      cases hf
      exact oa_reti hx hb hr hlocks rfl hS hH dX5_missing_113
    · rw [if_neg hq1] at hf
      refine lv_iconst (v := (0 : Int32)) hx hb dX5_missing_56 (by decide) ?_
      refine lv_istore_n (lv' := [(2, .int (0 : Int32)), (0, .ref (ad 20 0)), (1, .int x1)]) hx hb dX5_missing_57 rfl hl (by decide) rfl (fun ls hl => ?_)
      exact bX5_missing_58 C _ hrec48 n x1 (0 : Int32) _ hf _ _ hH hS _ (lv_sub hl [1, 2, 0] rfl)
set_option maxHeartbeats 4000000 in
set_option maxRecDepth 100000 in
theorem bX5_missing_40 {p : Program} {l : Launch} {e : Env} {s : State} {m : MethodId} {args : Array Value} {below : List Frame} {meth : Method} {c : Code} {D : va_G} {ca : Nat → ClassId} {ad : Nat → Nat → Nat} {b0 : Nat} {o : Int32 × oa_M} (C : oa_Cx p s m args meth c cX5_missing 3 (some .int) RX5 D ca b0 ad) (rec2 : Int32 → oa_M → Option (Int32 × oa_M)) (hrec2 : ∀ (x1 : Int32) (M : oa_M), rec2 x1 M = some o → ∀ (H : Heap) (locs : List Loc), oa_H D ca ad M H → va_S (fun q => b0 ≤ q) s.heap H locs → ∀ (ls : Array Slot), lv_has ls 3 [(0, .ref (ad 20 0)), (1, .int x1)] → W p l e ({ frames := 1, cells := 0, slots := 0, locals := 23 } : Room) s m args below meth c H locs 0 0 (MQ below (va_Qi (fun (r' : Int32) (u : oa_M) => r' = o.1 ∧ u = o.2) (fun u t => oa_H D ca ad u t.heap) (fun q => b0 ≤ q)) args s 0 0 (fun q => b0 ≤ q)) (F0 m 2 ls [])) : ∀ (n : Nat), ∀ (x1 : Int32) (M : oa_M), BX5_missing_40 rec2 n x1 M = some o → ∀ (H : Heap) (locs : List Loc), oa_H D ca ad M H → va_S (fun q => b0 ≤ q) s.heap H locs → ∀ (ls : Array Slot), lv_has ls 3 [(0, .ref (ad 20 0)), (1, .int x1)] → W p l e ({ frames := 1, cells := 0, slots := 0, locals := 23 } : Room) s m args below meth c H locs 0 0 (MQ below (va_Qi (fun (r' : Int32) (u : oa_M) => r' = o.1 ∧ u = o.2) (fun u t => oa_H D ca ad u t.heap) (fun q => b0 ≤ q)) args s 0 0 (fun q => b0 ≤ q)) (F0 m 40 ls []) := by
  obtain ⟨hx, hb, hml, hr, hlocks, hown, hts, hE, hw⟩ := id C
  intro n x1 M hf H locs hH hS ls hl
  unfold BX5_missing_40 at hf
  refine lv_iinc (v := (x1 + (1 : Int32))) (lv' := [(1, .int (x1 + (1 : Int32))), (0, .ref (ad 20 0))]) hx hb dX5_missing_40 hl (k := 1) rfl rfl (by decide) rfl (fun ls hl => ?_)
  refine lv_goto (tgt := 2) hx hb dX5_missing_43 (by decide) ?_
  exact hrec2 (x1 + (1 : Int32)) _ hf _ _ hH hS _ (lv_sub hl [1, 0] rfl)
set_option maxHeartbeats 4000000 in
set_option maxRecDepth 100000 in
theorem bX5_missing_2 {p : Program} {l : Launch} {e : Env} {s : State} {m : MethodId} {args : Array Value} {below : List Frame} {meth : Method} {c : Code} {D : va_G} {ca : Nat → ClassId} {ad : Nat → Nat → Nat} {b0 : Nat} {o : Int32 × oa_M} (C : oa_Cx p s m args meth c cX5_missing 3 (some .int) RX5 D ca b0 ad) : ∀ (n : Nat), ∀ (x1 : Int32) (M : oa_M), BX5_missing_2 n x1 M = some o → ∀ (H : Heap) (locs : List Loc), oa_H D ca ad M H → va_S (fun q => b0 ≤ q) s.heap H locs → ∀ (ls : Array Slot), lv_has ls 3 [(0, .ref (ad 20 0)), (1, .int x1)] → W p l e ({ frames := 1, cells := 0, slots := 0, locals := 23 } : Room) s m args below meth c H locs 0 0 (MQ below (va_Qi (fun (r' : Int32) (u : oa_M) => r' = o.1 ∧ u = o.2) (fun u t => oa_H D ca ad u t.heap) (fun q => b0 ≤ q)) args s 0 0 (fun q => b0 ≤ q)) (F0 m 2 ls []) := by
  obtain ⟨hx, hb, hml, hr, hlocks, hown, hts, hE, hw⟩ := id C
  intro n
  induction n with
  | zero => intro x1 M hf; cases hf
  | succ n ih =>
    intro x1 M hf H locs hH hS ls hl
    have hrec2 := ih
    unfold BX5_missing_2 at hf
    refine lv_iload_n hx hb dX5_missing_2 rfl (lv_at hl 1 rfl) ?_
    refine lv_aload_n hx hb dX5_missing_3 rfl (lv_at hl 0 rfl) ?_
    refine oa_get (ci := 5) (C := RX5) (T := TX5) (N := 31) (v := .int (M 20 0 17)) hx hb hts inX5 hown hE hH 20 0 (by decide) rfl rfl 17 (by decide) (hts _ tw_632) rfl dX5_missing_4 ?_
    refine lv_icmp_ge (tgt := 46) hx hb dX5_missing_7 (by decide) (fun hq1 => ?_) (fun hq1 => ?_)
    · rw [if_pos hq1] at hf
      refine lv_iconst (v := (0 : Int32)) hx hb dX5_missing_46 (by decide) ?_
      refine lv_istore_n (lv' := [(1, .int (0 : Int32)), (0, .ref (ad 20 0))]) hx hb dX5_missing_47 rfl hl (by decide) rfl (fun ls hl => ?_)
      exact bX5_missing_48 C n (0 : Int32) _ hf _ _ hH hS _ (lv_sub hl [1, 0] rfl)
    · rw [if_neg hq1] at hf
      refine lv_aload_n hx hb dX5_missing_10 rfl (lv_at hl 0 rfl) ?_
      refine oa_get (ci := 5) (C := RX5) (T := TX5) (N := 31) (v := .ref (ad 39 0)) hx hb hts inX5 hown hE hH 20 0 (by decide) rfl rfl 19 (by decide) (hts _ tw_634) rfl dX5_missing_11 ?_
      refine lv_iload_n hx hb dX5_missing_14 rfl (lv_at hl 1 rfl) ?_
      obtain ⟨hk2, hf⟩ := oa_ck hf
      refine oa_ild (v := (M 39 0 x1.toNatClampNeg)) hx hb hE hH 39 0 (by decide) 20 rfl rfl (oa_in_vp hk2) dX5_missing_15 ?_
      refine lv_if_le (tgt := 40) hx hb dX5_missing_16 (by decide) (fun hq3 => ?_) (fun hq3 => ?_)
      · rw [if_pos hq3] at hf
        exact bX5_missing_40 C _ hrec2 n x1 _ hf _ _ hH hS _ (lv_sub hl [0, 1] rfl)
      · rw [if_neg hq3] at hf
        refine lv_aload_n hx hb dX5_missing_19 rfl (lv_at hl 0 rfl) ?_
        refine lv_aload_n hx hb dX5_missing_20 rfl (lv_at hl 0 rfl) ?_
        refine oa_get (ci := 5) (C := RX5) (T := TX5) (N := 31) (v := .ref (ad 39 0)) hx hb hts inX5 hown hE hH 20 0 (by decide) rfl rfl 19 (by decide) (hts _ tw_634) rfl dX5_missing_21 ?_
        refine lv_iload_n hx hb dX5_missing_24 rfl (lv_at hl 1 rfl) ?_
        obtain ⟨hk4, hf⟩ := oa_ck hf
        refine oa_ild (v := (M 39 0 x1.toNatClampNeg)) hx hb hE hH 39 0 (by decide) 20 rfl rfl (oa_in_vp hk4) dX5_missing_25 ?_
        refine lv_aload_n hx hb dX5_missing_26 rfl (lv_at hl 0 rfl) ?_
        refine oa_get (ci := 5) (C := RX5) (T := TX5) (N := 31) (v := .ref (ad 40 0)) hx hb hts inX5 hown hE hH 20 0 (by decide) rfl rfl 20 (by decide) (hts _ tw_635) rfl dX5_missing_27 ?_
        refine lv_iload_n hx hb dX5_missing_30 rfl (lv_at hl 1 rfl) ?_
        obtain ⟨hk5, hf⟩ := oa_ck hf
        refine oa_ild (v := (M 40 0 x1.toNatClampNeg)) hx hb hE hH 40 0 (by decide) 20 rfl rfl (oa_in_vp hk5) dX5_missing_31 ?_
        obtain ⟨r6, M7, hc8, hf⟩ := oa_bdE hf
        refine oa_cvi (As := [.int (M 39 0 x1.toNatClampNeg), .int (M 40 0 x1.toNatClampNeg)]) (rest := []) ⟨hx, hb, hml, hown, hts⟩ (cX5_formOf_ok l D ca ad b0 hw n (M 39 0 x1.toNatClampNeg) (M 40 0 x1.toNatClampNeg) _ _ _ hc8) (cwV 2 hts (oa_gV tw_745 tw_747 tw_25 tw_49 tw_748) rfl rfl rfl (by decide +kernel) ⟨Nat.le_of_ble_eq_true rfl, Nat.le_of_ble_eq_true rfl⟩) hE hH hS (oa_recv (k := 20) (ci := 5) hE hH (by decide) rfl rfl) rfl hl.1 rfl (Nat.le_of_ble_eq_true rfl) dX5_missing_32 ⟨by decide, by decide⟩ (fun H locs hH hS => ?_)
        refine lv_if_ge (tgt := 40) hx hb dX5_missing_35 (by decide) (fun hq9 => ?_) (fun hq9 => ?_)
        · rw [if_pos hq9] at hf
          exact bX5_missing_40 C _ hrec2 n x1 _ hf _ _ hH hS _ (lv_sub hl [0, 1] rfl)
        · rw [if_neg hq9] at hf
          refine lv_iload_n hx hb dX5_missing_38 rfl (lv_at hl 1 rfl) ?_
          cases hf
          exact oa_reti hx hb hr hlocks rfl hS hH dX5_missing_39
set_option maxHeartbeats 4000000 in
set_option maxRecDepth 100000 in
theorem cX5_missing_k (l : Launch) (D : va_G) (ca : Nat → ClassId) (ad : Nat → Nat → Nat) (b0 : Nat) (hw : oa_W ad b0) (n : Nat)  (M : oa_M) (o : Int32 × oa_M) (hf : FX5_missing n  M = some o) : oa_Mi l yX5_missing (oa_w yX5_missing cX5_missing 3 (some .int)) ({ frames := 1, cells := 0, slots := 0, locals := 23 } : Room) D ca ad b0 [.ref (ad 20 0)] M o.1 o.2 := by
  refine oa_ofW (cc := cX5_missing) (maxL := 3) (ret := some .int) (by decide) rfl (Nat.le_of_ble_eq_true rfl) ?_
  intro p e s m below meth c hx hb hml hr hlocks hown hts0 hP ls hl
  obtain ⟨hH, hE⟩ := hP
  have hts : ∀ w ∈ oa_T, w.before _ s = true := fun w h => hts0 w (List.mem_cons_of_mem _ h)
  have hS : va_S (fun q => b0 ≤ q) s.heap s.heap [] := va_S.rf
  have C : oa_Cx p s m _ meth c cX5_missing 3 (some .int) RX5 D ca b0 ad := ⟨hx, hb, hml, hr, hlocks, hown, hts, hE, hw⟩
  have hl : lv_has ls 3 [(0, .ref (ad 20 0))] := hl
  unfold FX5_missing at hf
  refine lv_iconst (v := (0 : Int32)) hx hb dX5_missing_0 (by decide) ?_
  refine lv_istore_n (lv' := [(1, .int (0 : Int32)), (0, .ref (ad 20 0))]) hx hb dX5_missing_1 rfl hl (by decide) rfl (fun ls hl => ?_)
  exact bX5_missing_2 C n (0 : Int32) _ hf _ _ hH hS _ (lv_sub hl [1, 0] rfl)
theorem cX5_missing_ok (l : Launch) (D : va_G) (ca : Nat → ClassId) (ad : Nat → Nat → Nat) (b0 : Nat) (hw : oa_W ad b0) (n : Nat)  (M : oa_M) (r : Int32) (M' : oa_M) (hf : FX5_missing n  M = some (r, M')) : oa_Mi l yX5_missing (oa_w yX5_missing cX5_missing 3 (some .int)) ({ frames := 1, cells := 0, slots := 0, locals := 23 } : Room) D ca ad b0 [.ref (ad 20 0)] M r M' := cX5_missing_k l D ca ad b0 hw n  M (r, M') hf
def BX5_fieldOf_123 (n : Nat) (x1 : Int32) (x2 : Int32) (x3 : Int32) (x4 : Int32) (x5 : Int32) (x6 : Int32) (x7 : Int32) (x8 : Int32) (z0 : Int32) (M : oa_M) : Option (Int32 × oa_M) := (some (z0, M))
def BX5_fieldOf_93 (n : Nat) (x1 : Int32) (x2 : Int32) (x3 : Int32) (x4 : Int32) (x5 : Int32) (x6 : Int32) (x7 : Int32) (z0 : Int32) (M : oa_M) : Option (Int32 × oa_M) := (oa_bd (FX5_outside n x6 z0 ((z0 + x7) - (1 : Int32)) M) (fun r1 M2 => (if r1 = 0 then (BX5_fieldOf_123 n x1 x2 x3 x4 x5 x6 x7 z0 (x6 &&& (x7 - (1 : Int32))) M2) else (BX5_fieldOf_123 n x1 x2 x3 x4 x5 x6 x7 z0 (-1 : Int32) M2))))
def BX5_fieldOf_33 (n : Nat) (x1 : Int32) (x2 : Int32) (x3 : Int32) (x4 : Int32) (x5 : Int32) (z0 : Int32) (z1 : Int32) (M : oa_M) : Option (Int32 × oa_M) := (if oa_in x5 36 = true then (if ¬ (M 31 0 x5.toNatClampNeg) = 0 then (if (oa_rem (z0 - z1) (M 31 0 x5.toNatClampNeg)) = 0 then (if oa_in x5 36 = true then (if ¬ (M 31 0 x5.toNatClampNeg) = 0 then (if oa_in x5 36 = true then (if oa_in x5 36 = true then (if (M 30 0 x5.toNatClampNeg) ≤ 0 then (BX5_fieldOf_93 n x1 x2 x3 x4 x5 ((z0 - z1) / (M 31 0 x5.toNatClampNeg)) ((1 : Int32) <<< ((M 29 0 x5.toNatClampNeg) &&& 31)) (0 : Int32) M) else (BX5_fieldOf_93 n x1 x2 x3 x4 x5 ((z0 - z1) / (M 31 0 x5.toNatClampNeg)) ((1 : Int32) <<< ((M 29 0 x5.toNatClampNeg) &&& 31)) ((-((1 : Int32) <<< ((M 29 0 x5.toNatClampNeg) &&& 31))) / (2 : Int32)) M)) else none) else none) else none) else none) else (some ((-1 : Int32), M))) else none) else none)
def FX5_fieldOf (n : Nat) (x1 : Int32) (x2 : Int32) (x3 : Int32) (x4 : Int32) (M : oa_M) : Option (Int32 × oa_M) := (if oa_in (((3 : Int32) * x1) + x2) 36 = true then (if oa_in (((3 : Int32) * x1) + x2) 36 = true then (if (M 30 0 (((3 : Int32) * x1) + x2).toNatClampNeg) = (2 : Int32) then (BX5_fieldOf_33 n x1 x2 x3 x4 (((3 : Int32) * x1) + x2) (x3 - (M 32 0 (((3 : Int32) * x1) + x2).toNatClampNeg)) x4 M) else (BX5_fieldOf_33 n x1 x2 x3 x4 (((3 : Int32) * x1) + x2) (x3 - (M 32 0 (((3 : Int32) * x1) + x2).toNatClampNeg)) (0 : Int32) M)) else none) else none)
set_option maxHeartbeats 4000000 in
set_option maxRecDepth 100000 in
theorem bX5_fieldOf_123 {p : Program} {l : Launch} {e : Env} {s : State} {m : MethodId} {args : Array Value} {below : List Frame} {meth : Method} {c : Code} {D : va_G} {ca : Nat → ClassId} {ad : Nat → Nat → Nat} {b0 : Nat} {o : Int32 × oa_M} (C : oa_Cx p s m args meth c cX5_fieldOf 9 (some .int) RX5 D ca b0 ad) : ∀ (n : Nat), ∀ (x1 : Int32) (x2 : Int32) (x3 : Int32) (x4 : Int32) (x5 : Int32) (x6 : Int32) (x7 : Int32) (x8 : Int32) (z0 : Int32) (M : oa_M), BX5_fieldOf_123 n x1 x2 x3 x4 x5 x6 x7 x8 z0 M = some o → ∀ (H : Heap) (locs : List Loc), oa_H D ca ad M H → va_S (fun q => b0 ≤ q) s.heap H locs → ∀ (ls : Array Slot), lv_has ls 9 [(0, .ref (ad 20 0)), (1, .int x1), (2, .int x2), (3, .int x3), (4, .int x4), (5, .int x5), (6, .int x6), (7, .int x7), (8, .int x8)] → W p l e ({ frames := 1, cells := 0, slots := 0, locals := 22 } : Room) s m args below meth c H locs 0 0 (MQ below (va_Qi (fun (r' : Int32) (u : oa_M) => r' = o.1 ∧ u = o.2) (fun u t => oa_H D ca ad u t.heap) (fun q => b0 ≤ q)) args s 0 0 (fun q => b0 ≤ q)) (F0 m 123 ls [.int z0]) := by
  obtain ⟨hx, hb, hml, hr, hlocks, hown, hts, hE, hw⟩ := id C
  intro n x1 x2 x3 x4 x5 x6 x7 x8 z0 M hf H locs hH hS ls hl
  unfold BX5_fieldOf_123 at hf
  cases hf
  exact oa_reti hx hb hr hlocks rfl hS hH dX5_fieldOf_123
set_option maxHeartbeats 4000000 in
set_option maxRecDepth 100000 in
theorem bX5_fieldOf_93 {p : Program} {l : Launch} {e : Env} {s : State} {m : MethodId} {args : Array Value} {below : List Frame} {meth : Method} {c : Code} {D : va_G} {ca : Nat → ClassId} {ad : Nat → Nat → Nat} {b0 : Nat} {o : Int32 × oa_M} (C : oa_Cx p s m args meth c cX5_fieldOf 9 (some .int) RX5 D ca b0 ad) : ∀ (n : Nat), ∀ (x1 : Int32) (x2 : Int32) (x3 : Int32) (x4 : Int32) (x5 : Int32) (x6 : Int32) (x7 : Int32) (z0 : Int32) (M : oa_M), BX5_fieldOf_93 n x1 x2 x3 x4 x5 x6 x7 z0 M = some o → ∀ (H : Heap) (locs : List Loc), oa_H D ca ad M H → va_S (fun q => b0 ≤ q) s.heap H locs → ∀ (ls : Array Slot), lv_has ls 9 [(0, .ref (ad 20 0)), (1, .int x1), (2, .int x2), (3, .int x3), (4, .int x4), (5, .int x5), (6, .int x6), (7, .int x7)] → W p l e ({ frames := 1, cells := 0, slots := 0, locals := 22 } : Room) s m args below meth c H locs 0 0 (MQ below (va_Qi (fun (r' : Int32) (u : oa_M) => r' = o.1 ∧ u = o.2) (fun u t => oa_H D ca ad u t.heap) (fun q => b0 ≤ q)) args s 0 0 (fun q => b0 ≤ q)) (F0 m 93 ls [.int z0]) := by
  obtain ⟨hx, hb, hml, hr, hlocks, hown, hts, hE, hw⟩ := id C
  intro n x1 x2 x3 x4 x5 x6 x7 z0 M hf H locs hH hS ls hl
  unfold BX5_fieldOf_93 at hf
  refine lv_istore (lv' := [(8, .int z0), (0, .ref (ad 20 0)), (1, .int x1), (2, .int x2), (3, .int x3), (4, .int x4), (5, .int x5), (6, .int x6), (7, .int x7)]) hx hb dX5_fieldOf_93 hl (by decide) rfl (fun ls hl => ?_)
  refine lv_iload hx hb dX5_fieldOf_95 (lv_at hl 7 rfl) ?_
  refine lv_iload hx hb dX5_fieldOf_97 (lv_at hl 0 rfl) ?_
  refine lv_iload hx hb dX5_fieldOf_99 (lv_at hl 0 rfl) ?_
  refine lv_iload hx hb dX5_fieldOf_101 (lv_at hl 8 rfl) ?_
  refine lv_iadd hx hb dX5_fieldOf_103 ?_
  refine lv_iconst (v := (1 : Int32)) hx hb dX5_fieldOf_104 (by decide) ?_
  refine lv_isub hx hb dX5_fieldOf_105 ?_
  obtain ⟨r1, M2, hc3, hf⟩ := oa_bdE hf
  refine oa_csi (As := [.int x6, .int z0, .int ((z0 + x7) - (1 : Int32))]) (rest := []) ⟨hx, hb, hml, hown, hts⟩ (cX5_outside_ok l D ca ad b0 hw n x6 z0 ((z0 + x7) - (1 : Int32)) _ _ _ hc3) (va_cwS 3 hts (oa_gS tw_753 tw_754 tw_49 tw_755) rfl rfl rfl (by decide +kernel) ⟨Nat.le_of_ble_eq_true rfl, Nat.le_of_ble_eq_true rfl⟩) hE hH hS rfl hl.1 rfl (Nat.le_of_ble_eq_true rfl) dX5_fieldOf_106 ⟨by decide, by decide⟩ (fun H locs hH hS => ?_)
  refine lv_if_eq (tgt := 116) hx hb dX5_fieldOf_109 (by decide) (fun hq4 => ?_) (fun hq4 => ?_)
  · rw [if_pos hq4] at hf
    refine lv_iload hx hb dX5_fieldOf_116 (lv_at hl 7 rfl) ?_
    refine lv_iload hx hb dX5_fieldOf_118 (lv_at hl 8 rfl) ?_
    refine lv_iconst (v := (1 : Int32)) hx hb dX5_fieldOf_120 (by decide) ?_
    refine lv_isub hx hb dX5_fieldOf_121 ?_
    refine lv_iand hx hb dX5_fieldOf_122 ?_
    exact bX5_fieldOf_123 C n x1 x2 x3 x4 x5 x6 x7 z0 (x6 &&& (x7 - (1 : Int32))) _ hf _ _ hH hS _ (lv_sub hl [1, 2, 3, 4, 5, 6, 7, 8, 0] rfl)
  · rw [if_neg hq4] at hf
    refine lv_iconst (v := (-1 : Int32)) hx hb dX5_fieldOf_112 (by decide) ?_
    refine lv_goto (tgt := 123) hx hb dX5_fieldOf_113 (by decide) ?_
    exact bX5_fieldOf_123 C n x1 x2 x3 x4 x5 x6 x7 z0 (-1 : Int32) _ hf _ _ hH hS _ (lv_sub hl [1, 2, 3, 4, 5, 6, 7, 8, 0] rfl)
set_option maxHeartbeats 4000000 in
set_option maxRecDepth 100000 in
theorem bX5_fieldOf_33 {p : Program} {l : Launch} {e : Env} {s : State} {m : MethodId} {args : Array Value} {below : List Frame} {meth : Method} {c : Code} {D : va_G} {ca : Nat → ClassId} {ad : Nat → Nat → Nat} {b0 : Nat} {o : Int32 × oa_M} (C : oa_Cx p s m args meth c cX5_fieldOf 9 (some .int) RX5 D ca b0 ad) : ∀ (n : Nat), ∀ (x1 : Int32) (x2 : Int32) (x3 : Int32) (x4 : Int32) (x5 : Int32) (z0 : Int32) (z1 : Int32) (M : oa_M), BX5_fieldOf_33 n x1 x2 x3 x4 x5 z0 z1 M = some o → ∀ (H : Heap) (locs : List Loc), oa_H D ca ad M H → va_S (fun q => b0 ≤ q) s.heap H locs → ∀ (ls : Array Slot), lv_has ls 9 [(0, .ref (ad 20 0)), (1, .int x1), (2, .int x2), (3, .int x3), (4, .int x4), (5, .int x5)] → W p l e ({ frames := 1, cells := 0, slots := 0, locals := 22 } : Room) s m args below meth c H locs 0 0 (MQ below (va_Qi (fun (r' : Int32) (u : oa_M) => r' = o.1 ∧ u = o.2) (fun u t => oa_H D ca ad u t.heap) (fun q => b0 ≤ q)) args s 0 0 (fun q => b0 ≤ q)) (F0 m 33 ls [.int z1, .int z0]) := by
  obtain ⟨hx, hb, hml, hr, hlocks, hown, hts, hE, hw⟩ := id C
  intro n x1 x2 x3 x4 x5 z0 z1 M hf H locs hH hS ls hl
  unfold BX5_fieldOf_33 at hf
  refine lv_isub hx hb dX5_fieldOf_33 ?_
  refine lv_istore (lv' := [(6, .int (z0 - z1)), (0, .ref (ad 20 0)), (1, .int x1), (2, .int x2), (3, .int x3), (4, .int x4), (5, .int x5)]) hx hb dX5_fieldOf_34 hl (by decide) rfl (fun ls hl => ?_)
  refine lv_iload hx hb dX5_fieldOf_36 (lv_at hl 0 rfl) ?_
  refine lv_aload_n hx hb dX5_fieldOf_38 rfl (lv_at hl 1 rfl) ?_
  refine oa_get (ci := 5) (C := RX5) (T := TX5) (N := 31) (v := .ref (ad 31 0)) hx hb hts inX5 hown hE hH 20 0 (by decide) rfl rfl 11 (by decide) (hts _ tw_626) rfl dX5_fieldOf_39 ?_
  refine lv_iload hx hb dX5_fieldOf_42 (lv_at hl 6 rfl) ?_
  obtain ⟨hk1, hf⟩ := oa_ck hf
  refine oa_ild (v := (M 31 0 x5.toNatClampNeg)) hx hb hE hH 31 0 (by decide) 36 rfl rfl (oa_in_vp hk1) dX5_fieldOf_44 ?_
  obtain ⟨hk2, hf⟩ := oa_ck hf
  refine lv_irem hx hb dX5_fieldOf_45 hk2 ?_
  refine lv_if_eq (tgt := 51) hx hb dX5_fieldOf_46 (by decide) (fun hq3 => ?_) (fun hq3 => ?_)
  · rw [if_pos hq3] at hf
    refine lv_iload hx hb dX5_fieldOf_51 (lv_at hl 0 rfl) ?_
    refine lv_aload_n hx hb dX5_fieldOf_53 rfl (lv_at hl 1 rfl) ?_
    refine oa_get (ci := 5) (C := RX5) (T := TX5) (N := 31) (v := .ref (ad 31 0)) hx hb hts inX5 hown hE hH 20 0 (by decide) rfl rfl 11 (by decide) (hts _ tw_626) rfl dX5_fieldOf_54 ?_
    refine lv_iload hx hb dX5_fieldOf_57 (lv_at hl 6 rfl) ?_
    obtain ⟨hk4, hf⟩ := oa_ck hf
    refine oa_ild (v := (M 31 0 x5.toNatClampNeg)) hx hb hE hH 31 0 (by decide) 36 rfl rfl (oa_in_vp hk4) dX5_fieldOf_59 ?_
    obtain ⟨hk5, hf⟩ := oa_ck hf
    refine lv_idiv hx hb dX5_fieldOf_60 hk5 ?_
    refine lv_istore (lv' := [(6, .int ((z0 - z1) / (M 31 0 x5.toNatClampNeg))), (0, .ref (ad 20 0)), (1, .int x1), (2, .int x2), (3, .int x3), (4, .int x4), (5, .int x5)]) hx hb dX5_fieldOf_61 hl (by decide) rfl (fun ls hl => ?_)
    refine lv_iconst (v := (1 : Int32)) hx hb dX5_fieldOf_63 (by decide) ?_
    refine lv_aload_n hx hb dX5_fieldOf_64 rfl (lv_at hl 1 rfl) ?_
    refine oa_get (ci := 5) (C := RX5) (T := TX5) (N := 31) (v := .ref (ad 29 0)) hx hb hts inX5 hown hE hH 20 0 (by decide) rfl rfl 9 (by decide) (hts _ tw_624) rfl dX5_fieldOf_65 ?_
    refine lv_iload hx hb dX5_fieldOf_68 (lv_at hl 6 rfl) ?_
    obtain ⟨hk6, hf⟩ := oa_ck hf
    refine oa_ild (v := (M 29 0 x5.toNatClampNeg)) hx hb hE hH 29 0 (by decide) 36 rfl rfl (oa_in_vp hk6) dX5_fieldOf_70 ?_
    refine lv_ishl hx hb dX5_fieldOf_71 ?_
    refine lv_istore (lv' := [(7, .int ((1 : Int32) <<< ((M 29 0 x5.toNatClampNeg) &&& 31))), (6, .int ((z0 - z1) / (M 31 0 x5.toNatClampNeg))), (0, .ref (ad 20 0)), (1, .int x1), (2, .int x2), (3, .int x3), (4, .int x4), (5, .int x5)]) hx hb dX5_fieldOf_72 hl (by decide) rfl (fun ls hl => ?_)
    refine lv_aload_n hx hb dX5_fieldOf_74 rfl (lv_at hl 2 rfl) ?_
    refine oa_get (ci := 5) (C := RX5) (T := TX5) (N := 31) (v := .ref (ad 30 0)) hx hb hts inX5 hown hE hH 20 0 (by decide) rfl rfl 10 (by decide) (hts _ tw_625) rfl dX5_fieldOf_75 ?_
    refine lv_iload hx hb dX5_fieldOf_78 (lv_at hl 7 rfl) ?_
    obtain ⟨hk7, hf⟩ := oa_ck hf
    refine oa_ild (v := (M 30 0 x5.toNatClampNeg)) hx hb hE hH 30 0 (by decide) 36 rfl rfl (oa_in_vp hk7) dX5_fieldOf_80 ?_
    refine lv_if_le (tgt := 92) hx hb dX5_fieldOf_81 (by decide) (fun hq8 => ?_) (fun hq8 => ?_)
    · rw [if_pos hq8] at hf
      refine lv_iconst (v := (0 : Int32)) hx hb dX5_fieldOf_92 (by decide) ?_
      exact bX5_fieldOf_93 C n x1 x2 x3 x4 x5 ((z0 - z1) / (M 31 0 x5.toNatClampNeg)) ((1 : Int32) <<< ((M 29 0 x5.toNatClampNeg) &&& 31)) (0 : Int32) _ hf _ _ hH hS _ (lv_sub hl [2, 3, 4, 5, 6, 7, 1, 0] rfl)
    · rw [if_neg hq8] at hf
      refine lv_iload hx hb dX5_fieldOf_84 (lv_at hl 0 rfl) ?_
      refine lv_ineg hx hb dX5_fieldOf_86 ?_
      refine lv_iconst (v := (2 : Int32)) hx hb dX5_fieldOf_87 (by decide) ?_
      refine lv_idiv hx hb dX5_fieldOf_88 (by decide) ?_
      refine lv_goto (tgt := 93) hx hb dX5_fieldOf_89 (by decide) ?_
      exact bX5_fieldOf_93 C n x1 x2 x3 x4 x5 ((z0 - z1) / (M 31 0 x5.toNatClampNeg)) ((1 : Int32) <<< ((M 29 0 x5.toNatClampNeg) &&& 31)) ((-((1 : Int32) <<< ((M 29 0 x5.toNatClampNeg) &&& 31))) / (2 : Int32)) _ hf _ _ hH hS _ (lv_sub hl [2, 3, 4, 5, 6, 7, 1, 0] rfl)
  · rw [if_neg hq3] at hf
    refine lv_iconst (v := (-1 : Int32)) hx hb dX5_fieldOf_49 (by decide) ?_
    cases hf
    exact oa_reti hx hb hr hlocks rfl hS hH dX5_fieldOf_50
set_option maxHeartbeats 4000000 in
set_option maxRecDepth 100000 in
theorem cX5_fieldOf_k (l : Launch) (D : va_G) (ca : Nat → ClassId) (ad : Nat → Nat → Nat) (b0 : Nat) (hw : oa_W ad b0) (n : Nat) (x1 : Int32) (x2 : Int32) (x3 : Int32) (x4 : Int32) (M : oa_M) (o : Int32 × oa_M) (hf : FX5_fieldOf n x1 x2 x3 x4 M = some o) : oa_Mi l yX5_fieldOf (oa_w yX5_fieldOf cX5_fieldOf 9 (some .int)) ({ frames := 1, cells := 0, slots := 0, locals := 22 } : Room) D ca ad b0 [.ref (ad 20 0), .int x1, .int x2, .int x3, .int x4] M o.1 o.2 := by
  refine oa_ofW (cc := cX5_fieldOf) (maxL := 9) (ret := some .int) (by decide) rfl (Nat.le_of_ble_eq_true rfl) ?_
  intro p e s m below meth c hx hb hml hr hlocks hown hts0 hP ls hl
  obtain ⟨hH, hE⟩ := hP
  have hts : ∀ w ∈ oa_T, w.before _ s = true := fun w h => hts0 w (List.mem_cons_of_mem _ h)
  have hS : va_S (fun q => b0 ≤ q) s.heap s.heap [] := va_S.rf
  have C : oa_Cx p s m _ meth c cX5_fieldOf 9 (some .int) RX5 D ca b0 ad := ⟨hx, hb, hml, hr, hlocks, hown, hts, hE, hw⟩
  have hl : lv_has ls 9 [(0, .ref (ad 20 0)), (1, .int x1), (2, .int x2), (3, .int x3), (4, .int x4)] := hl
  unfold FX5_fieldOf at hf
  refine lv_iconst (v := (3 : Int32)) hx hb dX5_fieldOf_0 (by decide) ?_
  refine lv_iload_n hx hb dX5_fieldOf_1 rfl (lv_at hl 1 rfl) ?_
  refine lv_imul hx hb dX5_fieldOf_2 ?_
  refine lv_iload_n hx hb dX5_fieldOf_3 rfl (lv_at hl 2 rfl) ?_
  refine lv_iadd hx hb dX5_fieldOf_4 ?_
  refine lv_istore (lv' := [(5, .int (((3 : Int32) * x1) + x2)), (0, .ref (ad 20 0)), (1, .int x1), (2, .int x2), (3, .int x3), (4, .int x4)]) hx hb dX5_fieldOf_5 hl (by decide) rfl (fun ls hl => ?_)
  refine lv_iload_n hx hb dX5_fieldOf_7 rfl (lv_at hl 4 rfl) ?_
  refine lv_aload_n hx hb dX5_fieldOf_8 rfl (lv_at hl 1 rfl) ?_
  refine oa_get (ci := 5) (C := RX5) (T := TX5) (N := 31) (v := .ref (ad 32 0)) hx hb hts inX5 hown hE hH 20 0 (by decide) rfl rfl 12 (by decide) (hts _ tw_627) rfl dX5_fieldOf_9 ?_
  refine lv_iload hx hb dX5_fieldOf_12 (lv_at hl 0 rfl) ?_
  obtain ⟨hk1, hf⟩ := oa_ck hf
  refine oa_ild (v := (M 32 0 (((3 : Int32) * x1) + x2).toNatClampNeg)) hx hb hE hH 32 0 (by decide) 36 rfl rfl (oa_in_vp hk1) dX5_fieldOf_14 ?_
  refine lv_isub hx hb dX5_fieldOf_15 ?_
  refine lv_aload_n hx hb dX5_fieldOf_16 rfl (lv_at hl 1 rfl) ?_
  refine oa_get (ci := 5) (C := RX5) (T := TX5) (N := 31) (v := .ref (ad 30 0)) hx hb hts inX5 hown hE hH 20 0 (by decide) rfl rfl 10 (by decide) (hts _ tw_625) rfl dX5_fieldOf_17 ?_
  refine lv_iload hx hb dX5_fieldOf_20 (lv_at hl 0 rfl) ?_
  obtain ⟨hk2, hf⟩ := oa_ck hf
  refine oa_ild (v := (M 30 0 (((3 : Int32) * x1) + x2).toNatClampNeg)) hx hb hE hH 30 0 (by decide) 36 rfl rfl (oa_in_vp hk2) dX5_fieldOf_22 ?_
  refine lv_iconst (v := (2 : Int32)) hx hb dX5_fieldOf_23 (by decide) ?_
  refine lv_icmp_ne (tgt := 32) hx hb dX5_fieldOf_24 (by decide) (fun hq3 => ?_) (fun hq3 => ?_)
  · rw [if_neg hq3] at hf
    refine lv_iconst (v := (0 : Int32)) hx hb dX5_fieldOf_32 (by decide) ?_
    exact bX5_fieldOf_33 C n x1 x2 x3 x4 (((3 : Int32) * x1) + x2) (x3 - (M 32 0 (((3 : Int32) * x1) + x2).toNatClampNeg)) (0 : Int32) _ hf _ _ hH hS _ (lv_sub hl [1, 2, 3, 4, 5, 0] rfl)
  · rw [if_pos hq3] at hf
    refine lv_iload hx hb dX5_fieldOf_27 (lv_at hl 5 rfl) ?_
    refine lv_goto (tgt := 33) hx hb dX5_fieldOf_29 (by decide) ?_
    exact bX5_fieldOf_33 C n x1 x2 x3 x4 (((3 : Int32) * x1) + x2) (x3 - (M 32 0 (((3 : Int32) * x1) + x2).toNatClampNeg)) x4 _ hf _ _ hH hS _ (lv_sub hl [1, 2, 3, 4, 5, 0] rfl)
theorem cX5_fieldOf_ok (l : Launch) (D : va_G) (ca : Nat → ClassId) (ad : Nat → Nat → Nat) (b0 : Nat) (hw : oa_W ad b0) (n : Nat) (x1 : Int32) (x2 : Int32) (x3 : Int32) (x4 : Int32) (M : oa_M) (r : Int32) (M' : oa_M) (hf : FX5_fieldOf n x1 x2 x3 x4 M = some (r, M')) : oa_Mi l yX5_fieldOf (oa_w yX5_fieldOf cX5_fieldOf 9 (some .int)) ({ frames := 1, cells := 0, slots := 0, locals := 22 } : Room) D ca ad b0 [.ref (ad 20 0), .int x1, .int x2, .int x3, .int x4] M r M' := cX5_fieldOf_k l D ca ad b0 hw n x1 x2 x3 x4 M (r, M') hf
def BX5_laid_277 (rec228 : Int32 → Int32 → Int32 → Int32 → oa_M → Option (Int32 × oa_M)) (n : Nat) (x1 : Int32) (x2 : Int32) (x3 : Int32) (x4 : Int32) (z1 : Int32) (z2 : Int32) (z3 : Int32) (M : oa_M) : Option (Int32 × oa_M) := (if oa_in z1 64 = true then (rec228 x1 x2 x3 (x4 + (1 : Int32)) (oa_up M 46 0 z1.toNatClampNeg (z2 ||| z3))) else none)
def BX5_laid_228 : Nat → Int32 → Int32 → Int32 → Int32 → oa_M → Option (Int32 × oa_M)
  | 0, _, _, _, _, _ => none
  | n + 1, x1, x2, x3, x4, M => (if oa_in x2 12 = true then (if (M 26 0 x2.toNatClampNeg) ≤ x4 then (some ((1 : Int32), M)) else (if oa_in (x3 + (x4 / (8 : Int32))) 64 = true then (oa_bd (FX5_fixed n x2 x4 M) (fun r4 M5 => (if r4 = (1 : Int32) then (BX5_laid_277 (BX5_laid_228 n) n x1 x2 x3 x4 (x3 + (x4 / (8 : Int32))) (M 46 0 (x3 + (x4 / (8 : Int32))).toNatClampNeg) ((1 : Int32) <<< (((7 : Int32) - (oa_rem x4 (8 : Int32))) &&& 31)) M5) else (BX5_laid_277 (BX5_laid_228 n) n x1 x2 x3 x4 (x3 + (x4 / (8 : Int32))) (M 46 0 (x3 + (x4 / (8 : Int32))).toNatClampNeg) (0 : Int32) M5)))) else none)) else none)
def BX5_laid_213 (rec43 : Int32 → Int32 → Int32 → Int32 → oa_M → Option (Int32 × oa_M)) (rec149 : Int32 → Int32 → Int32 → Int32 → Int32 → Int32 → Int32 → Int32 → oa_M → Option (Int32 × oa_M)) (n : Nat) (x1 : Int32) (x2 : Int32) (x3 : Int32) (x4 : Int32) (x5 : Int32) (x6 : Int32) (x7 : Int32) (x8 : Int32) (M : oa_M) : Option (Int32 × oa_M) := (rec149 x1 x2 x3 x4 x5 x6 x7 (x8 + (1 : Int32)) M)
def BX5_laid_149 (rec43 : Int32 → Int32 → Int32 → Int32 → oa_M → Option (Int32 × oa_M)) : Nat → Int32 → Int32 → Int32 → Int32 → Int32 → Int32 → Int32 → Int32 → oa_M → Option (Int32 × oa_M)
  | 0, _, _, _, _, _, _, _, _, _ => none
  | n + 1, x1, x2, x3, x4, x5, x6, x7, x8, M => (if oa_in x2 12 = true then (if (M 26 0 x2.toNatClampNeg) ≤ x8 then (rec43 x1 x2 x3 (x4 + (1 : Int32)) M) else (if oa_in (((24 : Int32) * x2) + x8) 288 = true then (if (M 27 0 (((24 : Int32) * x2) + x8).toNatClampNeg) = ((2 : Int32) + x4) then (if oa_in (x3 + (x8 / (8 : Int32))) 64 = true then (if oa_in (x3 + (x8 / (8 : Int32))) 64 = true then (BX5_laid_213 rec43 (BX5_laid_149 rec43 n) n x1 x2 x3 x4 x5 x6 (x7 + (-1 : Int32)) x8 (oa_up M 46 0 (x3 + (x8 / (8 : Int32))).toNatClampNeg ((M 46 0 (x3 + (x8 / (8 : Int32))).toNatClampNeg) ||| (((x6 >>> ((x7 + (-1 : Int32)) &&& 31)) &&& (1 : Int32)) <<< (((7 : Int32) - (oa_rem x8 (8 : Int32))) &&& 31))))) else none) else none) else (BX5_laid_213 rec43 (BX5_laid_149 rec43 n) n x1 x2 x3 x4 x5 x6 x7 x8 M)) else none)) else none)
def BX5_laid_102 (rec43 : Int32 → Int32 → Int32 → Int32 → oa_M → Option (Int32 × oa_M)) (n : Nat) (x1 : Int32) (x2 : Int32) (x3 : Int32) (x4 : Int32) (z0 : Int32) (M : oa_M) : Option (Int32 × oa_M) := (if oa_in x2 12 = true then (oa_bd (FX5_fieldOf n x2 x4 z0 (x3 + ((M 26 0 x2.toNatClampNeg) / (8 : Int32))) M) (fun r2 M3 => (if 0 ≤ r2 then (if oa_in (((3 : Int32) * x2) + x4) 36 = true then (BX5_laid_149 rec43 n x1 x2 x3 x4 z0 r2 (M3 29 0 (((3 : Int32) * x2) + x4).toNatClampNeg) (0 : Int32) M3) else none) else (some ((0 : Int32), M3))))) else none)
def BX5_laid_43 : Nat → Int32 → Int32 → Int32 → Int32 → oa_M → Option (Int32 × oa_M)
  | 0, _, _, _, _, _ => none
  | n + 1, x1, x2, x3, x4, M => (if oa_in x2 12 = true then (if (M 28 0 x2.toNatClampNeg) ≤ x4 then (BX5_laid_228 n x1 x2 x3 (0 : Int32) M) else (if oa_in (((3 : Int32) * x1) + x4) 60 = true then (if (M 42 0 (((3 : Int32) * x1) + x4).toNatClampNeg) = 0 then (if oa_in (((3 : Int32) * x1) + x4) 60 = true then (BX5_laid_102 (BX5_laid_43 n) n x1 x2 x3 x4 (M 41 0 (((3 : Int32) * x1) + x4).toNatClampNeg) M) else none) else (if oa_in (((3 : Int32) * x1) + x4) 60 = true then (oa_bd (FX5_lineOf n (M 41 0 (((3 : Int32) * x1) + x4).toNatClampNeg) M) (fun r7 M8 => (if oa_in r7 21 = true then (BX5_laid_102 (BX5_laid_43 n) n x1 x2 x3 x4 (M8 45 0 r7.toNatClampNeg) M8) else none))) else none)) else none)) else none)
def BX5_laid_10 : Nat → Int32 → Int32 → Int32 → Int32 → oa_M → Option (Int32 × oa_M)
  | 0, _, _, _, _, _ => none
  | n + 1, x1, x2, x3, x4, M => (if oa_in x2 12 = true then (if ((M 26 0 x2.toNatClampNeg) / (8 : Int32)) ≤ x4 then (BX5_laid_43 n x1 x2 x3 (0 : Int32) M) else (if oa_in (x3 + x4) 64 = true then (BX5_laid_10 n x1 x2 x3 (x4 + (1 : Int32)) (oa_up M 46 0 (x3 + x4).toNatClampNeg (0 : Int32))) else none)) else none)
def FX5_laid (n : Nat) (x1 : Int32) (x2 : Int32) (M : oa_M) : Option (Int32 × oa_M) := (if oa_in x1 21 = true then (BX5_laid_10 n x1 x2 (M 45 0 x1.toNatClampNeg) (0 : Int32) M) else none)
set_option maxHeartbeats 4000000 in
set_option maxRecDepth 100000 in
theorem bX5_laid_277 {p : Program} {l : Launch} {e : Env} {s : State} {m : MethodId} {args : Array Value} {below : List Frame} {meth : Method} {c : Code} {D : va_G} {ca : Nat → ClassId} {ad : Nat → Nat → Nat} {b0 : Nat} {o : Int32 × oa_M} (C : oa_Cx p s m args meth c cX5_laid 9 (some .boolean) RX5 D ca b0 ad) (rec228 : Int32 → Int32 → Int32 → Int32 → oa_M → Option (Int32 × oa_M)) (hrec228 : ∀ (x1 : Int32) (x2 : Int32) (x3 : Int32) (x4 : Int32) (M : oa_M), rec228 x1 x2 x3 x4 M = some o → ∀ (H : Heap) (locs : List Loc), oa_H D ca ad M H → va_S (fun q => b0 ≤ q) s.heap H locs → ∀ (ls : Array Slot), lv_has ls 9 [(0, .ref (ad 20 0)), (1, .int x1), (2, .int x2), (3, .int x3), (4, .int x4)] → W p l e ({ frames := 2, cells := 0, slots := 0, locals := 50 } : Room) s m args below meth c H locs 0 0 (MQ below (va_Qi (fun (r' : Int32) (u : oa_M) => r' = o.1 ∧ u = o.2) (fun u t => oa_H D ca ad u t.heap) (fun q => b0 ≤ q)) args s 0 0 (fun q => b0 ≤ q)) (F0 m 228 ls [])) : ∀ (n : Nat), ∀ (x1 : Int32) (x2 : Int32) (x3 : Int32) (x4 : Int32) (z1 : Int32) (z2 : Int32) (z3 : Int32) (M : oa_M), BX5_laid_277 rec228 n x1 x2 x3 x4 z1 z2 z3 M = some o → ∀ (H : Heap) (locs : List Loc), oa_H D ca ad M H → va_S (fun q => b0 ≤ q) s.heap H locs → ∀ (ls : Array Slot), lv_has ls 9 [(0, .ref (ad 20 0)), (1, .int x1), (2, .int x2), (3, .int x3), (4, .int x4)] → W p l e ({ frames := 2, cells := 0, slots := 0, locals := 50 } : Room) s m args below meth c H locs 0 0 (MQ below (va_Qi (fun (r' : Int32) (u : oa_M) => r' = o.1 ∧ u = o.2) (fun u t => oa_H D ca ad u t.heap) (fun q => b0 ≤ q)) args s 0 0 (fun q => b0 ≤ q)) (F0 m 277 ls [.int z3, .int z2, .int z1, .ref (ad 46 0)]) := by
  obtain ⟨hx, hb, hml, hr, hlocks, hown, hts, hE, hw⟩ := id C
  intro n x1 x2 x3 x4 z1 z2 z3 M hf H locs hH hS ls hl
  unfold BX5_laid_277 at hf
  refine lv_ior hx hb dX5_laid_277 ?_
  obtain ⟨hk1, hf⟩ := oa_ck hf
  refine oa_ist hx hb hE hw hH hS 46 0 (by decide) 64 (fun _ => rfl) (oa_in_vp hk1) dX5_laid_278 (fun H locs hH hS => ?_)
  refine lv_iinc (v := (x4 + (1 : Int32))) (lv' := [(4, .int (x4 + (1 : Int32))), (0, .ref (ad 20 0)), (1, .int x1), (2, .int x2), (3, .int x3)]) hx hb dX5_laid_279 hl (k := 4) rfl rfl (by decide) rfl (fun ls hl => ?_)
  refine lv_goto (tgt := 228) hx hb dX5_laid_282 (by decide) ?_
  exact hrec228 x1 x2 x3 (x4 + (1 : Int32)) _ hf _ _ hH hS _ (lv_sub hl [1, 2, 3, 4, 0] rfl)
set_option maxHeartbeats 4000000 in
set_option maxRecDepth 100000 in
theorem bX5_laid_228 {p : Program} {l : Launch} {e : Env} {s : State} {m : MethodId} {args : Array Value} {below : List Frame} {meth : Method} {c : Code} {D : va_G} {ca : Nat → ClassId} {ad : Nat → Nat → Nat} {b0 : Nat} {o : Int32 × oa_M} (C : oa_Cx p s m args meth c cX5_laid 9 (some .boolean) RX5 D ca b0 ad) : ∀ (n : Nat), ∀ (x1 : Int32) (x2 : Int32) (x3 : Int32) (x4 : Int32) (M : oa_M), BX5_laid_228 n x1 x2 x3 x4 M = some o → ∀ (H : Heap) (locs : List Loc), oa_H D ca ad M H → va_S (fun q => b0 ≤ q) s.heap H locs → ∀ (ls : Array Slot), lv_has ls 9 [(0, .ref (ad 20 0)), (1, .int x1), (2, .int x2), (3, .int x3), (4, .int x4)] → W p l e ({ frames := 2, cells := 0, slots := 0, locals := 50 } : Room) s m args below meth c H locs 0 0 (MQ below (va_Qi (fun (r' : Int32) (u : oa_M) => r' = o.1 ∧ u = o.2) (fun u t => oa_H D ca ad u t.heap) (fun q => b0 ≤ q)) args s 0 0 (fun q => b0 ≤ q)) (F0 m 228 ls []) := by
  obtain ⟨hx, hb, hml, hr, hlocks, hown, hts, hE, hw⟩ := id C
  intro n
  induction n with
  | zero => intro x1 x2 x3 x4 M hf; cases hf
  | succ n ih =>
    intro x1 x2 x3 x4 M hf H locs hH hS ls hl
    have hrec228 := ih
    unfold BX5_laid_228 at hf
    refine lv_iload hx hb dX5_laid_228 (lv_at hl 4 rfl) ?_
    refine lv_aload_n hx hb dX5_laid_230 rfl (lv_at hl 0 rfl) ?_
    refine oa_get (ci := 5) (C := RX5) (T := TX5) (N := 31) (v := .ref (ad 26 0)) hx hb hts inX5 hown hE hH 20 0 (by decide) rfl rfl 6 (by decide) (hts _ tw_621) rfl dX5_laid_231 ?_
    refine lv_iload_n hx hb dX5_laid_234 rfl (lv_at hl 2 rfl) ?_
    obtain ⟨hk1, hf⟩ := oa_ck hf
    refine oa_ild (v := (M 26 0 x2.toNatClampNeg)) hx hb hE hH 26 0 (by decide) 12 rfl rfl (oa_in_vp hk1) dX5_laid_235 ?_
    refine lv_icmp_ge (tgt := 285) hx hb dX5_laid_236 (by decide) (fun hq2 => ?_) (fun hq2 => ?_)
    · rw [if_pos hq2] at hf
      refine lv_iconst (v := (1 : Int32)) hx hb dX5_laid_285 (by decide) ?_
      cases hf
      exact oa_reti hx hb hr hlocks rfl hS hH dX5_laid_286
    · rw [if_neg hq2] at hf
      refine lv_aload_n hx hb dX5_laid_239 rfl (lv_at hl 0 rfl) ?_
      refine oa_get (ci := 5) (C := RX5) (T := TX5) (N := 31) (v := .ref (ad 46 0)) hx hb hts inX5 hown hE hH 20 0 (by decide) rfl rfl 26 (by decide) (hts _ tw_641) rfl dX5_laid_240 ?_
      refine lv_iload_n hx hb dX5_laid_243 rfl (lv_at hl 3 rfl) ?_
      refine lv_iload hx hb dX5_laid_244 (lv_at hl 4 rfl) ?_
      refine lv_bipush (v := (8 : Int32)) hx hb dX5_laid_246 (by decide) ?_
      refine lv_idiv hx hb dX5_laid_248 (by decide) ?_
      refine lv_iadd hx hb dX5_laid_249 ?_
      refine lv_dup2_11 hx hb dX5_laid_250 rfl rfl ?_
      obtain ⟨hk3, hf⟩ := oa_ck hf
      refine oa_ild (v := (M 46 0 (x3 + (x4 / (8 : Int32))).toNatClampNeg)) hx hb hE hH 46 0 (by decide) 64 rfl rfl (oa_in_vp hk3) dX5_laid_251 ?_
      refine lv_aload_n hx hb dX5_laid_252 rfl (lv_at hl 0 rfl) ?_
      refine lv_iload_n hx hb dX5_laid_253 rfl (lv_at hl 2 rfl) ?_
      refine lv_iload hx hb dX5_laid_254 (lv_at hl 4 rfl) ?_
      obtain ⟨r4, M5, hc6, hf⟩ := oa_bdE hf
      refine oa_cvi (As := [.int x2, .int x4]) (rest := [.int (M 46 0 (x3 + (x4 / (8 : Int32))).toNatClampNeg), .int (x3 + (x4 / (8 : Int32))), .ref (ad 46 0)]) ⟨hx, hb, hml, hown, hts⟩ (cX5_fixed_ok l D ca ad b0 hw n x2 x4 _ _ _ hc6) (cwV 2 hts (oa_gV tw_764 tw_766 tw_27 tw_49 tw_767) rfl rfl rfl (by decide +kernel) ⟨Nat.le_of_ble_eq_true rfl, Nat.le_of_ble_eq_true rfl⟩) hE hH hS (oa_recv (k := 20) (ci := 5) hE hH (by decide) rfl rfl) rfl hl.1 rfl (Nat.le_of_ble_eq_true rfl) dX5_laid_256 ⟨by decide, by decide⟩ (fun H locs hH hS => ?_)
      refine lv_iconst (v := (1 : Int32)) hx hb dX5_laid_259 (by decide) ?_
      refine lv_icmp_ne (tgt := 276) hx hb dX5_laid_260 (by decide) (fun hq7 => ?_) (fun hq7 => ?_)
      · rw [if_neg hq7] at hf
        refine lv_iconst (v := (0 : Int32)) hx hb dX5_laid_276 (by decide) ?_
        exact bX5_laid_277 C _ hrec228 n x1 x2 x3 x4 (x3 + (x4 / (8 : Int32))) (M 46 0 (x3 + (x4 / (8 : Int32))).toNatClampNeg) (0 : Int32) _ hf _ _ hH hS _ (lv_sub hl [0, 1, 2, 3, 4] rfl)
      · rw [if_pos hq7] at hf
        refine lv_iconst (v := (1 : Int32)) hx hb dX5_laid_263 (by decide) ?_
        refine lv_bipush (v := (7 : Int32)) hx hb dX5_laid_264 (by decide) ?_
        refine lv_iload hx hb dX5_laid_266 (lv_at hl 4 rfl) ?_
        refine lv_bipush (v := (8 : Int32)) hx hb dX5_laid_268 (by decide) ?_
        refine lv_irem hx hb dX5_laid_270 (by decide) ?_
        refine lv_isub hx hb dX5_laid_271 ?_
        refine lv_ishl hx hb dX5_laid_272 ?_
        refine lv_goto (tgt := 277) hx hb dX5_laid_273 (by decide) ?_
        exact bX5_laid_277 C _ hrec228 n x1 x2 x3 x4 (x3 + (x4 / (8 : Int32))) (M 46 0 (x3 + (x4 / (8 : Int32))).toNatClampNeg) ((1 : Int32) <<< (((7 : Int32) - (oa_rem x4 (8 : Int32))) &&& 31)) _ hf _ _ hH hS _ (lv_sub hl [0, 1, 2, 3, 4] rfl)
set_option maxHeartbeats 4000000 in
set_option maxRecDepth 100000 in
theorem bX5_laid_213 {p : Program} {l : Launch} {e : Env} {s : State} {m : MethodId} {args : Array Value} {below : List Frame} {meth : Method} {c : Code} {D : va_G} {ca : Nat → ClassId} {ad : Nat → Nat → Nat} {b0 : Nat} {o : Int32 × oa_M} (C : oa_Cx p s m args meth c cX5_laid 9 (some .boolean) RX5 D ca b0 ad) (rec43 : Int32 → Int32 → Int32 → Int32 → oa_M → Option (Int32 × oa_M)) (hrec43 : ∀ (x1 : Int32) (x2 : Int32) (x3 : Int32) (x4 : Int32) (M : oa_M), rec43 x1 x2 x3 x4 M = some o → ∀ (H : Heap) (locs : List Loc), oa_H D ca ad M H → va_S (fun q => b0 ≤ q) s.heap H locs → ∀ (ls : Array Slot), lv_has ls 9 [(0, .ref (ad 20 0)), (1, .int x1), (2, .int x2), (3, .int x3), (4, .int x4)] → W p l e ({ frames := 2, cells := 0, slots := 0, locals := 50 } : Room) s m args below meth c H locs 0 0 (MQ below (va_Qi (fun (r' : Int32) (u : oa_M) => r' = o.1 ∧ u = o.2) (fun u t => oa_H D ca ad u t.heap) (fun q => b0 ≤ q)) args s 0 0 (fun q => b0 ≤ q)) (F0 m 43 ls [])) (rec149 : Int32 → Int32 → Int32 → Int32 → Int32 → Int32 → Int32 → Int32 → oa_M → Option (Int32 × oa_M)) (hrec149 : ∀ (x1 : Int32) (x2 : Int32) (x3 : Int32) (x4 : Int32) (x5 : Int32) (x6 : Int32) (x7 : Int32) (x8 : Int32) (M : oa_M), rec149 x1 x2 x3 x4 x5 x6 x7 x8 M = some o → ∀ (H : Heap) (locs : List Loc), oa_H D ca ad M H → va_S (fun q => b0 ≤ q) s.heap H locs → ∀ (ls : Array Slot), lv_has ls 9 [(0, .ref (ad 20 0)), (1, .int x1), (2, .int x2), (3, .int x3), (4, .int x4), (5, .int x5), (6, .int x6), (7, .int x7), (8, .int x8)] → W p l e ({ frames := 2, cells := 0, slots := 0, locals := 50 } : Room) s m args below meth c H locs 0 0 (MQ below (va_Qi (fun (r' : Int32) (u : oa_M) => r' = o.1 ∧ u = o.2) (fun u t => oa_H D ca ad u t.heap) (fun q => b0 ≤ q)) args s 0 0 (fun q => b0 ≤ q)) (F0 m 149 ls [])) : ∀ (n : Nat), ∀ (x1 : Int32) (x2 : Int32) (x3 : Int32) (x4 : Int32) (x5 : Int32) (x6 : Int32) (x7 : Int32) (x8 : Int32) (M : oa_M), BX5_laid_213 rec43 rec149 n x1 x2 x3 x4 x5 x6 x7 x8 M = some o → ∀ (H : Heap) (locs : List Loc), oa_H D ca ad M H → va_S (fun q => b0 ≤ q) s.heap H locs → ∀ (ls : Array Slot), lv_has ls 9 [(0, .ref (ad 20 0)), (1, .int x1), (2, .int x2), (3, .int x3), (4, .int x4), (5, .int x5), (6, .int x6), (7, .int x7), (8, .int x8)] → W p l e ({ frames := 2, cells := 0, slots := 0, locals := 50 } : Room) s m args below meth c H locs 0 0 (MQ below (va_Qi (fun (r' : Int32) (u : oa_M) => r' = o.1 ∧ u = o.2) (fun u t => oa_H D ca ad u t.heap) (fun q => b0 ≤ q)) args s 0 0 (fun q => b0 ≤ q)) (F0 m 213 ls []) := by
  obtain ⟨hx, hb, hml, hr, hlocks, hown, hts, hE, hw⟩ := id C
  intro n x1 x2 x3 x4 x5 x6 x7 x8 M hf H locs hH hS ls hl
  unfold BX5_laid_213 at hf
  refine lv_iinc (v := (x8 + (1 : Int32))) (lv' := [(8, .int (x8 + (1 : Int32))), (0, .ref (ad 20 0)), (1, .int x1), (2, .int x2), (3, .int x3), (4, .int x4), (5, .int x5), (6, .int x6), (7, .int x7)]) hx hb dX5_laid_213 hl (k := 8) rfl rfl (by decide) rfl (fun ls hl => ?_)
  refine lv_goto (tgt := 149) hx hb dX5_laid_216 (by decide) ?_
  exact hrec149 x1 x2 x3 x4 x5 x6 x7 (x8 + (1 : Int32)) _ hf _ _ hH hS _ (lv_sub hl [1, 2, 3, 4, 5, 6, 7, 8, 0] rfl)
set_option maxHeartbeats 4000000 in
set_option maxRecDepth 100000 in
theorem bX5_laid_149 {p : Program} {l : Launch} {e : Env} {s : State} {m : MethodId} {args : Array Value} {below : List Frame} {meth : Method} {c : Code} {D : va_G} {ca : Nat → ClassId} {ad : Nat → Nat → Nat} {b0 : Nat} {o : Int32 × oa_M} (C : oa_Cx p s m args meth c cX5_laid 9 (some .boolean) RX5 D ca b0 ad) (rec43 : Int32 → Int32 → Int32 → Int32 → oa_M → Option (Int32 × oa_M)) (hrec43 : ∀ (x1 : Int32) (x2 : Int32) (x3 : Int32) (x4 : Int32) (M : oa_M), rec43 x1 x2 x3 x4 M = some o → ∀ (H : Heap) (locs : List Loc), oa_H D ca ad M H → va_S (fun q => b0 ≤ q) s.heap H locs → ∀ (ls : Array Slot), lv_has ls 9 [(0, .ref (ad 20 0)), (1, .int x1), (2, .int x2), (3, .int x3), (4, .int x4)] → W p l e ({ frames := 2, cells := 0, slots := 0, locals := 50 } : Room) s m args below meth c H locs 0 0 (MQ below (va_Qi (fun (r' : Int32) (u : oa_M) => r' = o.1 ∧ u = o.2) (fun u t => oa_H D ca ad u t.heap) (fun q => b0 ≤ q)) args s 0 0 (fun q => b0 ≤ q)) (F0 m 43 ls [])) : ∀ (n : Nat), ∀ (x1 : Int32) (x2 : Int32) (x3 : Int32) (x4 : Int32) (x5 : Int32) (x6 : Int32) (x7 : Int32) (x8 : Int32) (M : oa_M), BX5_laid_149 rec43 n x1 x2 x3 x4 x5 x6 x7 x8 M = some o → ∀ (H : Heap) (locs : List Loc), oa_H D ca ad M H → va_S (fun q => b0 ≤ q) s.heap H locs → ∀ (ls : Array Slot), lv_has ls 9 [(0, .ref (ad 20 0)), (1, .int x1), (2, .int x2), (3, .int x3), (4, .int x4), (5, .int x5), (6, .int x6), (7, .int x7), (8, .int x8)] → W p l e ({ frames := 2, cells := 0, slots := 0, locals := 50 } : Room) s m args below meth c H locs 0 0 (MQ below (va_Qi (fun (r' : Int32) (u : oa_M) => r' = o.1 ∧ u = o.2) (fun u t => oa_H D ca ad u t.heap) (fun q => b0 ≤ q)) args s 0 0 (fun q => b0 ≤ q)) (F0 m 149 ls []) := by
  obtain ⟨hx, hb, hml, hr, hlocks, hown, hts, hE, hw⟩ := id C
  intro n
  induction n with
  | zero => intro x1 x2 x3 x4 x5 x6 x7 x8 M hf; cases hf
  | succ n ih =>
    intro x1 x2 x3 x4 x5 x6 x7 x8 M hf H locs hH hS ls hl
    have hrec149 := ih
    unfold BX5_laid_149 at hf
    refine lv_iload hx hb dX5_laid_149 (lv_at hl 8 rfl) ?_
    refine lv_aload_n hx hb dX5_laid_151 rfl (lv_at hl 0 rfl) ?_
    refine oa_get (ci := 5) (C := RX5) (T := TX5) (N := 31) (v := .ref (ad 26 0)) hx hb hts inX5 hown hE hH 20 0 (by decide) rfl rfl 6 (by decide) (hts _ tw_621) rfl dX5_laid_152 ?_
    refine lv_iload_n hx hb dX5_laid_155 rfl (lv_at hl 2 rfl) ?_
    obtain ⟨hk1, hf⟩ := oa_ck hf
    refine oa_ild (v := (M 26 0 x2.toNatClampNeg)) hx hb hE hH 26 0 (by decide) 12 rfl rfl (oa_in_vp hk1) dX5_laid_156 ?_
    refine lv_icmp_ge (tgt := 219) hx hb dX5_laid_157 (by decide) (fun hq2 => ?_) (fun hq2 => ?_)
    · rw [if_pos hq2] at hf
      refine lv_iinc (v := (x4 + (1 : Int32))) (lv' := [(4, .int (x4 + (1 : Int32))), (0, .ref (ad 20 0)), (1, .int x1), (2, .int x2), (3, .int x3), (5, .int x5), (6, .int x6), (7, .int x7), (8, .int x8)]) hx hb dX5_laid_219 hl (k := 4) rfl rfl (by decide) rfl (fun ls hl => ?_)
      refine lv_goto (tgt := 43) hx hb dX5_laid_222 (by decide) ?_
      exact hrec43 x1 x2 x3 (x4 + (1 : Int32)) _ hf _ _ hH hS _ (lv_sub hl [1, 2, 3, 4, 0] rfl)
    · rw [if_neg hq2] at hf
      refine lv_aload_n hx hb dX5_laid_160 rfl (lv_at hl 0 rfl) ?_
      refine oa_get (ci := 5) (C := RX5) (T := TX5) (N := 31) (v := .ref (ad 27 0)) hx hb hts inX5 hown hE hH 20 0 (by decide) rfl rfl 7 (by decide) (hts _ tw_622) rfl dX5_laid_161 ?_
      refine lv_bipush (v := (24 : Int32)) hx hb dX5_laid_164 (by decide) ?_
      refine lv_iload_n hx hb dX5_laid_166 rfl (lv_at hl 2 rfl) ?_
      refine lv_imul hx hb dX5_laid_167 ?_
      refine lv_iload hx hb dX5_laid_168 (lv_at hl 8 rfl) ?_
      refine lv_iadd hx hb dX5_laid_170 ?_
      obtain ⟨hk3, hf⟩ := oa_ck hf
      refine oa_ild (v := (M 27 0 (((24 : Int32) * x2) + x8).toNatClampNeg)) hx hb hE hH 27 0 (by decide) 288 rfl rfl (oa_in_vp hk3) dX5_laid_171 ?_
      refine lv_iconst (v := (2 : Int32)) hx hb dX5_laid_172 (by decide) ?_
      refine lv_iload hx hb dX5_laid_173 (lv_at hl 4 rfl) ?_
      refine lv_iadd hx hb dX5_laid_175 ?_
      refine lv_icmp_ne (tgt := 213) hx hb dX5_laid_176 (by decide) (fun hq4 => ?_) (fun hq4 => ?_)
      · rw [if_neg hq4] at hf
        exact bX5_laid_213 C _ hrec43 _ hrec149 n x1 x2 x3 x4 x5 x6 x7 x8 _ hf _ _ hH hS _ (lv_sub hl [0, 1, 2, 3, 4, 5, 6, 7, 8] rfl)
      · rw [if_pos hq4] at hf
        refine lv_iinc (v := (x7 + (-1 : Int32))) (lv' := [(7, .int (x7 + (-1 : Int32))), (0, .ref (ad 20 0)), (1, .int x1), (2, .int x2), (3, .int x3), (4, .int x4), (5, .int x5), (6, .int x6), (8, .int x8)]) hx hb dX5_laid_179 hl (k := 7) rfl rfl (by decide) rfl (fun ls hl => ?_)
        refine lv_aload_n hx hb dX5_laid_182 rfl (lv_at hl 1 rfl) ?_
        refine oa_get (ci := 5) (C := RX5) (T := TX5) (N := 31) (v := .ref (ad 46 0)) hx hb hts inX5 hown hE hH 20 0 (by decide) rfl rfl 26 (by decide) (hts _ tw_641) rfl dX5_laid_183 ?_
        refine lv_iload_n hx hb dX5_laid_186 rfl (lv_at hl 4 rfl) ?_
        refine lv_iload hx hb dX5_laid_187 (lv_at hl 8 rfl) ?_
        refine lv_bipush (v := (8 : Int32)) hx hb dX5_laid_189 (by decide) ?_
        refine lv_idiv hx hb dX5_laid_191 (by decide) ?_
        refine lv_iadd hx hb dX5_laid_192 ?_
        refine lv_dup2_11 hx hb dX5_laid_193 rfl rfl ?_
        obtain ⟨hk5, hf⟩ := oa_ck hf
        refine oa_ild (v := (M 46 0 (x3 + (x8 / (8 : Int32))).toNatClampNeg)) hx hb hE hH 46 0 (by decide) 64 rfl rfl (oa_in_vp hk5) dX5_laid_194 ?_
        refine lv_iload hx hb dX5_laid_195 (lv_at hl 7 rfl) ?_
        refine lv_iload hx hb dX5_laid_197 (lv_at hl 0 rfl) ?_
        refine lv_ishr hx hb dX5_laid_199 ?_
        refine lv_iconst (v := (1 : Int32)) hx hb dX5_laid_200 (by decide) ?_
        refine lv_iand hx hb dX5_laid_201 ?_
        refine lv_bipush (v := (7 : Int32)) hx hb dX5_laid_202 (by decide) ?_
        refine lv_iload hx hb dX5_laid_204 (lv_at hl 8 rfl) ?_
        refine lv_bipush (v := (8 : Int32)) hx hb dX5_laid_206 (by decide) ?_
        refine lv_irem hx hb dX5_laid_208 (by decide) ?_
        refine lv_isub hx hb dX5_laid_209 ?_
        refine lv_ishl hx hb dX5_laid_210 ?_
        refine lv_ior hx hb dX5_laid_211 ?_
        obtain ⟨hk6, hf⟩ := oa_ck hf
        refine oa_ist hx hb hE hw hH hS 46 0 (by decide) 64 (fun _ => rfl) (oa_in_vp hk6) dX5_laid_212 (fun H locs hH hS => ?_)
        exact bX5_laid_213 C _ hrec43 _ hrec149 n x1 x2 x3 x4 x5 x6 (x7 + (-1 : Int32)) x8 _ hf _ _ hH hS _ (lv_sub hl [1, 2, 3, 4, 5, 6, 7, 0, 8] rfl)
set_option maxHeartbeats 4000000 in
set_option maxRecDepth 100000 in
theorem bX5_laid_102 {p : Program} {l : Launch} {e : Env} {s : State} {m : MethodId} {args : Array Value} {below : List Frame} {meth : Method} {c : Code} {D : va_G} {ca : Nat → ClassId} {ad : Nat → Nat → Nat} {b0 : Nat} {o : Int32 × oa_M} (C : oa_Cx p s m args meth c cX5_laid 9 (some .boolean) RX5 D ca b0 ad) (rec43 : Int32 → Int32 → Int32 → Int32 → oa_M → Option (Int32 × oa_M)) (hrec43 : ∀ (x1 : Int32) (x2 : Int32) (x3 : Int32) (x4 : Int32) (M : oa_M), rec43 x1 x2 x3 x4 M = some o → ∀ (H : Heap) (locs : List Loc), oa_H D ca ad M H → va_S (fun q => b0 ≤ q) s.heap H locs → ∀ (ls : Array Slot), lv_has ls 9 [(0, .ref (ad 20 0)), (1, .int x1), (2, .int x2), (3, .int x3), (4, .int x4)] → W p l e ({ frames := 2, cells := 0, slots := 0, locals := 50 } : Room) s m args below meth c H locs 0 0 (MQ below (va_Qi (fun (r' : Int32) (u : oa_M) => r' = o.1 ∧ u = o.2) (fun u t => oa_H D ca ad u t.heap) (fun q => b0 ≤ q)) args s 0 0 (fun q => b0 ≤ q)) (F0 m 43 ls [])) : ∀ (n : Nat), ∀ (x1 : Int32) (x2 : Int32) (x3 : Int32) (x4 : Int32) (z0 : Int32) (M : oa_M), BX5_laid_102 rec43 n x1 x2 x3 x4 z0 M = some o → ∀ (H : Heap) (locs : List Loc), oa_H D ca ad M H → va_S (fun q => b0 ≤ q) s.heap H locs → ∀ (ls : Array Slot), lv_has ls 9 [(0, .ref (ad 20 0)), (1, .int x1), (2, .int x2), (3, .int x3), (4, .int x4)] → W p l e ({ frames := 2, cells := 0, slots := 0, locals := 50 } : Room) s m args below meth c H locs 0 0 (MQ below (va_Qi (fun (r' : Int32) (u : oa_M) => r' = o.1 ∧ u = o.2) (fun u t => oa_H D ca ad u t.heap) (fun q => b0 ≤ q)) args s 0 0 (fun q => b0 ≤ q)) (F0 m 102 ls [.int z0]) := by
  obtain ⟨hx, hb, hml, hr, hlocks, hown, hts, hE, hw⟩ := id C
  intro n x1 x2 x3 x4 z0 M hf H locs hH hS ls hl
  unfold BX5_laid_102 at hf
  refine lv_istore (lv' := [(5, .int z0), (0, .ref (ad 20 0)), (1, .int x1), (2, .int x2), (3, .int x3), (4, .int x4)]) hx hb dX5_laid_102 hl (by decide) rfl (fun ls hl => ?_)
  refine lv_aload_n hx hb dX5_laid_104 rfl (lv_at hl 1 rfl) ?_
  refine lv_iload_n hx hb dX5_laid_105 rfl (lv_at hl 3 rfl) ?_
  refine lv_iload hx hb dX5_laid_106 (lv_at hl 5 rfl) ?_
  refine lv_iload hx hb dX5_laid_108 (lv_at hl 0 rfl) ?_
  refine lv_iload_n hx hb dX5_laid_110 rfl (lv_at hl 4 rfl) ?_
  refine lv_aload_n hx hb dX5_laid_111 rfl (lv_at hl 1 rfl) ?_
  refine oa_get (ci := 5) (C := RX5) (T := TX5) (N := 31) (v := .ref (ad 26 0)) hx hb hts inX5 hown hE hH 20 0 (by decide) rfl rfl 6 (by decide) (hts _ tw_621) rfl dX5_laid_112 ?_
  refine lv_iload_n hx hb dX5_laid_115 rfl (lv_at hl 3 rfl) ?_
  obtain ⟨hk1, hf⟩ := oa_ck hf
  refine oa_ild (v := (M 26 0 x2.toNatClampNeg)) hx hb hE hH 26 0 (by decide) 12 rfl rfl (oa_in_vp hk1) dX5_laid_116 ?_
  refine lv_bipush (v := (8 : Int32)) hx hb dX5_laid_117 (by decide) ?_
  refine lv_idiv hx hb dX5_laid_119 (by decide) ?_
  refine lv_iadd hx hb dX5_laid_120 ?_
  obtain ⟨r2, M3, hc4, hf⟩ := oa_bdE hf
  refine oa_cvi (As := [.int x2, .int x4, .int z0, .int (x3 + ((M 26 0 x2.toNatClampNeg) / (8 : Int32)))]) (rest := []) ⟨hx, hb, hml, hown, hts⟩ (cX5_fieldOf_ok l D ca ad b0 hw n x2 x4 z0 (x3 + ((M 26 0 x2.toNatClampNeg) / (8 : Int32))) _ _ _ hc4) (cwV 4 hts (oa_gV tw_866 tw_868 tw_42 tw_49 tw_869) rfl rfl rfl (by decide +kernel) ⟨Nat.le_of_ble_eq_true rfl, Nat.le_of_ble_eq_true rfl⟩) hE hH hS (oa_recv (k := 20) (ci := 5) hE hH (by decide) rfl rfl) rfl hl.1 rfl (Nat.le_of_ble_eq_true rfl) dX5_laid_121 ⟨by decide, by decide⟩ (fun H locs hH hS => ?_)
  refine lv_istore (lv' := [(6, .int r2), (5, .int z0), (0, .ref (ad 20 0)), (1, .int x1), (2, .int x2), (3, .int x3), (4, .int x4)]) hx hb dX5_laid_124 hl (by decide) rfl (fun ls hl => ?_)
  refine lv_iload hx hb dX5_laid_126 (lv_at hl 0 rfl) ?_
  refine lv_if_ge (tgt := 133) hx hb dX5_laid_128 (by decide) (fun hq5 => ?_) (fun hq5 => ?_)
  · rw [if_pos hq5] at hf
    refine lv_aload_n hx hb dX5_laid_133 rfl (lv_at hl 2 rfl) ?_
    refine oa_get (ci := 5) (C := RX5) (T := TX5) (N := 31) (v := .ref (ad 29 0)) hx hb hts inX5 hown hE hH 20 0 (by decide) rfl rfl 9 (by decide) (hts _ tw_624) rfl dX5_laid_134 ?_
    refine lv_iconst (v := (3 : Int32)) hx hb dX5_laid_137 (by decide) ?_
    refine lv_iload_n hx hb dX5_laid_138 rfl (lv_at hl 4 rfl) ?_
    refine lv_imul hx hb dX5_laid_139 ?_
    refine lv_iload hx hb dX5_laid_140 (lv_at hl 6 rfl) ?_
    refine lv_iadd hx hb dX5_laid_142 ?_
    obtain ⟨hk6, hf⟩ := oa_ck hf
    refine oa_ild (v := (M3 29 0 (((3 : Int32) * x2) + x4).toNatClampNeg)) hx hb hE hH 29 0 (by decide) 36 rfl rfl (oa_in_vp hk6) dX5_laid_143 ?_
    refine lv_istore (lv' := [(7, .int (M3 29 0 (((3 : Int32) * x2) + x4).toNatClampNeg)), (6, .int r2), (5, .int z0), (0, .ref (ad 20 0)), (1, .int x1), (2, .int x2), (3, .int x3), (4, .int x4)]) hx hb dX5_laid_144 hl (by decide) rfl (fun ls hl => ?_)
    refine lv_iconst (v := (0 : Int32)) hx hb dX5_laid_146 (by decide) ?_
    refine lv_istore (lv' := [(8, .int (0 : Int32)), (7, .int (M3 29 0 (((3 : Int32) * x2) + x4).toNatClampNeg)), (6, .int r2), (5, .int z0), (0, .ref (ad 20 0)), (1, .int x1), (2, .int x2), (3, .int x3), (4, .int x4)]) hx hb dX5_laid_147 hl (by decide) rfl (fun ls hl => ?_)
    exact bX5_laid_149 C _ hrec43 n x1 x2 x3 x4 z0 r2 (M3 29 0 (((3 : Int32) * x2) + x4).toNatClampNeg) (0 : Int32) _ hf _ _ hH hS _ (lv_sub hl [4, 5, 6, 7, 8, 3, 2, 1, 0] rfl)
  · rw [if_neg hq5] at hf
    refine lv_iconst (v := (0 : Int32)) hx hb dX5_laid_131 (by decide) ?_
    cases hf
    exact oa_reti hx hb hr hlocks rfl hS hH dX5_laid_132
set_option maxHeartbeats 4000000 in
set_option maxRecDepth 100000 in
theorem bX5_laid_43 {p : Program} {l : Launch} {e : Env} {s : State} {m : MethodId} {args : Array Value} {below : List Frame} {meth : Method} {c : Code} {D : va_G} {ca : Nat → ClassId} {ad : Nat → Nat → Nat} {b0 : Nat} {o : Int32 × oa_M} (C : oa_Cx p s m args meth c cX5_laid 9 (some .boolean) RX5 D ca b0 ad) : ∀ (n : Nat), ∀ (x1 : Int32) (x2 : Int32) (x3 : Int32) (x4 : Int32) (M : oa_M), BX5_laid_43 n x1 x2 x3 x4 M = some o → ∀ (H : Heap) (locs : List Loc), oa_H D ca ad M H → va_S (fun q => b0 ≤ q) s.heap H locs → ∀ (ls : Array Slot), lv_has ls 9 [(0, .ref (ad 20 0)), (1, .int x1), (2, .int x2), (3, .int x3), (4, .int x4)] → W p l e ({ frames := 2, cells := 0, slots := 0, locals := 50 } : Room) s m args below meth c H locs 0 0 (MQ below (va_Qi (fun (r' : Int32) (u : oa_M) => r' = o.1 ∧ u = o.2) (fun u t => oa_H D ca ad u t.heap) (fun q => b0 ≤ q)) args s 0 0 (fun q => b0 ≤ q)) (F0 m 43 ls []) := by
  obtain ⟨hx, hb, hml, hr, hlocks, hown, hts, hE, hw⟩ := id C
  intro n
  induction n with
  | zero => intro x1 x2 x3 x4 M hf; cases hf
  | succ n ih =>
    intro x1 x2 x3 x4 M hf H locs hH hS ls hl
    have hrec43 := ih
    unfold BX5_laid_43 at hf
    refine lv_iload hx hb dX5_laid_43 (lv_at hl 4 rfl) ?_
    refine lv_aload_n hx hb dX5_laid_45 rfl (lv_at hl 0 rfl) ?_
    refine oa_get (ci := 5) (C := RX5) (T := TX5) (N := 31) (v := .ref (ad 28 0)) hx hb hts inX5 hown hE hH 20 0 (by decide) rfl rfl 8 (by decide) (hts _ tw_623) rfl dX5_laid_46 ?_
    refine lv_iload_n hx hb dX5_laid_49 rfl (lv_at hl 2 rfl) ?_
    obtain ⟨hk1, hf⟩ := oa_ck hf
    refine oa_ild (v := (M 28 0 x2.toNatClampNeg)) hx hb hE hH 28 0 (by decide) 12 rfl rfl (oa_in_vp hk1) dX5_laid_50 ?_
    refine lv_icmp_ge (tgt := 225) hx hb dX5_laid_51 (by decide) (fun hq2 => ?_) (fun hq2 => ?_)
    · rw [if_pos hq2] at hf
      refine lv_iconst (v := (0 : Int32)) hx hb dX5_laid_225 (by decide) ?_
      refine lv_istore (lv' := [(4, .int (0 : Int32)), (0, .ref (ad 20 0)), (1, .int x1), (2, .int x2), (3, .int x3)]) hx hb dX5_laid_226 hl (by decide) rfl (fun ls hl => ?_)
      exact bX5_laid_228 C n x1 x2 x3 (0 : Int32) _ hf _ _ hH hS _ (lv_sub hl [1, 2, 3, 4, 0] rfl)
    · rw [if_neg hq2] at hf
      refine lv_aload_n hx hb dX5_laid_54 rfl (lv_at hl 0 rfl) ?_
      refine oa_get (ci := 5) (C := RX5) (T := TX5) (N := 31) (v := .ref (ad 42 0)) hx hb hts inX5 hown hE hH 20 0 (by decide) rfl rfl 22 (by decide) (hts _ tw_637) rfl dX5_laid_55 ?_
      refine lv_iconst (v := (3 : Int32)) hx hb dX5_laid_58 (by decide) ?_
      refine lv_iload_n hx hb dX5_laid_59 rfl (lv_at hl 1 rfl) ?_
      refine lv_imul hx hb dX5_laid_60 ?_
      refine lv_iload hx hb dX5_laid_61 (lv_at hl 4 rfl) ?_
      refine lv_iadd hx hb dX5_laid_63 ?_
      obtain ⟨hk3, hf⟩ := oa_ck hf
      refine oa_zld (v := (M 42 0 (((3 : Int32) * x1) + x4).toNatClampNeg)) hx hb hE hH 42 0 (by decide) 60 rfl rfl (oa_in_vp hk3) dX5_laid_64 ?_
      refine lv_if_eq (tgt := 91) hx hb dX5_laid_65 (by decide) (fun hq4 => ?_) (fun hq4 => ?_)
      · rw [if_pos hq4] at hf
        refine lv_aload_n hx hb dX5_laid_91 rfl (lv_at hl 0 rfl) ?_
        refine oa_get (ci := 5) (C := RX5) (T := TX5) (N := 31) (v := .ref (ad 41 0)) hx hb hts inX5 hown hE hH 20 0 (by decide) rfl rfl 21 (by decide) (hts _ tw_636) rfl dX5_laid_92 ?_
        refine lv_iconst (v := (3 : Int32)) hx hb dX5_laid_95 (by decide) ?_
        refine lv_iload_n hx hb dX5_laid_96 rfl (lv_at hl 1 rfl) ?_
        refine lv_imul hx hb dX5_laid_97 ?_
        refine lv_iload hx hb dX5_laid_98 (lv_at hl 4 rfl) ?_
        refine lv_iadd hx hb dX5_laid_100 ?_
        obtain ⟨hk5, hf⟩ := oa_ck hf
        refine oa_ild (v := (M 41 0 (((3 : Int32) * x1) + x4).toNatClampNeg)) hx hb hE hH 41 0 (by decide) 60 rfl rfl (oa_in_vp hk5) dX5_laid_101 ?_
        exact bX5_laid_102 C _ hrec43 n x1 x2 x3 x4 (M 41 0 (((3 : Int32) * x1) + x4).toNatClampNeg) _ hf _ _ hH hS _ (lv_sub hl [0, 1, 2, 3, 4] rfl)
      · rw [if_neg hq4] at hf
        refine lv_aload_n hx hb dX5_laid_68 rfl (lv_at hl 0 rfl) ?_
        refine oa_get (ci := 5) (C := RX5) (T := TX5) (N := 31) (v := .ref (ad 45 0)) hx hb hts inX5 hown hE hH 20 0 (by decide) rfl rfl 25 (by decide) (hts _ tw_640) rfl dX5_laid_69 ?_
        refine lv_aload_n hx hb dX5_laid_72 rfl (lv_at hl 0 rfl) ?_
        refine lv_aload_n hx hb dX5_laid_73 rfl (lv_at hl 0 rfl) ?_
        refine oa_get (ci := 5) (C := RX5) (T := TX5) (N := 31) (v := .ref (ad 41 0)) hx hb hts inX5 hown hE hH 20 0 (by decide) rfl rfl 21 (by decide) (hts _ tw_636) rfl dX5_laid_74 ?_
        refine lv_iconst (v := (3 : Int32)) hx hb dX5_laid_77 (by decide) ?_
        refine lv_iload_n hx hb dX5_laid_78 rfl (lv_at hl 1 rfl) ?_
        refine lv_imul hx hb dX5_laid_79 ?_
        refine lv_iload hx hb dX5_laid_80 (lv_at hl 4 rfl) ?_
        refine lv_iadd hx hb dX5_laid_82 ?_
        obtain ⟨hk6, hf⟩ := oa_ck hf
        refine oa_ild (v := (M 41 0 (((3 : Int32) * x1) + x4).toNatClampNeg)) hx hb hE hH 41 0 (by decide) 60 rfl rfl (oa_in_vp hk6) dX5_laid_83 ?_
        obtain ⟨r7, M8, hc9, hf⟩ := oa_bdE hf
        refine oa_cvi (As := [.int (M 41 0 (((3 : Int32) * x1) + x4).toNatClampNeg)]) (rest := [.ref (ad 45 0)]) ⟨hx, hb, hml, hown, hts⟩ (cX5_lineOf_ok l D ca ad b0 hw n (M 41 0 (((3 : Int32) * x1) + x4).toNatClampNeg) _ _ _ hc9) (cwV 1 hts (oa_gV tw_858 tw_860 tw_40 tw_49 tw_861) rfl rfl rfl (by decide +kernel) ⟨Nat.le_of_ble_eq_true rfl, Nat.le_of_ble_eq_true rfl⟩) hE hH hS (oa_recv (k := 20) (ci := 5) hE hH (by decide) rfl rfl) rfl hl.1 rfl (Nat.le_of_ble_eq_true rfl) dX5_laid_84 ⟨by decide, by decide⟩ (fun H locs hH hS => ?_)
        obtain ⟨hk10, hf⟩ := oa_ck hf
        refine oa_ild (v := (M8 45 0 r7.toNatClampNeg)) hx hb hE hH 45 0 (by decide) 21 rfl rfl (oa_in_vp hk10) dX5_laid_87 ?_
        refine lv_goto (tgt := 102) hx hb dX5_laid_88 (by decide) ?_
        exact bX5_laid_102 C _ hrec43 n x1 x2 x3 x4 (M8 45 0 r7.toNatClampNeg) _ hf _ _ hH hS _ (lv_sub hl [0, 1, 2, 3, 4] rfl)
set_option maxHeartbeats 4000000 in
set_option maxRecDepth 100000 in
theorem bX5_laid_10 {p : Program} {l : Launch} {e : Env} {s : State} {m : MethodId} {args : Array Value} {below : List Frame} {meth : Method} {c : Code} {D : va_G} {ca : Nat → ClassId} {ad : Nat → Nat → Nat} {b0 : Nat} {o : Int32 × oa_M} (C : oa_Cx p s m args meth c cX5_laid 9 (some .boolean) RX5 D ca b0 ad) : ∀ (n : Nat), ∀ (x1 : Int32) (x2 : Int32) (x3 : Int32) (x4 : Int32) (M : oa_M), BX5_laid_10 n x1 x2 x3 x4 M = some o → ∀ (H : Heap) (locs : List Loc), oa_H D ca ad M H → va_S (fun q => b0 ≤ q) s.heap H locs → ∀ (ls : Array Slot), lv_has ls 9 [(0, .ref (ad 20 0)), (1, .int x1), (2, .int x2), (3, .int x3), (4, .int x4)] → W p l e ({ frames := 2, cells := 0, slots := 0, locals := 50 } : Room) s m args below meth c H locs 0 0 (MQ below (va_Qi (fun (r' : Int32) (u : oa_M) => r' = o.1 ∧ u = o.2) (fun u t => oa_H D ca ad u t.heap) (fun q => b0 ≤ q)) args s 0 0 (fun q => b0 ≤ q)) (F0 m 10 ls []) := by
  obtain ⟨hx, hb, hml, hr, hlocks, hown, hts, hE, hw⟩ := id C
  intro n
  induction n with
  | zero => intro x1 x2 x3 x4 M hf; cases hf
  | succ n ih =>
    intro x1 x2 x3 x4 M hf H locs hH hS ls hl
    have hrec10 := ih
    unfold BX5_laid_10 at hf
    refine lv_iload hx hb dX5_laid_10 (lv_at hl 4 rfl) ?_
    refine lv_aload_n hx hb dX5_laid_12 rfl (lv_at hl 0 rfl) ?_
    refine oa_get (ci := 5) (C := RX5) (T := TX5) (N := 31) (v := .ref (ad 26 0)) hx hb hts inX5 hown hE hH 20 0 (by decide) rfl rfl 6 (by decide) (hts _ tw_621) rfl dX5_laid_13 ?_
    refine lv_iload_n hx hb dX5_laid_16 rfl (lv_at hl 2 rfl) ?_
    obtain ⟨hk1, hf⟩ := oa_ck hf
    refine oa_ild (v := (M 26 0 x2.toNatClampNeg)) hx hb hE hH 26 0 (by decide) 12 rfl rfl (oa_in_vp hk1) dX5_laid_17 ?_
    refine lv_bipush (v := (8 : Int32)) hx hb dX5_laid_18 (by decide) ?_
    refine lv_idiv hx hb dX5_laid_20 (by decide) ?_
    refine lv_icmp_ge (tgt := 40) hx hb dX5_laid_21 (by decide) (fun hq2 => ?_) (fun hq2 => ?_)
    · rw [if_pos hq2] at hf
      refine lv_iconst (v := (0 : Int32)) hx hb dX5_laid_40 (by decide) ?_
      refine lv_istore (lv' := [(4, .int (0 : Int32)), (0, .ref (ad 20 0)), (1, .int x1), (2, .int x2), (3, .int x3)]) hx hb dX5_laid_41 hl (by decide) rfl (fun ls hl => ?_)
      exact bX5_laid_43 C n x1 x2 x3 (0 : Int32) _ hf _ _ hH hS _ (lv_sub hl [1, 2, 3, 4, 0] rfl)
    · rw [if_neg hq2] at hf
      refine lv_aload_n hx hb dX5_laid_24 rfl (lv_at hl 0 rfl) ?_
      refine oa_get (ci := 5) (C := RX5) (T := TX5) (N := 31) (v := .ref (ad 46 0)) hx hb hts inX5 hown hE hH 20 0 (by decide) rfl rfl 26 (by decide) (hts _ tw_641) rfl dX5_laid_25 ?_
      refine lv_iload_n hx hb dX5_laid_28 rfl (lv_at hl 3 rfl) ?_
      refine lv_iload hx hb dX5_laid_29 (lv_at hl 4 rfl) ?_
      refine lv_iadd hx hb dX5_laid_31 ?_
      refine lv_iconst (v := (0 : Int32)) hx hb dX5_laid_32 (by decide) ?_
      obtain ⟨hk3, hf⟩ := oa_ck hf
      refine oa_ist hx hb hE hw hH hS 46 0 (by decide) 64 (fun _ => rfl) (oa_in_vp hk3) dX5_laid_33 (fun H locs hH hS => ?_)
      refine lv_iinc (v := (x4 + (1 : Int32))) (lv' := [(4, .int (x4 + (1 : Int32))), (0, .ref (ad 20 0)), (1, .int x1), (2, .int x2), (3, .int x3)]) hx hb dX5_laid_34 hl (k := 4) rfl rfl (by decide) rfl (fun ls hl => ?_)
      refine lv_goto (tgt := 10) hx hb dX5_laid_37 (by decide) ?_
      exact hrec10 x1 x2 x3 (x4 + (1 : Int32)) _ hf _ _ hH hS _ (lv_sub hl [1, 2, 3, 4, 0] rfl)
set_option maxHeartbeats 4000000 in
set_option maxRecDepth 100000 in
theorem cX5_laid_k (l : Launch) (D : va_G) (ca : Nat → ClassId) (ad : Nat → Nat → Nat) (b0 : Nat) (hw : oa_W ad b0) (n : Nat) (x1 : Int32) (x2 : Int32) (M : oa_M) (o : Int32 × oa_M) (hf : FX5_laid n x1 x2 M = some o) : oa_Mi l yX5_laid (oa_w yX5_laid cX5_laid 9 (some .boolean)) ({ frames := 2, cells := 0, slots := 0, locals := 50 } : Room) D ca ad b0 [.ref (ad 20 0), .int x1, .int x2] M o.1 o.2 := by
  refine oa_ofW (cc := cX5_laid) (maxL := 9) (ret := some .boolean) (by decide) rfl (Nat.le_of_ble_eq_true rfl) ?_
  intro p e s m below meth c hx hb hml hr hlocks hown hts0 hP ls hl
  obtain ⟨hH, hE⟩ := hP
  have hts : ∀ w ∈ oa_T, w.before _ s = true := fun w h => hts0 w (List.mem_cons_of_mem _ h)
  have hS : va_S (fun q => b0 ≤ q) s.heap s.heap [] := va_S.rf
  have C : oa_Cx p s m _ meth c cX5_laid 9 (some .boolean) RX5 D ca b0 ad := ⟨hx, hb, hml, hr, hlocks, hown, hts, hE, hw⟩
  have hl : lv_has ls 9 [(0, .ref (ad 20 0)), (1, .int x1), (2, .int x2)] := hl
  unfold FX5_laid at hf
  refine lv_aload_n hx hb dX5_laid_0 rfl (lv_at hl 0 rfl) ?_
  refine oa_get (ci := 5) (C := RX5) (T := TX5) (N := 31) (v := .ref (ad 45 0)) hx hb hts inX5 hown hE hH 20 0 (by decide) rfl rfl 25 (by decide) (hts _ tw_640) rfl dX5_laid_1 ?_
  refine lv_iload_n hx hb dX5_laid_4 rfl (lv_at hl 1 rfl) ?_
  obtain ⟨hk1, hf⟩ := oa_ck hf
  refine oa_ild (v := (M 45 0 x1.toNatClampNeg)) hx hb hE hH 45 0 (by decide) 21 rfl rfl (oa_in_vp hk1) dX5_laid_5 ?_
  refine lv_istore_n (lv' := [(3, .int (M 45 0 x1.toNatClampNeg)), (0, .ref (ad 20 0)), (1, .int x1), (2, .int x2)]) hx hb dX5_laid_6 rfl hl (by decide) rfl (fun ls hl => ?_)
  refine lv_iconst (v := (0 : Int32)) hx hb dX5_laid_7 (by decide) ?_
  refine lv_istore (lv' := [(4, .int (0 : Int32)), (3, .int (M 45 0 x1.toNatClampNeg)), (0, .ref (ad 20 0)), (1, .int x1), (2, .int x2)]) hx hb dX5_laid_8 hl (by decide) rfl (fun ls hl => ?_)
  exact bX5_laid_10 C n x1 x2 (M 45 0 x1.toNatClampNeg) (0 : Int32) _ hf _ _ hH hS _ (lv_sub hl [2, 3, 4, 1, 0] rfl)
theorem cX5_laid_ok (l : Launch) (D : va_G) (ca : Nat → ClassId) (ad : Nat → Nat → Nat) (b0 : Nat) (hw : oa_W ad b0) (n : Nat) (x1 : Int32) (x2 : Int32) (M : oa_M) (r : Int32) (M' : oa_M) (hf : FX5_laid n x1 x2 M = some (r, M')) : oa_Mi l yX5_laid (oa_w yX5_laid cX5_laid 9 (some .boolean)) ({ frames := 2, cells := 0, slots := 0, locals := 50 } : Room) D ca ad b0 [.ref (ad 20 0), .int x1, .int x2] M r M' := cX5_laid_k l D ca ad b0 hw n x1 x2 M (r, M') hf
def BX5_assemble_253 : Nat → Int32 → Int32 → Int32 → Int32 → oa_M → Option (Int32 × oa_M)
  | 0, _, _, _, _, _ => none
  | n + 1, x1, x2, x3, x4, M => (if (x1 + x3) ≤ x4 then (some (x3, M)) else (if oa_in x4 64 = true then (if oa_in x4 64 = true then (BX5_assemble_253 n x1 x2 x3 (x4 + (1 : Int32)) (oa_up M 36 0 x4.toNatClampNeg (M 46 0 x4.toNatClampNeg))) else none) else none))
def BX5_assemble_244 (rec185 : Int32 → Int32 → Int32 → Int32 → oa_M → Option (Int32 × oa_M)) (n : Nat) (x1 : Int32) (x2 : Int32) (x3 : Int32) (x4 : Int32) (M : oa_M) : Option (Int32 × oa_M) := (rec185 x1 x2 x3 (x4 + (1 : Int32)) M)
def BX5_assemble_185 : Nat → Int32 → Int32 → Int32 → Int32 → oa_M → Option (Int32 × oa_M)
  | 0, _, _, _, _, _ => none
  | n + 1, x1, x2, x3, x4, M => (if (M 20 0 17) ≤ x4 then (BX5_assemble_253 n x1 x2 x3 x1 M) else (if oa_in x4 20 = true then (if (M 39 0 x4.toNatClampNeg) ≤ 0 then (BX5_assemble_244 (BX5_assemble_185 n) n x1 x2 x3 x4 M) else (if oa_in x4 20 = true then (if oa_in x4 20 = true then (oa_bd (FX5_formOf n (M 39 0 x4.toNatClampNeg) (M 40 0 x4.toNatClampNeg) M) (fun r6 M7 => (oa_bd (FX5_laid n x4 r6 M7) (fun r9 M10 => (if r9 = 0 then (some ((0 : Int32), (oa_up (oa_up M10 20 0 27 x4) 20 0 30 (4 : Int32)))) else (BX5_assemble_244 (BX5_assemble_185 n) n x1 x2 x3 x4 M10)))))) else none) else none)) else none))
def BX5_assemble_156 : Nat → Int32 → Int32 → Int32 → Int32 → oa_M → Option (Int32 × oa_M)
  | 0, _, _, _, _, _ => none
  | n + 1, x1, x2, x3, x4, M => (if (M 20 0 17) ≤ x4 then (BX5_assemble_185 n x1 x2 x3 (0 : Int32) M) else (if oa_in x4 21 = true then (if oa_in x4 21 = true then (BX5_assemble_156 n x1 x2 x3 (x4 + (1 : Int32)) (oa_up M 45 0 x4.toNatClampNeg ((M 45 0 x4.toNatClampNeg) + x1))) else none) else none))
def BX5_assemble_141 (n : Nat) (x1 : Int32) (x2 : Int32) (x3 : Int32) (x4 : Int32) (z1 : Int32) (M : oa_M) : Option (Int32 × oa_M) := (if z1 = 0 then (BX5_assemble_156 n x1 x2 x3 (0 : Int32) (oa_up M 20 0 30 z1)) else (some ((0 : Int32), (oa_up M 20 0 30 z1))))
def BX5_assemble_136 (n : Nat) (x1 : Int32) (x2 : Int32) (x3 : Int32) (x4 : Int32) (M : oa_M) : Option (Int32 × oa_M) := (BX5_assemble_141 n x1 x2 x3 x4 (3 : Int32) M)
def BX5_assemble_109 (rec51 : Int32 → Int32 → Int32 → Int32 → oa_M → Option (Int32 × oa_M)) (n : Nat) (x1 : Int32) (x2 : Int32) (x3 : Int32) (x4 : Int32) (z0 : Int32) (z1 : Int32) (M : oa_M) : Option (Int32 × oa_M) := (rec51 x1 x2 (z0 + z1) (x4 + (1 : Int32)) M)
def BX5_assemble_51 : Nat → Int32 → Int32 → Int32 → Int32 → oa_M → Option (Int32 × oa_M)
  | 0, _, _, _, _, _ => none
  | n + 1, x1, x2, x3, x4, M => (if (M 20 0 17) ≤ x4 then (oa_bd (FX5_outside n x1 (0 : Int32) (63 : Int32) M) (fun r2 M3 => (if r2 = 0 then (if (x1 + x3) ≤ (64 : Int32) then (BX5_assemble_141 n x1 x2 x3 x4 (0 : Int32) M3) else (BX5_assemble_136 n x1 x2 x3 x4 M3)) else (BX5_assemble_136 n x1 x2 x3 x4 M3)))) else (if oa_in x4 21 = true then (if oa_in x4 20 = true then (if (M 39 0 x4.toNatClampNeg) ≤ 0 then (BX5_assemble_109 (BX5_assemble_51 n) n x1 x2 x3 x4 x3 (0 : Int32) (oa_up M 45 0 x4.toNatClampNeg x3)) else (if oa_in x4 20 = true then (if oa_in x4 20 = true then (oa_bd (FX5_formOf n (M 39 0 x4.toNatClampNeg) (M 40 0 x4.toNatClampNeg) (oa_up M 45 0 x4.toNatClampNeg x3)) (fun r12 M13 => (if oa_in r12 12 = true then (BX5_assemble_109 (BX5_assemble_51 n) n x1 x2 x3 x4 x3 ((M13 26 0 r12.toNatClampNeg) / (8 : Int32)) M13) else none))) else none) else none)) else none) else none))
def BX5_assemble_13 (n : Nat) (x1 : Int32) (z1 : Int32) (M : oa_M) : Option (Int32 × oa_M) := (if z1 = 0 then (oa_bd (FX5_missing n  (oa_up M 20 0 30 z1)) (fun r2 M3 => (if r2 < 0 then (BX5_assemble_51 n x1 r2 (0 : Int32) (0 : Int32) M3) else (some ((0 : Int32), (oa_up (oa_up M3 20 0 27 r2) 20 0 30 (2 : Int32))))))) else (some ((0 : Int32), (oa_up M 20 0 30 z1))))
def FX5_assemble (n : Nat) (x1 : Int32) (M : oa_M) : Option (Int32 × oa_M) := (if (M 20 0 13) = 0 then (BX5_assemble_13 n x1 (1 : Int32) M) else (BX5_assemble_13 n x1 (0 : Int32) M))
set_option maxHeartbeats 4000000 in
set_option maxRecDepth 100000 in
theorem bX5_assemble_253 {p : Program} {l : Launch} {e : Env} {s : State} {m : MethodId} {args : Array Value} {below : List Frame} {meth : Method} {c : Code} {D : va_G} {ca : Nat → ClassId} {ad : Nat → Nat → Nat} {b0 : Nat} {o : Int32 × oa_M} (C : oa_Cx p s m args meth c cX5_assemble 5 (some .int) RX5 D ca b0 ad) : ∀ (n : Nat), ∀ (x1 : Int32) (x2 : Int32) (x3 : Int32) (x4 : Int32) (M : oa_M), BX5_assemble_253 n x1 x2 x3 x4 M = some o → ∀ (H : Heap) (locs : List Loc), oa_H D ca ad M H → va_S (fun q => b0 ≤ q) s.heap H locs → ∀ (ls : Array Slot), lv_has ls 5 [(0, .ref (ad 20 0)), (1, .int x1), (2, .int x2), (3, .int x3), (4, .int x4)] → W p l e ({ frames := 3, cells := 0, slots := 0, locals := 78 } : Room) s m args below meth c H locs 0 0 (MQ below (va_Qi (fun (r' : Int32) (u : oa_M) => r' = o.1 ∧ u = o.2) (fun u t => oa_H D ca ad u t.heap) (fun q => b0 ≤ q)) args s 0 0 (fun q => b0 ≤ q)) (F0 m 253 ls []) := by
  obtain ⟨hx, hb, hml, hr, hlocks, hown, hts, hE, hw⟩ := id C
  intro n
  induction n with
  | zero => intro x1 x2 x3 x4 M hf; cases hf
  | succ n ih =>
    intro x1 x2 x3 x4 M hf H locs hH hS ls hl
    have hrec253 := ih
    unfold BX5_assemble_253 at hf
    refine lv_iload hx hb dX5_assemble_253 (lv_at hl 4 rfl) ?_
    refine lv_iload_n hx hb dX5_assemble_255 rfl (lv_at hl 1 rfl) ?_
    refine lv_iload_n hx hb dX5_assemble_256 rfl (lv_at hl 3 rfl) ?_
    refine lv_iadd hx hb dX5_assemble_257 ?_
    refine lv_icmp_ge (tgt := 281) hx hb dX5_assemble_258 (by decide) (fun hq1 => ?_) (fun hq1 => ?_)
    · rw [if_pos hq1] at hf
      refine lv_iload_n hx hb dX5_assemble_281 rfl (lv_at hl 3 rfl) ?_
      cases hf
      exact oa_reti hx hb hr hlocks rfl hS hH dX5_assemble_282
    · rw [if_neg hq1] at hf
      refine lv_aload_n hx hb dX5_assemble_261 rfl (lv_at hl 0 rfl) ?_
      refine oa_get (ci := 5) (C := RX5) (T := TX5) (N := 31) (v := .ref (ad 36 0)) hx hb hts inX5 hown hE hH 20 0 (by decide) rfl rfl 16 (by decide) (hts _ tw_631) rfl dX5_assemble_262 ?_
      refine lv_iload hx hb dX5_assemble_265 (lv_at hl 4 rfl) ?_
      refine lv_aload_n hx hb dX5_assemble_267 rfl (lv_at hl 0 rfl) ?_
      refine oa_get (ci := 5) (C := RX5) (T := TX5) (N := 31) (v := .ref (ad 46 0)) hx hb hts inX5 hown hE hH 20 0 (by decide) rfl rfl 26 (by decide) (hts _ tw_641) rfl dX5_assemble_268 ?_
      refine lv_iload hx hb dX5_assemble_271 (lv_at hl 4 rfl) ?_
      obtain ⟨hk2, hf⟩ := oa_ck hf
      refine oa_ild (v := (M 46 0 x4.toNatClampNeg)) hx hb hE hH 46 0 (by decide) 64 rfl rfl (oa_in_vp hk2) dX5_assemble_273 ?_
      obtain ⟨hk3, hf⟩ := oa_ck hf
      refine oa_ist hx hb hE hw hH hS 36 0 (by decide) 64 (fun _ => rfl) (oa_in_vp hk3) dX5_assemble_274 (fun H locs hH hS => ?_)
      refine lv_iinc (v := (x4 + (1 : Int32))) (lv' := [(4, .int (x4 + (1 : Int32))), (0, .ref (ad 20 0)), (1, .int x1), (2, .int x2), (3, .int x3)]) hx hb dX5_assemble_275 hl (k := 4) rfl rfl (by decide) rfl (fun ls hl => ?_)
      refine lv_goto (tgt := 253) hx hb dX5_assemble_278 (by decide) ?_
      exact hrec253 x1 x2 x3 (x4 + (1 : Int32)) _ hf _ _ hH hS _ (lv_sub hl [1, 2, 3, 4, 0] rfl)
set_option maxHeartbeats 4000000 in
set_option maxRecDepth 100000 in
theorem bX5_assemble_244 {p : Program} {l : Launch} {e : Env} {s : State} {m : MethodId} {args : Array Value} {below : List Frame} {meth : Method} {c : Code} {D : va_G} {ca : Nat → ClassId} {ad : Nat → Nat → Nat} {b0 : Nat} {o : Int32 × oa_M} (C : oa_Cx p s m args meth c cX5_assemble 5 (some .int) RX5 D ca b0 ad) (rec185 : Int32 → Int32 → Int32 → Int32 → oa_M → Option (Int32 × oa_M)) (hrec185 : ∀ (x1 : Int32) (x2 : Int32) (x3 : Int32) (x4 : Int32) (M : oa_M), rec185 x1 x2 x3 x4 M = some o → ∀ (H : Heap) (locs : List Loc), oa_H D ca ad M H → va_S (fun q => b0 ≤ q) s.heap H locs → ∀ (ls : Array Slot), lv_has ls 5 [(0, .ref (ad 20 0)), (1, .int x1), (2, .int x2), (3, .int x3), (4, .int x4)] → W p l e ({ frames := 3, cells := 0, slots := 0, locals := 78 } : Room) s m args below meth c H locs 0 0 (MQ below (va_Qi (fun (r' : Int32) (u : oa_M) => r' = o.1 ∧ u = o.2) (fun u t => oa_H D ca ad u t.heap) (fun q => b0 ≤ q)) args s 0 0 (fun q => b0 ≤ q)) (F0 m 185 ls [])) : ∀ (n : Nat), ∀ (x1 : Int32) (x2 : Int32) (x3 : Int32) (x4 : Int32) (M : oa_M), BX5_assemble_244 rec185 n x1 x2 x3 x4 M = some o → ∀ (H : Heap) (locs : List Loc), oa_H D ca ad M H → va_S (fun q => b0 ≤ q) s.heap H locs → ∀ (ls : Array Slot), lv_has ls 5 [(0, .ref (ad 20 0)), (1, .int x1), (2, .int x2), (3, .int x3), (4, .int x4)] → W p l e ({ frames := 3, cells := 0, slots := 0, locals := 78 } : Room) s m args below meth c H locs 0 0 (MQ below (va_Qi (fun (r' : Int32) (u : oa_M) => r' = o.1 ∧ u = o.2) (fun u t => oa_H D ca ad u t.heap) (fun q => b0 ≤ q)) args s 0 0 (fun q => b0 ≤ q)) (F0 m 244 ls []) := by
  obtain ⟨hx, hb, hml, hr, hlocks, hown, hts, hE, hw⟩ := id C
  intro n x1 x2 x3 x4 M hf H locs hH hS ls hl
  unfold BX5_assemble_244 at hf
  refine lv_iinc (v := (x4 + (1 : Int32))) (lv' := [(4, .int (x4 + (1 : Int32))), (0, .ref (ad 20 0)), (1, .int x1), (2, .int x2), (3, .int x3)]) hx hb dX5_assemble_244 hl (k := 4) rfl rfl (by decide) rfl (fun ls hl => ?_)
  refine lv_goto (tgt := 185) hx hb dX5_assemble_247 (by decide) ?_
  exact hrec185 x1 x2 x3 (x4 + (1 : Int32)) _ hf _ _ hH hS _ (lv_sub hl [1, 2, 3, 4, 0] rfl)
set_option maxHeartbeats 4000000 in
set_option maxRecDepth 100000 in
theorem bX5_assemble_185 {p : Program} {l : Launch} {e : Env} {s : State} {m : MethodId} {args : Array Value} {below : List Frame} {meth : Method} {c : Code} {D : va_G} {ca : Nat → ClassId} {ad : Nat → Nat → Nat} {b0 : Nat} {o : Int32 × oa_M} (C : oa_Cx p s m args meth c cX5_assemble 5 (some .int) RX5 D ca b0 ad) : ∀ (n : Nat), ∀ (x1 : Int32) (x2 : Int32) (x3 : Int32) (x4 : Int32) (M : oa_M), BX5_assemble_185 n x1 x2 x3 x4 M = some o → ∀ (H : Heap) (locs : List Loc), oa_H D ca ad M H → va_S (fun q => b0 ≤ q) s.heap H locs → ∀ (ls : Array Slot), lv_has ls 5 [(0, .ref (ad 20 0)), (1, .int x1), (2, .int x2), (3, .int x3), (4, .int x4)] → W p l e ({ frames := 3, cells := 0, slots := 0, locals := 78 } : Room) s m args below meth c H locs 0 0 (MQ below (va_Qi (fun (r' : Int32) (u : oa_M) => r' = o.1 ∧ u = o.2) (fun u t => oa_H D ca ad u t.heap) (fun q => b0 ≤ q)) args s 0 0 (fun q => b0 ≤ q)) (F0 m 185 ls []) := by
  obtain ⟨hx, hb, hml, hr, hlocks, hown, hts, hE, hw⟩ := id C
  intro n
  induction n with
  | zero => intro x1 x2 x3 x4 M hf; cases hf
  | succ n ih =>
    intro x1 x2 x3 x4 M hf H locs hH hS ls hl
    have hrec185 := ih
    unfold BX5_assemble_185 at hf
    refine lv_iload hx hb dX5_assemble_185 (lv_at hl 4 rfl) ?_
    refine lv_aload_n hx hb dX5_assemble_187 rfl (lv_at hl 0 rfl) ?_
    refine oa_get (ci := 5) (C := RX5) (T := TX5) (N := 31) (v := .int (M 20 0 17)) hx hb hts inX5 hown hE hH 20 0 (by decide) rfl rfl 17 (by decide) (hts _ tw_632) rfl dX5_assemble_188 ?_
    refine lv_icmp_ge (tgt := 250) hx hb dX5_assemble_191 (by decide) (fun hq1 => ?_) (fun hq1 => ?_)
    · rw [if_pos hq1] at hf
      refine lv_iload_n hx hb dX5_assemble_250 rfl (lv_at hl 1 rfl) ?_
      refine lv_istore (lv' := [(4, .int x1), (0, .ref (ad 20 0)), (1, .int x1), (2, .int x2), (3, .int x3)]) hx hb dX5_assemble_251 hl (by decide) rfl (fun ls hl => ?_)
      exact bX5_assemble_253 C n x1 x2 x3 x1 _ hf _ _ hH hS _ (lv_sub hl [1, 2, 3, 4, 0] rfl)
    · rw [if_neg hq1] at hf
      refine lv_aload_n hx hb dX5_assemble_194 rfl (lv_at hl 0 rfl) ?_
      refine oa_get (ci := 5) (C := RX5) (T := TX5) (N := 31) (v := .ref (ad 39 0)) hx hb hts inX5 hown hE hH 20 0 (by decide) rfl rfl 19 (by decide) (hts _ tw_634) rfl dX5_assemble_195 ?_
      refine lv_iload hx hb dX5_assemble_198 (lv_at hl 4 rfl) ?_
      obtain ⟨hk2, hf⟩ := oa_ck hf
      refine oa_ild (v := (M 39 0 x4.toNatClampNeg)) hx hb hE hH 39 0 (by decide) 20 rfl rfl (oa_in_vp hk2) dX5_assemble_200 ?_
      refine lv_if_le (tgt := 244) hx hb dX5_assemble_201 (by decide) (fun hq3 => ?_) (fun hq3 => ?_)
      · rw [if_pos hq3] at hf
        exact bX5_assemble_244 C _ hrec185 n x1 x2 x3 x4 _ hf _ _ hH hS _ (lv_sub hl [0, 1, 2, 3, 4] rfl)
      · rw [if_neg hq3] at hf
        refine lv_aload_n hx hb dX5_assemble_204 rfl (lv_at hl 0 rfl) ?_
        refine lv_iload hx hb dX5_assemble_205 (lv_at hl 4 rfl) ?_
        refine lv_aload_n hx hb dX5_assemble_207 rfl (lv_at hl 0 rfl) ?_
        refine lv_aload_n hx hb dX5_assemble_208 rfl (lv_at hl 0 rfl) ?_
        refine oa_get (ci := 5) (C := RX5) (T := TX5) (N := 31) (v := .ref (ad 39 0)) hx hb hts inX5 hown hE hH 20 0 (by decide) rfl rfl 19 (by decide) (hts _ tw_634) rfl dX5_assemble_209 ?_
        refine lv_iload hx hb dX5_assemble_212 (lv_at hl 4 rfl) ?_
        obtain ⟨hk4, hf⟩ := oa_ck hf
        refine oa_ild (v := (M 39 0 x4.toNatClampNeg)) hx hb hE hH 39 0 (by decide) 20 rfl rfl (oa_in_vp hk4) dX5_assemble_214 ?_
        refine lv_aload_n hx hb dX5_assemble_215 rfl (lv_at hl 0 rfl) ?_
        refine oa_get (ci := 5) (C := RX5) (T := TX5) (N := 31) (v := .ref (ad 40 0)) hx hb hts inX5 hown hE hH 20 0 (by decide) rfl rfl 20 (by decide) (hts _ tw_635) rfl dX5_assemble_216 ?_
        refine lv_iload hx hb dX5_assemble_219 (lv_at hl 4 rfl) ?_
        obtain ⟨hk5, hf⟩ := oa_ck hf
        refine oa_ild (v := (M 40 0 x4.toNatClampNeg)) hx hb hE hH 40 0 (by decide) 20 rfl rfl (oa_in_vp hk5) dX5_assemble_221 ?_
        obtain ⟨r6, M7, hc8, hf⟩ := oa_bdE hf
        refine oa_cvi (As := [.int (M 39 0 x4.toNatClampNeg), .int (M 40 0 x4.toNatClampNeg)]) (rest := [.int x4, .ref (ad 20 0)]) ⟨hx, hb, hml, hown, hts⟩ (cX5_formOf_ok l D ca ad b0 hw n (M 39 0 x4.toNatClampNeg) (M 40 0 x4.toNatClampNeg) _ _ _ hc8) (cwV 2 hts (oa_gV tw_745 tw_747 tw_25 tw_49 tw_748) rfl rfl rfl (by decide +kernel) ⟨Nat.le_of_ble_eq_true rfl, Nat.le_of_ble_eq_true rfl⟩) hE hH hS (oa_recv (k := 20) (ci := 5) hE hH (by decide) rfl rfl) rfl hl.1 rfl (Nat.le_of_ble_eq_true rfl) dX5_assemble_222 ⟨by decide, by decide⟩ (fun H locs hH hS => ?_)
        obtain ⟨r9, M10, hc11, hf⟩ := oa_bdE hf
        refine oa_cvi (As := [.int x4, .int r6]) (rest := []) ⟨hx, hb, hml, hown, hts⟩ (cX5_laid_ok l D ca ad b0 hw n x4 r6 _ _ _ hc11) (cwV 2 hts (oa_gV tw_862 tw_864 tw_41 tw_49 tw_865) rfl rfl rfl (by decide +kernel) ⟨Nat.le_of_ble_eq_true rfl, Nat.le_of_ble_eq_true rfl⟩) hE hH hS (oa_recv (k := 20) (ci := 5) hE hH (by decide) rfl rfl) rfl hl.1 rfl (Nat.le_of_ble_eq_true rfl) dX5_assemble_225 ⟨by decide, by decide⟩ (fun H locs hH hS => ?_)
        refine lv_if_ne (tgt := 244) hx hb dX5_assemble_228 (by decide) (fun hq12 => ?_) (fun hq12 => ?_)
        · rw [if_neg hq12] at hf
          exact bX5_assemble_244 C _ hrec185 n x1 x2 x3 x4 _ hf _ _ hH hS _ (lv_sub hl [0, 1, 2, 3, 4] rfl)
        · rw [if_pos hq12] at hf
          refine lv_aload_n hx hb dX5_assemble_231 rfl (lv_at hl 0 rfl) ?_
          refine lv_iload hx hb dX5_assemble_232 (lv_at hl 4 rfl) ?_
          refine oa_put (ci := 5) (C := RX5) (T := TX5) (N := 31) (v := .int x4) (x := x4) hx hb hts inX5 tyX5 tyX5_ok nmX5 hown hE hw hH hS 20 0 (by decide) rfl rfl 27 (by decide) (hts _ tw_642) rfl rfl rfl (Nat.le_of_ble_eq_true rfl) rfl dX5_assemble_234 (fun H locs hH hS => ?_)
          refine lv_aload_n hx hb dX5_assemble_237 rfl (lv_at hl 0 rfl) ?_
          refine lv_iconst (v := (4 : Int32)) hx hb dX5_assemble_238 (by decide) ?_
          refine oa_put (ci := 5) (C := RX5) (T := TX5) (N := 31) (v := .int (4 : Int32)) (x := (4 : Int32)) hx hb hts inX5 tyX5 tyX5_ok nmX5 hown hE hw hH hS 20 0 (by decide) rfl rfl 30 (by decide) (hts _ tw_645) rfl rfl rfl (Nat.le_of_ble_eq_true rfl) rfl dX5_assemble_239 (fun H locs hH hS => ?_)
          refine lv_iconst (v := (0 : Int32)) hx hb dX5_assemble_242 (by decide) ?_
          cases hf
          exact oa_reti hx hb hr hlocks rfl hS hH dX5_assemble_243
set_option maxHeartbeats 4000000 in
set_option maxRecDepth 100000 in
theorem bX5_assemble_156 {p : Program} {l : Launch} {e : Env} {s : State} {m : MethodId} {args : Array Value} {below : List Frame} {meth : Method} {c : Code} {D : va_G} {ca : Nat → ClassId} {ad : Nat → Nat → Nat} {b0 : Nat} {o : Int32 × oa_M} (C : oa_Cx p s m args meth c cX5_assemble 5 (some .int) RX5 D ca b0 ad) : ∀ (n : Nat), ∀ (x1 : Int32) (x2 : Int32) (x3 : Int32) (x4 : Int32) (M : oa_M), BX5_assemble_156 n x1 x2 x3 x4 M = some o → ∀ (H : Heap) (locs : List Loc), oa_H D ca ad M H → va_S (fun q => b0 ≤ q) s.heap H locs → ∀ (ls : Array Slot), lv_has ls 5 [(0, .ref (ad 20 0)), (1, .int x1), (2, .int x2), (3, .int x3), (4, .int x4)] → W p l e ({ frames := 3, cells := 0, slots := 0, locals := 78 } : Room) s m args below meth c H locs 0 0 (MQ below (va_Qi (fun (r' : Int32) (u : oa_M) => r' = o.1 ∧ u = o.2) (fun u t => oa_H D ca ad u t.heap) (fun q => b0 ≤ q)) args s 0 0 (fun q => b0 ≤ q)) (F0 m 156 ls []) := by
  obtain ⟨hx, hb, hml, hr, hlocks, hown, hts, hE, hw⟩ := id C
  intro n
  induction n with
  | zero => intro x1 x2 x3 x4 M hf; cases hf
  | succ n ih =>
    intro x1 x2 x3 x4 M hf H locs hH hS ls hl
    have hrec156 := ih
    unfold BX5_assemble_156 at hf
    refine lv_iload hx hb dX5_assemble_156 (lv_at hl 4 rfl) ?_
    refine lv_aload_n hx hb dX5_assemble_158 rfl (lv_at hl 0 rfl) ?_
    refine oa_get (ci := 5) (C := RX5) (T := TX5) (N := 31) (v := .int (M 20 0 17)) hx hb hts inX5 hown hE hH 20 0 (by decide) rfl rfl 17 (by decide) (hts _ tw_632) rfl dX5_assemble_159 ?_
    refine lv_icmp_ge (tgt := 182) hx hb dX5_assemble_162 (by decide) (fun hq1 => ?_) (fun hq1 => ?_)
    · rw [if_pos hq1] at hf
      refine lv_iconst (v := (0 : Int32)) hx hb dX5_assemble_182 (by decide) ?_
      refine lv_istore (lv' := [(4, .int (0 : Int32)), (0, .ref (ad 20 0)), (1, .int x1), (2, .int x2), (3, .int x3)]) hx hb dX5_assemble_183 hl (by decide) rfl (fun ls hl => ?_)
      exact bX5_assemble_185 C n x1 x2 x3 (0 : Int32) _ hf _ _ hH hS _ (lv_sub hl [1, 2, 3, 4, 0] rfl)
    · rw [if_neg hq1] at hf
      refine lv_aload_n hx hb dX5_assemble_165 rfl (lv_at hl 0 rfl) ?_
      refine oa_get (ci := 5) (C := RX5) (T := TX5) (N := 31) (v := .ref (ad 45 0)) hx hb hts inX5 hown hE hH 20 0 (by decide) rfl rfl 25 (by decide) (hts _ tw_640) rfl dX5_assemble_166 ?_
      refine lv_iload hx hb dX5_assemble_169 (lv_at hl 4 rfl) ?_
      refine lv_dup2_11 hx hb dX5_assemble_171 rfl rfl ?_
      obtain ⟨hk2, hf⟩ := oa_ck hf
      refine oa_ild (v := (M 45 0 x4.toNatClampNeg)) hx hb hE hH 45 0 (by decide) 21 rfl rfl (oa_in_vp hk2) dX5_assemble_172 ?_
      refine lv_iload_n hx hb dX5_assemble_173 rfl (lv_at hl 1 rfl) ?_
      refine lv_iadd hx hb dX5_assemble_174 ?_
      obtain ⟨hk3, hf⟩ := oa_ck hf
      refine oa_ist hx hb hE hw hH hS 45 0 (by decide) 21 (fun _ => rfl) (oa_in_vp hk3) dX5_assemble_175 (fun H locs hH hS => ?_)
      refine lv_iinc (v := (x4 + (1 : Int32))) (lv' := [(4, .int (x4 + (1 : Int32))), (0, .ref (ad 20 0)), (1, .int x1), (2, .int x2), (3, .int x3)]) hx hb dX5_assemble_176 hl (k := 4) rfl rfl (by decide) rfl (fun ls hl => ?_)
      refine lv_goto (tgt := 156) hx hb dX5_assemble_179 (by decide) ?_
      exact hrec156 x1 x2 x3 (x4 + (1 : Int32)) _ hf _ _ hH hS _ (lv_sub hl [1, 2, 3, 4, 0] rfl)
set_option maxHeartbeats 4000000 in
set_option maxRecDepth 100000 in
theorem bX5_assemble_141 {p : Program} {l : Launch} {e : Env} {s : State} {m : MethodId} {args : Array Value} {below : List Frame} {meth : Method} {c : Code} {D : va_G} {ca : Nat → ClassId} {ad : Nat → Nat → Nat} {b0 : Nat} {o : Int32 × oa_M} (C : oa_Cx p s m args meth c cX5_assemble 5 (some .int) RX5 D ca b0 ad) : ∀ (n : Nat), ∀ (x1 : Int32) (x2 : Int32) (x3 : Int32) (x4 : Int32) (z1 : Int32) (M : oa_M), BX5_assemble_141 n x1 x2 x3 x4 z1 M = some o → ∀ (H : Heap) (locs : List Loc), oa_H D ca ad M H → va_S (fun q => b0 ≤ q) s.heap H locs → ∀ (ls : Array Slot), lv_has ls 5 [(0, .ref (ad 20 0)), (1, .int x1), (2, .int x2), (3, .int x3), (4, .int x4)] → W p l e ({ frames := 3, cells := 0, slots := 0, locals := 78 } : Room) s m args below meth c H locs 0 0 (MQ below (va_Qi (fun (r' : Int32) (u : oa_M) => r' = o.1 ∧ u = o.2) (fun u t => oa_H D ca ad u t.heap) (fun q => b0 ≤ q)) args s 0 0 (fun q => b0 ≤ q)) (F0 m 141 ls [.int z1, .ref (ad 20 0)]) := by
  obtain ⟨hx, hb, hml, hr, hlocks, hown, hts, hE, hw⟩ := id C
  intro n x1 x2 x3 x4 z1 M hf H locs hH hS ls hl
  unfold BX5_assemble_141 at hf
  refine oa_put (ci := 5) (C := RX5) (T := TX5) (N := 31) (v := .int z1) (x := z1) hx hb hts inX5 tyX5 tyX5_ok nmX5 hown hE hw hH hS 20 0 (by decide) rfl rfl 30 (by decide) (hts _ tw_645) rfl rfl rfl (Nat.le_of_ble_eq_true rfl) rfl dX5_assemble_141 (fun H locs hH hS => ?_)
  refine lv_aload_n hx hb dX5_assemble_144 rfl (lv_at hl 0 rfl) ?_
  refine oa_get (ci := 5) (C := RX5) (T := TX5) (N := 31) (v := .int z1) hx hb hts inX5 hown hE hH 20 0 (by decide) rfl rfl 30 (by decide) (hts _ tw_645) rfl dX5_assemble_145 ?_
  refine lv_if_eq (tgt := 153) hx hb dX5_assemble_148 (by decide) (fun hq1 => ?_) (fun hq1 => ?_)
  · rw [if_pos hq1] at hf
    refine lv_iconst (v := (0 : Int32)) hx hb dX5_assemble_153 (by decide) ?_
    refine lv_istore (lv' := [(4, .int (0 : Int32)), (0, .ref (ad 20 0)), (1, .int x1), (2, .int x2), (3, .int x3)]) hx hb dX5_assemble_154 hl (by decide) rfl (fun ls hl => ?_)
    exact bX5_assemble_156 C n x1 x2 x3 (0 : Int32) _ hf _ _ hH hS _ (lv_sub hl [1, 2, 3, 4, 0] rfl)
  · rw [if_neg hq1] at hf
    refine lv_iconst (v := (0 : Int32)) hx hb dX5_assemble_151 (by decide) ?_
    cases hf
    exact oa_reti hx hb hr hlocks rfl hS hH dX5_assemble_152
set_option maxHeartbeats 4000000 in
set_option maxRecDepth 100000 in
theorem bX5_assemble_136 {p : Program} {l : Launch} {e : Env} {s : State} {m : MethodId} {args : Array Value} {below : List Frame} {meth : Method} {c : Code} {D : va_G} {ca : Nat → ClassId} {ad : Nat → Nat → Nat} {b0 : Nat} {o : Int32 × oa_M} (C : oa_Cx p s m args meth c cX5_assemble 5 (some .int) RX5 D ca b0 ad) : ∀ (n : Nat), ∀ (x1 : Int32) (x2 : Int32) (x3 : Int32) (x4 : Int32) (M : oa_M), BX5_assemble_136 n x1 x2 x3 x4 M = some o → ∀ (H : Heap) (locs : List Loc), oa_H D ca ad M H → va_S (fun q => b0 ≤ q) s.heap H locs → ∀ (ls : Array Slot), lv_has ls 5 [(0, .ref (ad 20 0)), (1, .int x1), (2, .int x2), (3, .int x3), (4, .int x4)] → W p l e ({ frames := 3, cells := 0, slots := 0, locals := 78 } : Room) s m args below meth c H locs 0 0 (MQ below (va_Qi (fun (r' : Int32) (u : oa_M) => r' = o.1 ∧ u = o.2) (fun u t => oa_H D ca ad u t.heap) (fun q => b0 ≤ q)) args s 0 0 (fun q => b0 ≤ q)) (F0 m 136 ls [.ref (ad 20 0)]) := by
  obtain ⟨hx, hb, hml, hr, hlocks, hown, hts, hE, hw⟩ := id C
  intro n x1 x2 x3 x4 M hf H locs hH hS ls hl
  unfold BX5_assemble_136 at hf
  refine lv_iconst (v := (3 : Int32)) hx hb dX5_assemble_136 (by decide) ?_
  refine lv_goto (tgt := 141) hx hb dX5_assemble_137 (by decide) ?_
  exact bX5_assemble_141 C n x1 x2 x3 x4 (3 : Int32) _ hf _ _ hH hS _ (lv_sub hl [0, 1, 2, 3, 4] rfl)
set_option maxHeartbeats 4000000 in
set_option maxRecDepth 100000 in
theorem bX5_assemble_109 {p : Program} {l : Launch} {e : Env} {s : State} {m : MethodId} {args : Array Value} {below : List Frame} {meth : Method} {c : Code} {D : va_G} {ca : Nat → ClassId} {ad : Nat → Nat → Nat} {b0 : Nat} {o : Int32 × oa_M} (C : oa_Cx p s m args meth c cX5_assemble 5 (some .int) RX5 D ca b0 ad) (rec51 : Int32 → Int32 → Int32 → Int32 → oa_M → Option (Int32 × oa_M)) (hrec51 : ∀ (x1 : Int32) (x2 : Int32) (x3 : Int32) (x4 : Int32) (M : oa_M), rec51 x1 x2 x3 x4 M = some o → ∀ (H : Heap) (locs : List Loc), oa_H D ca ad M H → va_S (fun q => b0 ≤ q) s.heap H locs → ∀ (ls : Array Slot), lv_has ls 5 [(0, .ref (ad 20 0)), (1, .int x1), (2, .int x2), (3, .int x3), (4, .int x4)] → W p l e ({ frames := 3, cells := 0, slots := 0, locals := 78 } : Room) s m args below meth c H locs 0 0 (MQ below (va_Qi (fun (r' : Int32) (u : oa_M) => r' = o.1 ∧ u = o.2) (fun u t => oa_H D ca ad u t.heap) (fun q => b0 ≤ q)) args s 0 0 (fun q => b0 ≤ q)) (F0 m 51 ls [])) : ∀ (n : Nat), ∀ (x1 : Int32) (x2 : Int32) (x3 : Int32) (x4 : Int32) (z0 : Int32) (z1 : Int32) (M : oa_M), BX5_assemble_109 rec51 n x1 x2 x3 x4 z0 z1 M = some o → ∀ (H : Heap) (locs : List Loc), oa_H D ca ad M H → va_S (fun q => b0 ≤ q) s.heap H locs → ∀ (ls : Array Slot), lv_has ls 5 [(0, .ref (ad 20 0)), (1, .int x1), (2, .int x2), (3, .int x3), (4, .int x4)] → W p l e ({ frames := 3, cells := 0, slots := 0, locals := 78 } : Room) s m args below meth c H locs 0 0 (MQ below (va_Qi (fun (r' : Int32) (u : oa_M) => r' = o.1 ∧ u = o.2) (fun u t => oa_H D ca ad u t.heap) (fun q => b0 ≤ q)) args s 0 0 (fun q => b0 ≤ q)) (F0 m 109 ls [.int z1, .int z0]) := by
  obtain ⟨hx, hb, hml, hr, hlocks, hown, hts, hE, hw⟩ := id C
  intro n x1 x2 x3 x4 z0 z1 M hf H locs hH hS ls hl
  unfold BX5_assemble_109 at hf
  refine lv_iadd hx hb dX5_assemble_109 ?_
  refine lv_istore_n (lv' := [(3, .int (z0 + z1)), (0, .ref (ad 20 0)), (1, .int x1), (2, .int x2), (4, .int x4)]) hx hb dX5_assemble_110 rfl hl (by decide) rfl (fun ls hl => ?_)
  refine lv_iinc (v := (x4 + (1 : Int32))) (lv' := [(4, .int (x4 + (1 : Int32))), (3, .int (z0 + z1)), (0, .ref (ad 20 0)), (1, .int x1), (2, .int x2)]) hx hb dX5_assemble_111 hl (k := 4) rfl rfl (by decide) rfl (fun ls hl => ?_)
  refine lv_goto (tgt := 51) hx hb dX5_assemble_114 (by decide) ?_
  exact hrec51 x1 x2 (z0 + z1) (x4 + (1 : Int32)) _ hf _ _ hH hS _ (lv_sub hl [2, 3, 4, 1, 0] rfl)
set_option maxHeartbeats 4000000 in
set_option maxRecDepth 100000 in
theorem bX5_assemble_51 {p : Program} {l : Launch} {e : Env} {s : State} {m : MethodId} {args : Array Value} {below : List Frame} {meth : Method} {c : Code} {D : va_G} {ca : Nat → ClassId} {ad : Nat → Nat → Nat} {b0 : Nat} {o : Int32 × oa_M} (C : oa_Cx p s m args meth c cX5_assemble 5 (some .int) RX5 D ca b0 ad) : ∀ (n : Nat), ∀ (x1 : Int32) (x2 : Int32) (x3 : Int32) (x4 : Int32) (M : oa_M), BX5_assemble_51 n x1 x2 x3 x4 M = some o → ∀ (H : Heap) (locs : List Loc), oa_H D ca ad M H → va_S (fun q => b0 ≤ q) s.heap H locs → ∀ (ls : Array Slot), lv_has ls 5 [(0, .ref (ad 20 0)), (1, .int x1), (2, .int x2), (3, .int x3), (4, .int x4)] → W p l e ({ frames := 3, cells := 0, slots := 0, locals := 78 } : Room) s m args below meth c H locs 0 0 (MQ below (va_Qi (fun (r' : Int32) (u : oa_M) => r' = o.1 ∧ u = o.2) (fun u t => oa_H D ca ad u t.heap) (fun q => b0 ≤ q)) args s 0 0 (fun q => b0 ≤ q)) (F0 m 51 ls []) := by
  obtain ⟨hx, hb, hml, hr, hlocks, hown, hts, hE, hw⟩ := id C
  intro n
  induction n with
  | zero => intro x1 x2 x3 x4 M hf; cases hf
  | succ n ih =>
    intro x1 x2 x3 x4 M hf H locs hH hS ls hl
    have hrec51 := ih
    unfold BX5_assemble_51 at hf
    refine lv_iload hx hb dX5_assemble_51 (lv_at hl 4 rfl) ?_
    refine lv_aload_n hx hb dX5_assemble_53 rfl (lv_at hl 0 rfl) ?_
    refine oa_get (ci := 5) (C := RX5) (T := TX5) (N := 31) (v := .int (M 20 0 17)) hx hb hts inX5 hown hE hH 20 0 (by decide) rfl rfl 17 (by decide) (hts _ tw_632) rfl dX5_assemble_54 ?_
    refine lv_icmp_ge (tgt := 117) hx hb dX5_assemble_57 (by decide) (fun hq1 => ?_) (fun hq1 => ?_)
    · rw [if_pos hq1] at hf
      refine lv_aload_n hx hb dX5_assemble_117 rfl (lv_at hl 0 rfl) ?_
      refine lv_iload_n hx hb dX5_assemble_118 rfl (lv_at hl 1 rfl) ?_
      refine lv_iconst (v := (0 : Int32)) hx hb dX5_assemble_119 (by decide) ?_
      refine lv_bipush (v := (63 : Int32)) hx hb dX5_assemble_120 (by decide) ?_
      obtain ⟨r2, M3, hc4, hf⟩ := oa_bdE hf
      refine oa_csi (As := [.int x1, .int (0 : Int32), .int (63 : Int32)]) (rest := [.ref (ad 20 0)]) ⟨hx, hb, hml, hown, hts⟩ (cX5_outside_ok l D ca ad b0 hw n x1 (0 : Int32) (63 : Int32) _ _ _ hc4) (va_cwS 3 hts (oa_gS tw_753 tw_754 tw_49 tw_755) rfl rfl rfl (by decide +kernel) ⟨Nat.le_of_ble_eq_true rfl, Nat.le_of_ble_eq_true rfl⟩) hE hH hS rfl hl.1 rfl (Nat.le_of_ble_eq_true rfl) dX5_assemble_122 ⟨by decide, by decide⟩ (fun H locs hH hS => ?_)
      refine lv_if_ne (tgt := 136) hx hb dX5_assemble_125 (by decide) (fun hq5 => ?_) (fun hq5 => ?_)
      · rw [if_neg hq5] at hf
        exact bX5_assemble_136 C n x1 x2 x3 x4 _ hf _ _ hH hS _ (lv_sub hl [0, 1, 2, 3, 4] rfl)
      · rw [if_pos hq5] at hf
        refine lv_iload_n hx hb dX5_assemble_128 rfl (lv_at hl 1 rfl) ?_
        refine lv_iload_n hx hb dX5_assemble_129 rfl (lv_at hl 3 rfl) ?_
        refine lv_iadd hx hb dX5_assemble_130 ?_
        refine lv_bipush (v := (64 : Int32)) hx hb dX5_assemble_131 (by decide) ?_
        refine lv_icmp_le (tgt := 140) hx hb dX5_assemble_133 (by decide) (fun hq6 => ?_) (fun hq6 => ?_)
        · rw [if_pos hq6] at hf
          refine lv_iconst (v := (0 : Int32)) hx hb dX5_assemble_140 (by decide) ?_
          exact bX5_assemble_141 C n x1 x2 x3 x4 (0 : Int32) _ hf _ _ hH hS _ (lv_sub hl [0, 1, 2, 3, 4] rfl)
        · rw [if_neg hq6] at hf
          exact bX5_assemble_136 C n x1 x2 x3 x4 _ hf _ _ hH hS _ (lv_sub hl [0, 1, 2, 3, 4] rfl)
    · rw [if_neg hq1] at hf
      refine lv_aload_n hx hb dX5_assemble_60 rfl (lv_at hl 0 rfl) ?_
      refine oa_get (ci := 5) (C := RX5) (T := TX5) (N := 31) (v := .ref (ad 45 0)) hx hb hts inX5 hown hE hH 20 0 (by decide) rfl rfl 25 (by decide) (hts _ tw_640) rfl dX5_assemble_61 ?_
      refine lv_iload hx hb dX5_assemble_64 (lv_at hl 4 rfl) ?_
      refine lv_iload_n hx hb dX5_assemble_66 rfl (lv_at hl 3 rfl) ?_
      obtain ⟨hk7, hf⟩ := oa_ck hf
      refine oa_ist hx hb hE hw hH hS 45 0 (by decide) 21 (fun _ => rfl) (oa_in_vp hk7) dX5_assemble_67 (fun H locs hH hS => ?_)
      refine lv_iload_n hx hb dX5_assemble_68 rfl (lv_at hl 3 rfl) ?_
      refine lv_aload_n hx hb dX5_assemble_69 rfl (lv_at hl 0 rfl) ?_
      refine oa_get (ci := 5) (C := RX5) (T := TX5) (N := 31) (v := .ref (ad 39 0)) hx hb hts inX5 hown hE hH 20 0 (by decide) rfl rfl 19 (by decide) (hts _ tw_634) rfl dX5_assemble_70 ?_
      refine lv_iload hx hb dX5_assemble_73 (lv_at hl 4 rfl) ?_
      obtain ⟨hk8, hf⟩ := oa_ck hf
      refine oa_ild (v := (M 39 0 x4.toNatClampNeg)) hx hb hE hH 39 0 (by decide) 20 rfl rfl (oa_in_vp hk8) dX5_assemble_75 ?_
      refine lv_if_le (tgt := 108) hx hb dX5_assemble_76 (by decide) (fun hq9 => ?_) (fun hq9 => ?_)
      · rw [if_pos hq9] at hf
        refine lv_iconst (v := (0 : Int32)) hx hb dX5_assemble_108 (by decide) ?_
        exact bX5_assemble_109 C _ hrec51 n x1 x2 x3 x4 x3 (0 : Int32) _ hf _ _ hH hS _ (lv_sub hl [0, 1, 2, 3, 4] rfl)
      · rw [if_neg hq9] at hf
        refine lv_aload_n hx hb dX5_assemble_79 rfl (lv_at hl 0 rfl) ?_
        refine oa_get (ci := 5) (C := RX5) (T := TX5) (N := 31) (v := .ref (ad 26 0)) hx hb hts inX5 hown hE hH 20 0 (by decide) rfl rfl 6 (by decide) (hts _ tw_621) rfl dX5_assemble_80 ?_
        refine lv_aload_n hx hb dX5_assemble_83 rfl (lv_at hl 0 rfl) ?_
        refine lv_aload_n hx hb dX5_assemble_84 rfl (lv_at hl 0 rfl) ?_
        refine oa_get (ci := 5) (C := RX5) (T := TX5) (N := 31) (v := .ref (ad 39 0)) hx hb hts inX5 hown hE hH 20 0 (by decide) rfl rfl 19 (by decide) (hts _ tw_634) rfl dX5_assemble_85 ?_
        refine lv_iload hx hb dX5_assemble_88 (lv_at hl 4 rfl) ?_
        obtain ⟨hk10, hf⟩ := oa_ck hf
        refine oa_ild (v := (M 39 0 x4.toNatClampNeg)) hx hb hE hH 39 0 (by decide) 20 rfl rfl (oa_in_vp hk10) dX5_assemble_90 ?_
        refine lv_aload_n hx hb dX5_assemble_91 rfl (lv_at hl 0 rfl) ?_
        refine oa_get (ci := 5) (C := RX5) (T := TX5) (N := 31) (v := .ref (ad 40 0)) hx hb hts inX5 hown hE hH 20 0 (by decide) rfl rfl 20 (by decide) (hts _ tw_635) rfl dX5_assemble_92 ?_
        refine lv_iload hx hb dX5_assemble_95 (lv_at hl 4 rfl) ?_
        obtain ⟨hk11, hf⟩ := oa_ck hf
        refine oa_ild (v := (M 40 0 x4.toNatClampNeg)) hx hb hE hH 40 0 (by decide) 20 rfl rfl (oa_in_vp hk11) dX5_assemble_97 ?_
        obtain ⟨r12, M13, hc14, hf⟩ := oa_bdE hf
        refine oa_cvi (As := [.int (M 39 0 x4.toNatClampNeg), .int (M 40 0 x4.toNatClampNeg)]) (rest := [.ref (ad 26 0), .int x3]) ⟨hx, hb, hml, hown, hts⟩ (cX5_formOf_ok l D ca ad b0 hw n (M 39 0 x4.toNatClampNeg) (M 40 0 x4.toNatClampNeg) _ _ _ hc14) (cwV 2 hts (oa_gV tw_745 tw_747 tw_25 tw_49 tw_748) rfl rfl rfl (by decide +kernel) ⟨Nat.le_of_ble_eq_true rfl, Nat.le_of_ble_eq_true rfl⟩) hE hH hS (oa_recv (k := 20) (ci := 5) hE hH (by decide) rfl rfl) rfl hl.1 rfl (Nat.le_of_ble_eq_true rfl) dX5_assemble_98 ⟨by decide, by decide⟩ (fun H locs hH hS => ?_)
        obtain ⟨hk15, hf⟩ := oa_ck hf
        refine oa_ild (v := (M13 26 0 r12.toNatClampNeg)) hx hb hE hH 26 0 (by decide) 12 rfl rfl (oa_in_vp hk15) dX5_assemble_101 ?_
        refine lv_bipush (v := (8 : Int32)) hx hb dX5_assemble_102 (by decide) ?_
        refine lv_idiv hx hb dX5_assemble_104 (by decide) ?_
        refine lv_goto (tgt := 109) hx hb dX5_assemble_105 (by decide) ?_
        exact bX5_assemble_109 C _ hrec51 n x1 x2 x3 x4 x3 ((M13 26 0 r12.toNatClampNeg) / (8 : Int32)) _ hf _ _ hH hS _ (lv_sub hl [0, 1, 2, 3, 4] rfl)
set_option maxHeartbeats 4000000 in
set_option maxRecDepth 100000 in
theorem bX5_assemble_13 {p : Program} {l : Launch} {e : Env} {s : State} {m : MethodId} {args : Array Value} {below : List Frame} {meth : Method} {c : Code} {D : va_G} {ca : Nat → ClassId} {ad : Nat → Nat → Nat} {b0 : Nat} {o : Int32 × oa_M} (C : oa_Cx p s m args meth c cX5_assemble 5 (some .int) RX5 D ca b0 ad) : ∀ (n : Nat), ∀ (x1 : Int32) (z1 : Int32) (M : oa_M), BX5_assemble_13 n x1 z1 M = some o → ∀ (H : Heap) (locs : List Loc), oa_H D ca ad M H → va_S (fun q => b0 ≤ q) s.heap H locs → ∀ (ls : Array Slot), lv_has ls 5 [(0, .ref (ad 20 0)), (1, .int x1)] → W p l e ({ frames := 3, cells := 0, slots := 0, locals := 78 } : Room) s m args below meth c H locs 0 0 (MQ below (va_Qi (fun (r' : Int32) (u : oa_M) => r' = o.1 ∧ u = o.2) (fun u t => oa_H D ca ad u t.heap) (fun q => b0 ≤ q)) args s 0 0 (fun q => b0 ≤ q)) (F0 m 13 ls [.int z1, .ref (ad 20 0)]) := by
  obtain ⟨hx, hb, hml, hr, hlocks, hown, hts, hE, hw⟩ := id C
  intro n x1 z1 M hf H locs hH hS ls hl
  unfold BX5_assemble_13 at hf
  refine oa_put (ci := 5) (C := RX5) (T := TX5) (N := 31) (v := .int z1) (x := z1) hx hb hts inX5 tyX5 tyX5_ok nmX5 hown hE hw hH hS 20 0 (by decide) rfl rfl 30 (by decide) (hts _ tw_645) rfl rfl rfl (Nat.le_of_ble_eq_true rfl) rfl dX5_assemble_13 (fun H locs hH hS => ?_)
  refine lv_aload_n hx hb dX5_assemble_16 rfl (lv_at hl 0 rfl) ?_
  refine oa_get (ci := 5) (C := RX5) (T := TX5) (N := 31) (v := .int z1) hx hb hts inX5 hown hE hH 20 0 (by decide) rfl rfl 30 (by decide) (hts _ tw_645) rfl dX5_assemble_17 ?_
  refine lv_if_eq (tgt := 25) hx hb dX5_assemble_20 (by decide) (fun hq1 => ?_) (fun hq1 => ?_)
  · rw [if_pos hq1] at hf
    refine lv_aload_n hx hb dX5_assemble_25 rfl (lv_at hl 0 rfl) ?_
    obtain ⟨r2, M3, hc4, hf⟩ := oa_bdE hf
    refine oa_cvi (As := []) (rest := []) ⟨hx, hb, hml, hown, hts⟩ (cX5_missing_ok l D ca ad b0 hw n  _ _ _ hc4) (cwV 0 hts (oa_gV tw_854 tw_856 tw_39 tw_49 tw_857) rfl rfl rfl (by decide +kernel) ⟨Nat.le_of_ble_eq_true rfl, Nat.le_of_ble_eq_true rfl⟩) hE hH hS (oa_recv (k := 20) (ci := 5) hE hH (by decide) rfl rfl) rfl hl.1 rfl (Nat.le_of_ble_eq_true rfl) dX5_assemble_26 ⟨by decide, by decide⟩ (fun H locs hH hS => ?_)
    refine lv_istore_n (lv' := [(2, .int r2), (0, .ref (ad 20 0)), (1, .int x1)]) hx hb dX5_assemble_29 rfl hl (by decide) rfl (fun ls hl => ?_)
    refine lv_iload_n hx hb dX5_assemble_30 rfl (lv_at hl 0 rfl) ?_
    refine lv_if_lt (tgt := 46) hx hb dX5_assemble_31 (by decide) (fun hq5 => ?_) (fun hq5 => ?_)
    · rw [if_pos hq5] at hf
      refine lv_iconst (v := (0 : Int32)) hx hb dX5_assemble_46 (by decide) ?_
      refine lv_istore_n (lv' := [(3, .int (0 : Int32)), (2, .int r2), (0, .ref (ad 20 0)), (1, .int x1)]) hx hb dX5_assemble_47 rfl hl (by decide) rfl (fun ls hl => ?_)
      refine lv_iconst (v := (0 : Int32)) hx hb dX5_assemble_48 (by decide) ?_
      refine lv_istore (lv' := [(4, .int (0 : Int32)), (3, .int (0 : Int32)), (2, .int r2), (0, .ref (ad 20 0)), (1, .int x1)]) hx hb dX5_assemble_49 hl (by decide) rfl (fun ls hl => ?_)
      exact bX5_assemble_51 C n x1 r2 (0 : Int32) (0 : Int32) _ hf _ _ hH hS _ (lv_sub hl [3, 4, 2, 1, 0] rfl)
    · rw [if_neg hq5] at hf
      refine lv_aload_n hx hb dX5_assemble_34 rfl (lv_at hl 1 rfl) ?_
      refine lv_iload_n hx hb dX5_assemble_35 rfl (lv_at hl 0 rfl) ?_
      refine oa_put (ci := 5) (C := RX5) (T := TX5) (N := 31) (v := .int r2) (x := r2) hx hb hts inX5 tyX5 tyX5_ok nmX5 hown hE hw hH hS 20 0 (by decide) rfl rfl 27 (by decide) (hts _ tw_642) rfl rfl rfl (Nat.le_of_ble_eq_true rfl) rfl dX5_assemble_36 (fun H locs hH hS => ?_)
      refine lv_aload_n hx hb dX5_assemble_39 rfl (lv_at hl 1 rfl) ?_
      refine lv_iconst (v := (2 : Int32)) hx hb dX5_assemble_40 (by decide) ?_
      refine oa_put (ci := 5) (C := RX5) (T := TX5) (N := 31) (v := .int (2 : Int32)) (x := (2 : Int32)) hx hb hts inX5 tyX5 tyX5_ok nmX5 hown hE hw hH hS 20 0 (by decide) rfl rfl 30 (by decide) (hts _ tw_645) rfl rfl rfl (Nat.le_of_ble_eq_true rfl) rfl dX5_assemble_41 (fun H locs hH hS => ?_)
      refine lv_iconst (v := (0 : Int32)) hx hb dX5_assemble_44 (by decide) ?_
      cases hf
      exact oa_reti hx hb hr hlocks rfl hS hH dX5_assemble_45
  · rw [if_neg hq1] at hf
    refine lv_iconst (v := (0 : Int32)) hx hb dX5_assemble_23 (by decide) ?_
    cases hf
    exact oa_reti hx hb hr hlocks rfl hS hH dX5_assemble_24
set_option maxHeartbeats 4000000 in
set_option maxRecDepth 100000 in
theorem cX5_assemble_k (l : Launch) (D : va_G) (ca : Nat → ClassId) (ad : Nat → Nat → Nat) (b0 : Nat) (hw : oa_W ad b0) (n : Nat) (x1 : Int32) (M : oa_M) (o : Int32 × oa_M) (hf : FX5_assemble n x1 M = some o) : oa_Mi l yX5_assemble (oa_w yX5_assemble cX5_assemble 5 (some .int)) ({ frames := 3, cells := 0, slots := 0, locals := 78 } : Room) D ca ad b0 [.ref (ad 20 0), .int x1] M o.1 o.2 := by
  refine oa_ofW (cc := cX5_assemble) (maxL := 5) (ret := some .int) (by decide) rfl (Nat.le_of_ble_eq_true rfl) ?_
  intro p e s m below meth c hx hb hml hr hlocks hown hts0 hP ls hl
  obtain ⟨hH, hE⟩ := hP
  have hts : ∀ w ∈ oa_T, w.before _ s = true := fun w h => hts0 w (List.mem_cons_of_mem _ h)
  have hS : va_S (fun q => b0 ≤ q) s.heap s.heap [] := va_S.rf
  have C : oa_Cx p s m _ meth c cX5_assemble 5 (some .int) RX5 D ca b0 ad := ⟨hx, hb, hml, hr, hlocks, hown, hts, hE, hw⟩
  have hl : lv_has ls 5 [(0, .ref (ad 20 0)), (1, .int x1)] := hl
  unfold FX5_assemble at hf
  refine lv_aload_n hx hb dX5_assemble_0 rfl (lv_at hl 0 rfl) ?_
  refine lv_aload_n hx hb dX5_assemble_1 rfl (lv_at hl 0 rfl) ?_
  refine oa_get (ci := 5) (C := RX5) (T := TX5) (N := 31) (v := .int (M 20 0 13)) hx hb hts inX5 hown hE hH 20 0 (by decide) rfl rfl 13 (by decide) (hts _ tw_628) rfl dX5_assemble_2 ?_
  refine lv_if_eq (tgt := 12) hx hb dX5_assemble_5 (by decide) (fun hq1 => ?_) (fun hq1 => ?_)
  · rw [if_pos hq1] at hf
    refine lv_iconst (v := (1 : Int32)) hx hb dX5_assemble_12 (by decide) ?_
    exact bX5_assemble_13 C n x1 (1 : Int32) _ hf _ _ hH hS _ (lv_sub hl [0, 1] rfl)
  · rw [if_neg hq1] at hf
    refine lv_iconst (v := (0 : Int32)) hx hb dX5_assemble_8 (by decide) ?_
    refine lv_goto (tgt := 13) hx hb dX5_assemble_9 (by decide) ?_
    exact bX5_assemble_13 C n x1 (0 : Int32) _ hf _ _ hH hS _ (lv_sub hl [0, 1] rfl)
theorem cX5_assemble_ok (l : Launch) (D : va_G) (ca : Nat → ClassId) (ad : Nat → Nat → Nat) (b0 : Nat) (hw : oa_W ad b0) (n : Nat) (x1 : Int32) (M : oa_M) (r : Int32) (M' : oa_M) (hf : FX5_assemble n x1 M = some (r, M')) : oa_Mi l yX5_assemble (oa_w yX5_assemble cX5_assemble 5 (some .int)) ({ frames := 3, cells := 0, slots := 0, locals := 78 } : Room) D ca ad b0 [.ref (ad 20 0), .int x1] M r M' := cX5_assemble_k l D ca ad b0 hw n x1 M (r, M') hf
def FX5_fault (n : Nat)  (M : oa_M) : Option (Int32 × oa_M) := (some ((M 20 0 27), (oa_up M 20 0 30 (0 : Int32))))
set_option maxHeartbeats 4000000 in
set_option maxRecDepth 100000 in
theorem cX5_fault_k (l : Launch) (D : va_G) (ca : Nat → ClassId) (ad : Nat → Nat → Nat) (b0 : Nat) (hw : oa_W ad b0) (n : Nat)  (M : oa_M) (o : Int32 × oa_M) (hf : FX5_fault n  M = some o) : oa_Mi l yX5_fault (oa_w yX5_fault cX5_fault 1 (some .int)) ({ frames := 0, cells := 0, slots := 0, locals := 0 } : Room) D ca ad b0 [.ref (ad 20 0)] M o.1 o.2 := by
  refine oa_ofW (cc := cX5_fault) (maxL := 1) (ret := some .int) (by decide) rfl (Nat.le_of_ble_eq_true rfl) ?_
  intro p e s m below meth c hx hb hml hr hlocks hown hts0 hP ls hl
  obtain ⟨hH, hE⟩ := hP
  have hts : ∀ w ∈ oa_T, w.before _ s = true := fun w h => hts0 w (List.mem_cons_of_mem _ h)
  have hS : va_S (fun q => b0 ≤ q) s.heap s.heap [] := va_S.rf
  have C : oa_Cx p s m _ meth c cX5_fault 1 (some .int) RX5 D ca b0 ad := ⟨hx, hb, hml, hr, hlocks, hown, hts, hE, hw⟩
  have hl : lv_has ls 1 [(0, .ref (ad 20 0))] := hl
  unfold FX5_fault at hf
  refine lv_aload_n hx hb dX5_fault_0 rfl (lv_at hl 0 rfl) ?_
  refine lv_iconst (v := (0 : Int32)) hx hb dX5_fault_1 (by decide) ?_
  refine oa_put (ci := 5) (C := RX5) (T := TX5) (N := 31) (v := .int (0 : Int32)) (x := (0 : Int32)) hx hb hts inX5 tyX5 tyX5_ok nmX5 hown hE hw hH hS 20 0 (by decide) rfl rfl 30 (by decide) (hts _ tw_645) rfl rfl rfl (Nat.le_of_ble_eq_true rfl) rfl dX5_fault_2 (fun H locs hH hS => ?_)
  refine lv_aload_n hx hb dX5_fault_5 rfl (lv_at hl 0 rfl) ?_
  refine oa_get (ci := 5) (C := RX5) (T := TX5) (N := 31) (v := .int (M 20 0 27)) hx hb hts inX5 hown hE hH 20 0 (by decide) rfl rfl 27 (by decide) (hts _ tw_642) rfl dX5_fault_6 ?_
  cases hf
  exact oa_reti hx hb hr hlocks rfl hS hH dX5_fault_9
theorem cX5_fault_ok (l : Launch) (D : va_G) (ca : Nat → ClassId) (ad : Nat → Nat → Nat) (b0 : Nat) (hw : oa_W ad b0) (n : Nat)  (M : oa_M) (r : Int32) (M' : oa_M) (hf : FX5_fault n  M = some (r, M')) : oa_Mi l yX5_fault (oa_w yX5_fault cX5_fault 1 (some .int)) ({ frames := 0, cells := 0, slots := 0, locals := 0 } : Room) D ca ad b0 [.ref (ad 20 0)] M r M' := cX5_fault_k l D ca ad b0 hw n  M (r, M') hf
def BX5_count_61 (n : Nat) (x1 : Int32) (z0 : Int32) (M : oa_M) : Option (Int32 × oa_M) := (some (z0, M))
def FX5_count (n : Nat) (x1 : Int32) (M : oa_M) : Option (Int32 × oa_M) := (if x1 = 0 then (BX5_count_61 n x1 (M 20 0 4) (oa_up M 20 0 30 (0 : Int32))) else (if x1 = (1 : Int32) then (BX5_count_61 n x1 (M 20 0 17) (oa_up M 20 0 30 (0 : Int32))) else (if x1 = (2 : Int32) then (if (M 20 0 13) = 0 then (BX5_count_61 n x1 (0 : Int32) (oa_up M 20 0 30 (0 : Int32))) else (BX5_count_61 n x1 (1 : Int32) (oa_up M 20 0 30 (0 : Int32)))) else (if x1 = (3 : Int32) then (BX5_count_61 n x1 (M 20 0 0) (oa_up M 20 0 30 (0 : Int32))) else (BX5_count_61 n x1 (-1 : Int32) (oa_up M 20 0 30 (0 : Int32)))))))
set_option maxHeartbeats 4000000 in
set_option maxRecDepth 100000 in
theorem bX5_count_61 {p : Program} {l : Launch} {e : Env} {s : State} {m : MethodId} {args : Array Value} {below : List Frame} {meth : Method} {c : Code} {D : va_G} {ca : Nat → ClassId} {ad : Nat → Nat → Nat} {b0 : Nat} {o : Int32 × oa_M} (C : oa_Cx p s m args meth c cX5_count 2 (some .int) RX5 D ca b0 ad) : ∀ (n : Nat), ∀ (x1 : Int32) (z0 : Int32) (M : oa_M), BX5_count_61 n x1 z0 M = some o → ∀ (H : Heap) (locs : List Loc), oa_H D ca ad M H → va_S (fun q => b0 ≤ q) s.heap H locs → ∀ (ls : Array Slot), lv_has ls 2 [(0, .ref (ad 20 0)), (1, .int x1)] → W p l e ({ frames := 0, cells := 0, slots := 0, locals := 0 } : Room) s m args below meth c H locs 0 0 (MQ below (va_Qi (fun (r' : Int32) (u : oa_M) => r' = o.1 ∧ u = o.2) (fun u t => oa_H D ca ad u t.heap) (fun q => b0 ≤ q)) args s 0 0 (fun q => b0 ≤ q)) (F0 m 61 ls [.int z0]) := by
  obtain ⟨hx, hb, hml, hr, hlocks, hown, hts, hE, hw⟩ := id C
  intro n x1 z0 M hf H locs hH hS ls hl
  unfold BX5_count_61 at hf
  cases hf
  exact oa_reti hx hb hr hlocks rfl hS hH dX5_count_61
set_option maxHeartbeats 4000000 in
set_option maxRecDepth 100000 in
theorem cX5_count_k (l : Launch) (D : va_G) (ca : Nat → ClassId) (ad : Nat → Nat → Nat) (b0 : Nat) (hw : oa_W ad b0) (n : Nat) (x1 : Int32) (M : oa_M) (o : Int32 × oa_M) (hf : FX5_count n x1 M = some o) : oa_Mi l yX5_count (oa_w yX5_count cX5_count 2 (some .int)) ({ frames := 0, cells := 0, slots := 0, locals := 0 } : Room) D ca ad b0 [.ref (ad 20 0), .int x1] M o.1 o.2 := by
  refine oa_ofW (cc := cX5_count) (maxL := 2) (ret := some .int) (by decide) rfl (Nat.le_of_ble_eq_true rfl) ?_
  intro p e s m below meth c hx hb hml hr hlocks hown hts0 hP ls hl
  obtain ⟨hH, hE⟩ := hP
  have hts : ∀ w ∈ oa_T, w.before _ s = true := fun w h => hts0 w (List.mem_cons_of_mem _ h)
  have hS : va_S (fun q => b0 ≤ q) s.heap s.heap [] := va_S.rf
  have C : oa_Cx p s m _ meth c cX5_count 2 (some .int) RX5 D ca b0 ad := ⟨hx, hb, hml, hr, hlocks, hown, hts, hE, hw⟩
  have hl : lv_has ls 2 [(0, .ref (ad 20 0)), (1, .int x1)] := hl
  unfold FX5_count at hf
  refine lv_aload_n hx hb dX5_count_0 rfl (lv_at hl 0 rfl) ?_
  refine lv_iconst (v := (0 : Int32)) hx hb dX5_count_1 (by decide) ?_
  refine oa_put (ci := 5) (C := RX5) (T := TX5) (N := 31) (v := .int (0 : Int32)) (x := (0 : Int32)) hx hb hts inX5 tyX5 tyX5_ok nmX5 hown hE hw hH hS 20 0 (by decide) rfl rfl 30 (by decide) (hts _ tw_645) rfl rfl rfl (Nat.le_of_ble_eq_true rfl) rfl dX5_count_2 (fun H locs hH hS => ?_)
  refine lv_iload_n hx hb dX5_count_5 rfl (lv_at hl 1 rfl) ?_
  refine lv_if_ne (tgt := 16) hx hb dX5_count_6 (by decide) (fun hq1 => ?_) (fun hq1 => ?_)
  · rw [if_neg hq1] at hf
    refine lv_iload_n hx hb dX5_count_16 rfl (lv_at hl 1 rfl) ?_
    refine lv_iconst (v := (1 : Int32)) hx hb dX5_count_17 (by decide) ?_
    refine lv_icmp_ne (tgt := 28) hx hb dX5_count_18 (by decide) (fun hq2 => ?_) (fun hq2 => ?_)
    · rw [if_neg hq2] at hf
      refine lv_iload_n hx hb dX5_count_28 rfl (lv_at hl 1 rfl) ?_
      refine lv_iconst (v := (2 : Int32)) hx hb dX5_count_29 (by decide) ?_
      refine lv_icmp_ne (tgt := 48) hx hb dX5_count_30 (by decide) (fun hq3 => ?_) (fun hq3 => ?_)
      · rw [if_neg hq3] at hf
        refine lv_iload_n hx hb dX5_count_48 rfl (lv_at hl 1 rfl) ?_
        refine lv_iconst (v := (3 : Int32)) hx hb dX5_count_49 (by decide) ?_
        refine lv_icmp_ne (tgt := 60) hx hb dX5_count_50 (by decide) (fun hq4 => ?_) (fun hq4 => ?_)
        · rw [if_neg hq4] at hf
          refine lv_iconst (v := (-1 : Int32)) hx hb dX5_count_60 (by decide) ?_
          exact bX5_count_61 C n x1 (-1 : Int32) _ hf _ _ hH hS _ (lv_sub hl [0, 1] rfl)
        · rw [if_pos hq4] at hf
          refine lv_aload_n hx hb dX5_count_53 rfl (lv_at hl 0 rfl) ?_
          refine oa_get (ci := 5) (C := RX5) (T := TX5) (N := 31) (v := .int (M 20 0 0)) hx hb hts inX5 hown hE hH 20 0 (by decide) rfl rfl 0 (by decide) (hts _ tw_615) rfl dX5_count_54 ?_
          refine lv_goto (tgt := 61) hx hb dX5_count_57 (by decide) ?_
          exact bX5_count_61 C n x1 (M 20 0 0) _ hf _ _ hH hS _ (lv_sub hl [0, 1] rfl)
      · rw [if_pos hq3] at hf
        refine lv_aload_n hx hb dX5_count_33 rfl (lv_at hl 0 rfl) ?_
        refine oa_get (ci := 5) (C := RX5) (T := TX5) (N := 31) (v := .int (M 20 0 13)) hx hb hts inX5 hown hE hH 20 0 (by decide) rfl rfl 13 (by decide) (hts _ tw_628) rfl dX5_count_34 ?_
        refine lv_if_eq (tgt := 44) hx hb dX5_count_37 (by decide) (fun hq5 => ?_) (fun hq5 => ?_)
        · rw [if_pos hq5] at hf
          refine lv_iconst (v := (0 : Int32)) hx hb dX5_count_44 (by decide) ?_
          refine lv_goto (tgt := 61) hx hb dX5_count_45 (by decide) ?_
          exact bX5_count_61 C n x1 (0 : Int32) _ hf _ _ hH hS _ (lv_sub hl [0, 1] rfl)
        · rw [if_neg hq5] at hf
          refine lv_iconst (v := (1 : Int32)) hx hb dX5_count_40 (by decide) ?_
          refine lv_goto (tgt := 61) hx hb dX5_count_41 (by decide) ?_
          exact bX5_count_61 C n x1 (1 : Int32) _ hf _ _ hH hS _ (lv_sub hl [0, 1] rfl)
    · rw [if_pos hq2] at hf
      refine lv_aload_n hx hb dX5_count_21 rfl (lv_at hl 0 rfl) ?_
      refine oa_get (ci := 5) (C := RX5) (T := TX5) (N := 31) (v := .int (M 20 0 17)) hx hb hts inX5 hown hE hH 20 0 (by decide) rfl rfl 17 (by decide) (hts _ tw_632) rfl dX5_count_22 ?_
      refine lv_goto (tgt := 61) hx hb dX5_count_25 (by decide) ?_
      exact bX5_count_61 C n x1 (M 20 0 17) _ hf _ _ hH hS _ (lv_sub hl [0, 1] rfl)
  · rw [if_pos hq1] at hf
    refine lv_aload_n hx hb dX5_count_9 rfl (lv_at hl 0 rfl) ?_
    refine oa_get (ci := 5) (C := RX5) (T := TX5) (N := 31) (v := .int (M 20 0 4)) hx hb hts inX5 hown hE hH 20 0 (by decide) rfl rfl 4 (by decide) (hts _ tw_619) rfl dX5_count_10 ?_
    refine lv_goto (tgt := 61) hx hb dX5_count_13 (by decide) ?_
    exact bX5_count_61 C n x1 (M 20 0 4) _ hf _ _ hH hS _ (lv_sub hl [0, 1] rfl)
theorem cX5_count_ok (l : Launch) (D : va_G) (ca : Nat → ClassId) (ad : Nat → Nat → Nat) (b0 : Nat) (hw : oa_W ad b0) (n : Nat) (x1 : Int32) (M : oa_M) (r : Int32) (M' : oa_M) (hf : FX5_count n x1 M = some (r, M')) : oa_Mi l yX5_count (oa_w yX5_count cX5_count 2 (some .int)) ({ frames := 0, cells := 0, slots := 0, locals := 0 } : Room) D ca ad b0 [.ref (ad 20 0), .int x1] M r M' := cX5_count_k l D ca ad b0 hw n x1 M (r, M') hf

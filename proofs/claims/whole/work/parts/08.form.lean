def BX0_begin_27 : Nat → Nat → Int32 → Int32 → Int32 → oa_M → Option (oa_M)
  | 0, _, _, _, _, _ => none
  | n + 1, n0, x1, x2, x3, M => (if (3 : Int32) ≤ x3 then (some M) else (if oa_in x3 3 = true then (if oa_in x3 3 = true then (BX0_begin_27 n n0 x1 x2 (x3 + (1 : Int32)) (oa_up (oa_up M 7 (3 * n0 + x3.toNatClampNeg) 0 (0 : Int32)) 7 (3 * n0 + x3.toNatClampNeg) 1 (0 : Int32))) else none) else none))
def FX0_begin (n : Nat) (n0 : Nat) (x1 : Int32) (x2 : Int32) (M : oa_M) : Option (oa_M) := (BX0_begin_27 n n0 x1 x2 (0 : Int32) (oa_up (oa_up (oa_up (oa_up (oa_up M 5 n0 1 x1) 5 n0 2 x2) 5 n0 3 (0 : Int32)) 5 n0 4 (0 : Int32)) 5 n0 5 (0 : Int32)))
set_option maxHeartbeats 4000000 in
set_option maxRecDepth 100000 in
theorem bX0_begin_27 {p : Program} {l : Launch} {e : Env} {s : State} {m : MethodId} {args : Array Value} {below : List Frame} {meth : Method} {c : Code} {D : va_G} {ca : Nat → ClassId} {ad : Nat → Nat → Nat} {b0 : Nat} {o : oa_M} (C : oa_Cx p s m args meth c cX0_begin 4 (none) RX0 D ca b0 ad) : ∀ (n : Nat), ∀ (n0 : Nat) (hn0 : n0 < oa_n 5) (x1 : Int32) (x2 : Int32) (x3 : Int32) (M : oa_M), BX0_begin_27 n n0 x1 x2 x3 M = some o → ∀ (H : Heap) (locs : List Loc), oa_H D ca ad M H → va_S (fun q => b0 ≤ q) s.heap H locs → ∀ (ls : Array Slot), lv_has ls 4 [(0, .ref (ad 5 n0)), (1, .int x1), (2, .int x2), (3, .int x3)] → W p l e ({ frames := 0, cells := 0, slots := 0, locals := 0 } : Room) s m args below meth c H locs 0 0 (MQ below (va_Qv (fun (u : oa_M) => u = o) (fun u t => oa_H D ca ad u t.heap) (fun q => b0 ≤ q)) args s 0 0 (fun q => b0 ≤ q)) (F0 m 27 ls []) := by
  obtain ⟨hx, hb, hml, hr, hlocks, hown, hts, hE, hw⟩ := id C
  intro n
  induction n with
  | zero => intro n0 hn0 x1 x2 x3 M hf; cases hf
  | succ n ih =>
    intro n0 hn0 x1 x2 x3 M hf H locs hH hS ls hl
    have hrec27 := ih
    unfold BX0_begin_27 at hf
    refine lv_iload_n hx hb dX0_begin_27 rfl (lv_at hl 3 rfl) ?_
    refine lv_aload_n hx hb dX0_begin_28 rfl (lv_at hl 0 rfl) ?_
    refine oa_get (ci := 0) (C := RX0) (T := TX0) (N := 6) (v := .ref (ad 6 n0)) hx hb hts inX0 hown hE hH 5 n0 hn0 rfl rfl 0 (by decide) (hts _ tw_121) rfl dX0_begin_29 ?_
    refine oa_len (v := (3 : Int32)) hx hb hE hH 6 n0 hn0 5 rfl rfl rfl dX0_begin_32 ?_
    refine lv_icmp_ge (tgt := 62) hx hb dX0_begin_33 (by decide) (fun hq1 => ?_) (fun hq1 => ?_)
    · rw [if_pos hq1] at hf
      cases hf
      exact oa_retv hx hb hr hlocks hS hH dX0_begin_62
    · rw [if_neg hq1] at hf
      refine lv_aload_n hx hb dX0_begin_36 rfl (lv_at hl 0 rfl) ?_
      refine oa_get (ci := 0) (C := RX0) (T := TX0) (N := 6) (v := .ref (ad 6 n0)) hx hb hts inX0 hown hE hH 5 n0 hn0 rfl rfl 0 (by decide) (hts _ tw_121) rfl dX0_begin_37 ?_
      refine lv_iload_n hx hb dX0_begin_40 rfl (lv_at hl 3 rfl) ?_
      obtain ⟨hk2, hf⟩ := oa_ck hf
      refine oa_ald (g := fun j => ad 7 (3 * n0 + j)) hx hb hE hH 6 n0 hn0 3 5 rfl rfl (oa_in_vp hk2) dX0_begin_41 ?_
      refine lv_iconst (v := (0 : Int32)) hx hb dX0_begin_42 (by decide) ?_
      refine oa_put (ci := 2) (C := RX2) (T := TX2) (N := 5) (v := .int (0 : Int32)) (x := (0 : Int32)) hx hb hts inX2 tyX2 tyX2_ok nmX2 hown hE hw hH hS 7 (3 * n0 + x3.toNatClampNeg) (oa_lt7 hn0 (oa_in_vp hk2)) rfl rfl 0 (by decide) (hts _ tw_98) rfl rfl rfl (Nat.le_of_ble_eq_true rfl) rfl dX0_begin_43 (fun H locs hH hS => ?_)
      refine lv_aload_n hx hb dX0_begin_46 rfl (lv_at hl 0 rfl) ?_
      refine oa_get (ci := 0) (C := RX0) (T := TX0) (N := 6) (v := .ref (ad 6 n0)) hx hb hts inX0 hown hE hH 5 n0 hn0 rfl rfl 0 (by decide) (hts _ tw_121) rfl dX0_begin_47 ?_
      refine lv_iload_n hx hb dX0_begin_50 rfl (lv_at hl 3 rfl) ?_
      obtain ⟨hk3, hf⟩ := oa_ck hf
      refine oa_ald (g := fun j => ad 7 (3 * n0 + j)) hx hb hE hH 6 n0 hn0 3 5 rfl rfl (oa_in_vp hk3) dX0_begin_51 ?_
      refine lv_iconst (v := (0 : Int32)) hx hb dX0_begin_52 (by decide) ?_
      refine oa_put (ci := 2) (C := RX2) (T := TX2) (N := 5) (v := .int (0 : Int32)) (x := (0 : Int32)) hx hb hts inX2 tyX2 tyX2_ok nmX2 hown hE hw hH hS 7 (3 * n0 + x3.toNatClampNeg) (oa_lt7 hn0 (oa_in_vp hk3)) rfl rfl 1 (by decide) (hts _ tw_100) rfl rfl rfl (Nat.le_of_ble_eq_true rfl) rfl dX0_begin_53 (fun H locs hH hS => ?_)
      refine lv_iinc (v := (x3 + (1 : Int32))) (lv' := [(3, .int (x3 + (1 : Int32))), (0, .ref (ad 5 n0)), (1, .int x1), (2, .int x2)]) hx hb dX0_begin_56 hl (k := 3) rfl rfl (by decide) rfl (fun ls hl => ?_)
      refine lv_goto (tgt := 27) hx hb dX0_begin_59 (by decide) ?_
      exact hrec27 n0 hn0 x1 x2 (x3 + (1 : Int32)) _ hf _ _ hH hS _ (lv_sub hl [1, 2, 3, 0] rfl)
set_option maxHeartbeats 4000000 in
set_option maxRecDepth 100000 in
theorem cX0_begin_k (l : Launch) (D : va_G) (ca : Nat → ClassId) (ad : Nat → Nat → Nat) (b0 : Nat) (hw : oa_W ad b0) (n : Nat) (n0 : Nat) (hn0 : n0 < oa_n 5) (x1 : Int32) (x2 : Int32) (M : oa_M) (o : oa_M) (hf : FX0_begin n n0 x1 x2 M = some o) : oa_Mv l yX0_begin (oa_w yX0_begin cX0_begin 4 none) ({ frames := 0, cells := 0, slots := 0, locals := 0 } : Room) D ca ad b0 [.ref (ad 5 n0), .int x1, .int x2] M o := by
  refine oa_ofW (cc := cX0_begin) (maxL := 4) (ret := none) (by decide) rfl (Nat.le_of_ble_eq_true rfl) ?_
  intro p e s m below meth c hx hb hml hr hlocks hown hts0 hP ls hl
  obtain ⟨hH, hE⟩ := hP
  have hts : ∀ w ∈ oa_T, w.before _ s = true := fun w h => hts0 w (List.mem_cons_of_mem _ h)
  have hS : va_S (fun q => b0 ≤ q) s.heap s.heap [] := va_S.rf
  have C : oa_Cx p s m _ meth c cX0_begin 4 (none) RX0 D ca b0 ad := ⟨hx, hb, hml, hr, hlocks, hown, hts, hE, hw⟩
  have hl : lv_has ls 4 [(0, .ref (ad 5 n0)), (1, .int x1), (2, .int x2)] := hl
  unfold FX0_begin at hf
  refine lv_aload_n hx hb dX0_begin_0 rfl (lv_at hl 0 rfl) ?_
  refine lv_iload_n hx hb dX0_begin_1 rfl (lv_at hl 1 rfl) ?_
  refine oa_put (ci := 0) (C := RX0) (T := TX0) (N := 6) (v := .int x1) (x := x1) hx hb hts inX0 tyX0 tyX0_ok nmX0 hown hE hw hH hS 5 n0 hn0 rfl rfl 1 (by decide) (hts _ tw_123) rfl rfl rfl (Nat.le_of_ble_eq_true rfl) rfl dX0_begin_2 (fun H locs hH hS => ?_)
  refine lv_aload_n hx hb dX0_begin_5 rfl (lv_at hl 0 rfl) ?_
  refine lv_iload_n hx hb dX0_begin_6 rfl (lv_at hl 2 rfl) ?_
  refine oa_put (ci := 0) (C := RX0) (T := TX0) (N := 6) (v := .int x2) (x := x2) hx hb hts inX0 tyX0 tyX0_ok nmX0 hown hE hw hH hS 5 n0 hn0 rfl rfl 2 (by decide) (hts _ tw_125) rfl rfl rfl (Nat.le_of_ble_eq_true rfl) rfl dX0_begin_7 (fun H locs hH hS => ?_)
  refine lv_aload_n hx hb dX0_begin_10 rfl (lv_at hl 0 rfl) ?_
  refine lv_iconst (v := (0 : Int32)) hx hb dX0_begin_11 (by decide) ?_
  refine oa_put (ci := 0) (C := RX0) (T := TX0) (N := 6) (v := .int (0 : Int32)) (x := (0 : Int32)) hx hb hts inX0 tyX0 tyX0_ok nmX0 hown hE hw hH hS 5 n0 hn0 rfl rfl 3 (by decide) (hts _ tw_127) rfl rfl rfl (Nat.le_of_ble_eq_true rfl) rfl dX0_begin_12 (fun H locs hH hS => ?_)
  refine lv_aload_n hx hb dX0_begin_15 rfl (lv_at hl 0 rfl) ?_
  refine lv_iconst (v := (0 : Int32)) hx hb dX0_begin_16 (by decide) ?_
  refine oa_put (ci := 0) (C := RX0) (T := TX0) (N := 6) (v := .int (0 : Int32)) (x := (0 : Int32)) hx hb hts inX0 tyX0 tyX0_ok nmX0 hown hE hw hH hS 5 n0 hn0 rfl rfl 4 (by decide) (hts _ tw_128) rfl rfl rfl (Nat.le_of_ble_eq_true rfl) rfl dX0_begin_17 (fun H locs hH hS => ?_)
  refine lv_aload_n hx hb dX0_begin_20 rfl (lv_at hl 0 rfl) ?_
  refine lv_iconst (v := (0 : Int32)) hx hb dX0_begin_21 (by decide) ?_
  refine oa_put (ci := 0) (C := RX0) (T := TX0) (N := 6) (v := .int (0 : Int32)) (x := (0 : Int32)) hx hb hts inX0 tyX0 tyX0_ok nmX0 hown hE hw hH hS 5 n0 hn0 rfl rfl 5 (by decide) (hts _ tw_130) rfl rfl rfl (Nat.le_of_ble_eq_true rfl) rfl dX0_begin_22 (fun H locs hH hS => ?_)
  refine lv_iconst (v := (0 : Int32)) hx hb dX0_begin_25 (by decide) ?_
  refine lv_istore_n (lv' := [(3, .int (0 : Int32)), (0, .ref (ad 5 n0)), (1, .int x1), (2, .int x2)]) hx hb dX0_begin_26 rfl hl (by decide) rfl (fun ls hl => ?_)
  exact bX0_begin_27 C n n0 hn0 x1 x2 (0 : Int32) _ hf _ _ hH hS _ (lv_sub hl [1, 2, 3, 0] rfl)
theorem cX0_begin_ok (l : Launch) (D : va_G) (ca : Nat → ClassId) (ad : Nat → Nat → Nat) (b0 : Nat) (hw : oa_W ad b0) (n : Nat) (n0 : Nat) (hn0 : n0 < oa_n 5) (x1 : Int32) (x2 : Int32) (M : oa_M) (o : oa_M) (hf : FX0_begin n n0 x1 x2 M = some o) : oa_Mv l yX0_begin (oa_w yX0_begin cX0_begin 4 none) ({ frames := 0, cells := 0, slots := 0, locals := 0 } : Room) D ca ad b0 [.ref (ad 5 n0), .int x1, .int x2] M o := cX0_begin_k l D ca ad b0 hw n n0 hn0 x1 x2 M o hf
def BX0_addSign_63 (n : Nat) (n0 : Nat) (x1 : Int32) (x2 : Int32) (x3 : Int32) (M : oa_M) : Option (Int32 × oa_M) := (some ((0 : Int32), M))
def BX0_addSign_45 (n : Nat) (n0 : Nat) (x1 : Int32) (x2 : Int32) (x3 : Int32) (k0 : Nat) (z1 : Int32) (z2 : Int32) (M : oa_M) : Option (Int32 × oa_M) := (some ((1 : Int32), (oa_up M 5 k0 4 (z1 ||| z2))))
def BX0_addSign_19 (n : Nat) (n0 : Nat) (x1 : Int32) (x2 : Int32) (x3 : Int32) (M : oa_M) : Option (Int32 × oa_M) := (if x2 = (49 : Int32) then (BX0_addSign_45 n n0 x1 x2 x3 n0 ((oa_up M 5 n0 3 ((M 5 n0 3) ||| x3)) 5 n0 4) x3 (oa_up M 5 n0 3 ((M 5 n0 3) ||| x3))) else (BX0_addSign_45 n n0 x1 x2 x3 n0 ((oa_up M 5 n0 3 ((M 5 n0 3) ||| x3)) 5 n0 4) (0 : Int32) (oa_up M 5 n0 3 ((M 5 n0 3) ||| x3))))
def FX0_addSign (n : Nat) (n0 : Nat) (x1 : Int32) (x2 : Int32) (M : oa_M) : Option (Int32 × oa_M) := (if x2 = (48 : Int32) then (BX0_addSign_19 n n0 x1 x2 ((1 : Int32) <<< (((23 : Int32) - x1) &&& 31)) M) else (if x2 = (49 : Int32) then (BX0_addSign_19 n n0 x1 x2 ((1 : Int32) <<< (((23 : Int32) - x1) &&& 31)) M) else (if x2 < (120 : Int32) then (BX0_addSign_63 n n0 x1 x2 ((1 : Int32) <<< (((23 : Int32) - x1) &&& 31)) M) else (if x2 ≤ (122 : Int32) then (if oa_in (x2 - (120 : Int32)) 3 = true then (if oa_in (x2 - (120 : Int32)) 3 = true then (some ((1 : Int32), (oa_up (oa_up M 7 (3 * n0 + (x2 - (120 : Int32)).toNatClampNeg) 0 ((M 7 (3 * n0 + (x2 - (120 : Int32)).toNatClampNeg) 0) ||| ((1 : Int32) <<< (((23 : Int32) - x1) &&& 31)))) 7 (3 * n0 + (x2 - (120 : Int32)).toNatClampNeg) 1 (((oa_up M 7 (3 * n0 + (x2 - (120 : Int32)).toNatClampNeg) 0 ((M 7 (3 * n0 + (x2 - (120 : Int32)).toNatClampNeg) 0) ||| ((1 : Int32) <<< (((23 : Int32) - x1) &&& 31)))) 7 (3 * n0 + (x2 - (120 : Int32)).toNatClampNeg) 1) + (1 : Int32))))) else none) else none) else (BX0_addSign_63 n n0 x1 x2 ((1 : Int32) <<< (((23 : Int32) - x1) &&& 31)) M)))))
set_option maxHeartbeats 4000000 in
set_option maxRecDepth 100000 in
theorem bX0_addSign_63 {p : Program} {l : Launch} {e : Env} {s : State} {m : MethodId} {args : Array Value} {below : List Frame} {meth : Method} {c : Code} {D : va_G} {ca : Nat → ClassId} {ad : Nat → Nat → Nat} {b0 : Nat} {o : Int32 × oa_M} (C : oa_Cx p s m args meth c cX0_addSign 4 (some .boolean) RX0 D ca b0 ad) : ∀ (n : Nat), ∀ (n0 : Nat) (hn0 : n0 < oa_n 5) (x1 : Int32) (x2 : Int32) (x3 : Int32) (M : oa_M), BX0_addSign_63 n n0 x1 x2 x3 M = some o → ∀ (H : Heap) (locs : List Loc), oa_H D ca ad M H → va_S (fun q => b0 ≤ q) s.heap H locs → ∀ (ls : Array Slot), lv_has ls 4 [(0, .ref (ad 5 n0)), (1, .int x1), (2, .int x2), (3, .int x3)] → W p l e ({ frames := 0, cells := 0, slots := 0, locals := 0 } : Room) s m args below meth c H locs 0 0 (MQ below (va_Qi (fun (r' : Int32) (u : oa_M) => r' = o.1 ∧ u = o.2) (fun u t => oa_H D ca ad u t.heap) (fun q => b0 ≤ q)) args s 0 0 (fun q => b0 ≤ q)) (F0 m 63 ls []) := by
  obtain ⟨hx, hb, hml, hr, hlocks, hown, hts, hE, hw⟩ := id C
  intro n n0 hn0 x1 x2 x3 M hf H locs hH hS ls hl
  unfold BX0_addSign_63 at hf
  refine lv_iconst (v := (0 : Int32)) hx hb dX0_addSign_63 (by decide) ?_
  cases hf
  exact oa_reti hx hb hr hlocks rfl hS hH dX0_addSign_64
set_option maxHeartbeats 4000000 in
set_option maxRecDepth 100000 in
theorem bX0_addSign_45 {p : Program} {l : Launch} {e : Env} {s : State} {m : MethodId} {args : Array Value} {below : List Frame} {meth : Method} {c : Code} {D : va_G} {ca : Nat → ClassId} {ad : Nat → Nat → Nat} {b0 : Nat} {o : Int32 × oa_M} (C : oa_Cx p s m args meth c cX0_addSign 4 (some .boolean) RX0 D ca b0 ad) : ∀ (n : Nat), ∀ (n0 : Nat) (hn0 : n0 < oa_n 5) (x1 : Int32) (x2 : Int32) (x3 : Int32) (k0 : Nat) (hk0 : k0 < oa_n 5) (z1 : Int32) (z2 : Int32) (M : oa_M), BX0_addSign_45 n n0 x1 x2 x3 k0 z1 z2 M = some o → ∀ (H : Heap) (locs : List Loc), oa_H D ca ad M H → va_S (fun q => b0 ≤ q) s.heap H locs → ∀ (ls : Array Slot), lv_has ls 4 [(0, .ref (ad 5 n0)), (1, .int x1), (2, .int x2), (3, .int x3)] → W p l e ({ frames := 0, cells := 0, slots := 0, locals := 0 } : Room) s m args below meth c H locs 0 0 (MQ below (va_Qi (fun (r' : Int32) (u : oa_M) => r' = o.1 ∧ u = o.2) (fun u t => oa_H D ca ad u t.heap) (fun q => b0 ≤ q)) args s 0 0 (fun q => b0 ≤ q)) (F0 m 45 ls [.int z2, .int z1, .ref (ad 5 k0)]) := by
  obtain ⟨hx, hb, hml, hr, hlocks, hown, hts, hE, hw⟩ := id C
  intro n n0 hn0 x1 x2 x3 k0 hk0 z1 z2 M hf H locs hH hS ls hl
  unfold BX0_addSign_45 at hf
  refine lv_ior hx hb dX0_addSign_45 ?_
  refine oa_put (ci := 0) (C := RX0) (T := TX0) (N := 6) (v := .int (z1 ||| z2)) (x := (z1 ||| z2)) hx hb hts inX0 tyX0 tyX0_ok nmX0 hown hE hw hH hS 5 k0 hk0 rfl rfl 4 (by decide) (hts _ tw_128) rfl rfl rfl (Nat.le_of_ble_eq_true rfl) rfl dX0_addSign_46 (fun H locs hH hS => ?_)
  refine lv_iconst (v := (1 : Int32)) hx hb dX0_addSign_49 (by decide) ?_
  cases hf
  exact oa_reti hx hb hr hlocks rfl hS hH dX0_addSign_50
set_option maxHeartbeats 4000000 in
set_option maxRecDepth 100000 in
theorem bX0_addSign_19 {p : Program} {l : Launch} {e : Env} {s : State} {m : MethodId} {args : Array Value} {below : List Frame} {meth : Method} {c : Code} {D : va_G} {ca : Nat → ClassId} {ad : Nat → Nat → Nat} {b0 : Nat} {o : Int32 × oa_M} (C : oa_Cx p s m args meth c cX0_addSign 4 (some .boolean) RX0 D ca b0 ad) : ∀ (n : Nat), ∀ (n0 : Nat) (hn0 : n0 < oa_n 5) (x1 : Int32) (x2 : Int32) (x3 : Int32) (M : oa_M), BX0_addSign_19 n n0 x1 x2 x3 M = some o → ∀ (H : Heap) (locs : List Loc), oa_H D ca ad M H → va_S (fun q => b0 ≤ q) s.heap H locs → ∀ (ls : Array Slot), lv_has ls 4 [(0, .ref (ad 5 n0)), (1, .int x1), (2, .int x2), (3, .int x3)] → W p l e ({ frames := 0, cells := 0, slots := 0, locals := 0 } : Room) s m args below meth c H locs 0 0 (MQ below (va_Qi (fun (r' : Int32) (u : oa_M) => r' = o.1 ∧ u = o.2) (fun u t => oa_H D ca ad u t.heap) (fun q => b0 ≤ q)) args s 0 0 (fun q => b0 ≤ q)) (F0 m 19 ls []) := by
  obtain ⟨hx, hb, hml, hr, hlocks, hown, hts, hE, hw⟩ := id C
  intro n n0 hn0 x1 x2 x3 M hf H locs hH hS ls hl
  unfold BX0_addSign_19 at hf
  refine lv_aload_n hx hb dX0_addSign_19 rfl (lv_at hl 0 rfl) ?_
  refine lv_dup hx hb dX0_addSign_20 rfl ?_
  refine oa_get (ci := 0) (C := RX0) (T := TX0) (N := 6) (v := .int (M 5 n0 3)) hx hb hts inX0 hown hE hH 5 n0 hn0 rfl rfl 3 (by decide) (hts _ tw_127) rfl dX0_addSign_21 ?_
  refine lv_iload_n hx hb dX0_addSign_24 rfl (lv_at hl 3 rfl) ?_
  refine lv_ior hx hb dX0_addSign_25 ?_
  refine oa_put (ci := 0) (C := RX0) (T := TX0) (N := 6) (v := .int ((M 5 n0 3) ||| x3)) (x := ((M 5 n0 3) ||| x3)) hx hb hts inX0 tyX0 tyX0_ok nmX0 hown hE hw hH hS 5 n0 hn0 rfl rfl 3 (by decide) (hts _ tw_127) rfl rfl rfl (Nat.le_of_ble_eq_true rfl) rfl dX0_addSign_26 (fun H locs hH hS => ?_)
  refine lv_aload_n hx hb dX0_addSign_29 rfl (lv_at hl 0 rfl) ?_
  refine lv_dup hx hb dX0_addSign_30 rfl ?_
  refine oa_get (ci := 0) (C := RX0) (T := TX0) (N := 6) (v := .int ((oa_up M 5 n0 3 ((M 5 n0 3) ||| x3)) 5 n0 4)) hx hb hts inX0 hown hE hH 5 n0 hn0 rfl rfl 4 (by decide) (hts _ tw_128) rfl dX0_addSign_31 ?_
  refine lv_iload_n hx hb dX0_addSign_34 rfl (lv_at hl 2 rfl) ?_
  refine lv_bipush (v := (49 : Int32)) hx hb dX0_addSign_35 (by decide) ?_
  refine lv_icmp_ne (tgt := 44) hx hb dX0_addSign_37 (by decide) (fun hq1 => ?_) (fun hq1 => ?_)
  · rw [if_neg hq1] at hf
    refine lv_iconst (v := (0 : Int32)) hx hb dX0_addSign_44 (by decide) ?_
    exact bX0_addSign_45 C n n0 hn0 x1 x2 x3 n0 hn0 ((oa_up M 5 n0 3 ((M 5 n0 3) ||| x3)) 5 n0 4) (0 : Int32) _ hf _ _ hH hS _ (lv_sub hl [0, 1, 2, 3] rfl)
  · rw [if_pos hq1] at hf
    refine lv_iload_n hx hb dX0_addSign_40 rfl (lv_at hl 3 rfl) ?_
    refine lv_goto (tgt := 45) hx hb dX0_addSign_41 (by decide) ?_
    exact bX0_addSign_45 C n n0 hn0 x1 x2 x3 n0 hn0 ((oa_up M 5 n0 3 ((M 5 n0 3) ||| x3)) 5 n0 4) x3 _ hf _ _ hH hS _ (lv_sub hl [0, 1, 2, 3] rfl)
set_option maxHeartbeats 4000000 in
set_option maxRecDepth 100000 in
theorem cX0_addSign_k (l : Launch) (D : va_G) (ca : Nat → ClassId) (ad : Nat → Nat → Nat) (b0 : Nat) (hw : oa_W ad b0) (n : Nat) (n0 : Nat) (hn0 : n0 < oa_n 5) (x1 : Int32) (x2 : Int32) (M : oa_M) (o : Int32 × oa_M) (hf : FX0_addSign n n0 x1 x2 M = some o) : oa_Mi l yX0_addSign (oa_w yX0_addSign cX0_addSign 4 (some .boolean)) ({ frames := 0, cells := 0, slots := 0, locals := 0 } : Room) D ca ad b0 [.ref (ad 5 n0), .int x1, .int x2] M o.1 o.2 := by
  refine oa_ofW (cc := cX0_addSign) (maxL := 4) (ret := some .boolean) (by decide) rfl (Nat.le_of_ble_eq_true rfl) ?_
  intro p e s m below meth c hx hb hml hr hlocks hown hts0 hP ls hl
  obtain ⟨hH, hE⟩ := hP
  have hts : ∀ w ∈ oa_T, w.before _ s = true := fun w h => hts0 w (List.mem_cons_of_mem _ h)
  have hS : va_S (fun q => b0 ≤ q) s.heap s.heap [] := va_S.rf
  have C : oa_Cx p s m _ meth c cX0_addSign 4 (some .boolean) RX0 D ca b0 ad := ⟨hx, hb, hml, hr, hlocks, hown, hts, hE, hw⟩
  have hl : lv_has ls 4 [(0, .ref (ad 5 n0)), (1, .int x1), (2, .int x2)] := hl
  unfold FX0_addSign at hf
  refine lv_iconst (v := (1 : Int32)) hx hb dX0_addSign_0 (by decide) ?_
  refine lv_bipush (v := (23 : Int32)) hx hb dX0_addSign_1 (by decide) ?_
  refine lv_iload_n hx hb dX0_addSign_3 rfl (lv_at hl 1 rfl) ?_
  refine lv_isub hx hb dX0_addSign_4 ?_
  refine lv_ishl hx hb dX0_addSign_5 ?_
  refine lv_istore_n (lv' := [(3, .int ((1 : Int32) <<< (((23 : Int32) - x1) &&& 31))), (0, .ref (ad 5 n0)), (1, .int x1), (2, .int x2)]) hx hb dX0_addSign_6 rfl hl (by decide) rfl (fun ls hl => ?_)
  refine lv_iload_n hx hb dX0_addSign_7 rfl (lv_at hl 3 rfl) ?_
  refine lv_bipush (v := (48 : Int32)) hx hb dX0_addSign_8 (by decide) ?_
  refine lv_icmp_eq (tgt := 19) hx hb dX0_addSign_10 (by decide) (fun hq1 => ?_) (fun hq1 => ?_)
  · rw [if_pos hq1] at hf
    exact bX0_addSign_19 C n n0 hn0 x1 x2 ((1 : Int32) <<< (((23 : Int32) - x1) &&& 31)) _ hf _ _ hH hS _ (lv_sub hl [1, 2, 3, 0] rfl)
  · rw [if_neg hq1] at hf
    refine lv_iload_n hx hb dX0_addSign_13 rfl (lv_at hl 3 rfl) ?_
    refine lv_bipush (v := (49 : Int32)) hx hb dX0_addSign_14 (by decide) ?_
    refine lv_icmp_ne (tgt := 51) hx hb dX0_addSign_16 (by decide) (fun hq2 => ?_) (fun hq2 => ?_)
    · rw [if_neg hq2] at hf
      refine lv_iload_n hx hb dX0_addSign_51 rfl (lv_at hl 3 rfl) ?_
      refine lv_bipush (v := (120 : Int32)) hx hb dX0_addSign_52 (by decide) ?_
      refine lv_icmp_lt (tgt := 63) hx hb dX0_addSign_54 (by decide) (fun hq3 => ?_) (fun hq3 => ?_)
      · rw [if_pos hq3] at hf
        exact bX0_addSign_63 C n n0 hn0 x1 x2 ((1 : Int32) <<< (((23 : Int32) - x1) &&& 31)) _ hf _ _ hH hS _ (lv_sub hl [1, 2, 3, 0] rfl)
      · rw [if_neg hq3] at hf
        refine lv_iload_n hx hb dX0_addSign_57 rfl (lv_at hl 3 rfl) ?_
        refine lv_bipush (v := (122 : Int32)) hx hb dX0_addSign_58 (by decide) ?_
        refine lv_icmp_le (tgt := 65) hx hb dX0_addSign_60 (by decide) (fun hq4 => ?_) (fun hq4 => ?_)
        · rw [if_pos hq4] at hf
          refine lv_aload_n hx hb dX0_addSign_65 rfl (lv_at hl 1 rfl) ?_
          refine oa_get (ci := 0) (C := RX0) (T := TX0) (N := 6) (v := .ref (ad 6 n0)) hx hb hts inX0 hown hE hH 5 n0 hn0 rfl rfl 0 (by decide) (hts _ tw_121) rfl dX0_addSign_66 ?_
          refine lv_iload_n hx hb dX0_addSign_69 rfl (lv_at hl 3 rfl) ?_
          refine lv_bipush (v := (120 : Int32)) hx hb dX0_addSign_70 (by decide) ?_
          refine lv_isub hx hb dX0_addSign_72 ?_
          obtain ⟨hk5, hf⟩ := oa_ck hf
          refine oa_ald (g := fun j => ad 7 (3 * n0 + j)) hx hb hE hH 6 n0 hn0 3 5 rfl rfl (oa_in_vp hk5) dX0_addSign_73 ?_
          refine lv_dup hx hb dX0_addSign_74 rfl ?_
          refine oa_get (ci := 2) (C := RX2) (T := TX2) (N := 5) (v := .int (M 7 (3 * n0 + (x2 - (120 : Int32)).toNatClampNeg) 0)) hx hb hts inX2 hown hE hH 7 (3 * n0 + (x2 - (120 : Int32)).toNatClampNeg) (oa_lt7 hn0 (oa_in_vp hk5)) rfl rfl 0 (by decide) (hts _ tw_98) rfl dX0_addSign_75 ?_
          refine lv_iload_n hx hb dX0_addSign_78 rfl (lv_at hl 0 rfl) ?_
          refine lv_ior hx hb dX0_addSign_79 ?_
          refine oa_put (ci := 2) (C := RX2) (T := TX2) (N := 5) (v := .int ((M 7 (3 * n0 + (x2 - (120 : Int32)).toNatClampNeg) 0) ||| ((1 : Int32) <<< (((23 : Int32) - x1) &&& 31)))) (x := ((M 7 (3 * n0 + (x2 - (120 : Int32)).toNatClampNeg) 0) ||| ((1 : Int32) <<< (((23 : Int32) - x1) &&& 31)))) hx hb hts inX2 tyX2 tyX2_ok nmX2 hown hE hw hH hS 7 (3 * n0 + (x2 - (120 : Int32)).toNatClampNeg) (oa_lt7 hn0 (oa_in_vp hk5)) rfl rfl 0 (by decide) (hts _ tw_98) rfl rfl rfl (Nat.le_of_ble_eq_true rfl) rfl dX0_addSign_80 (fun H locs hH hS => ?_)
          refine lv_aload_n hx hb dX0_addSign_83 rfl (lv_at hl 1 rfl) ?_
          refine oa_get (ci := 0) (C := RX0) (T := TX0) (N := 6) (v := .ref (ad 6 n0)) hx hb hts inX0 hown hE hH 5 n0 hn0 rfl rfl 0 (by decide) (hts _ tw_121) rfl dX0_addSign_84 ?_
          refine lv_iload_n hx hb dX0_addSign_87 rfl (lv_at hl 3 rfl) ?_
          refine lv_bipush (v := (120 : Int32)) hx hb dX0_addSign_88 (by decide) ?_
          refine lv_isub hx hb dX0_addSign_90 ?_
          obtain ⟨hk6, hf⟩ := oa_ck hf
          refine oa_ald (g := fun j => ad 7 (3 * n0 + j)) hx hb hE hH 6 n0 hn0 3 5 rfl rfl (oa_in_vp hk6) dX0_addSign_91 ?_
          refine lv_dup hx hb dX0_addSign_92 rfl ?_
          refine oa_get (ci := 2) (C := RX2) (T := TX2) (N := 5) (v := .int ((oa_up M 7 (3 * n0 + (x2 - (120 : Int32)).toNatClampNeg) 0 ((M 7 (3 * n0 + (x2 - (120 : Int32)).toNatClampNeg) 0) ||| ((1 : Int32) <<< (((23 : Int32) - x1) &&& 31)))) 7 (3 * n0 + (x2 - (120 : Int32)).toNatClampNeg) 1)) hx hb hts inX2 hown hE hH 7 (3 * n0 + (x2 - (120 : Int32)).toNatClampNeg) (oa_lt7 hn0 (oa_in_vp hk6)) rfl rfl 1 (by decide) (hts _ tw_100) rfl dX0_addSign_93 ?_
          refine lv_iconst (v := (1 : Int32)) hx hb dX0_addSign_96 (by decide) ?_
          refine lv_iadd hx hb dX0_addSign_97 ?_
          refine oa_put (ci := 2) (C := RX2) (T := TX2) (N := 5) (v := .int (((oa_up M 7 (3 * n0 + (x2 - (120 : Int32)).toNatClampNeg) 0 ((M 7 (3 * n0 + (x2 - (120 : Int32)).toNatClampNeg) 0) ||| ((1 : Int32) <<< (((23 : Int32) - x1) &&& 31)))) 7 (3 * n0 + (x2 - (120 : Int32)).toNatClampNeg) 1) + (1 : Int32))) (x := (((oa_up M 7 (3 * n0 + (x2 - (120 : Int32)).toNatClampNeg) 0 ((M 7 (3 * n0 + (x2 - (120 : Int32)).toNatClampNeg) 0) ||| ((1 : Int32) <<< (((23 : Int32) - x1) &&& 31)))) 7 (3 * n0 + (x2 - (120 : Int32)).toNatClampNeg) 1) + (1 : Int32))) hx hb hts inX2 tyX2 tyX2_ok nmX2 hown hE hw hH hS 7 (3 * n0 + (x2 - (120 : Int32)).toNatClampNeg) (oa_lt7 hn0 (oa_in_vp hk6)) rfl rfl 1 (by decide) (hts _ tw_100) rfl rfl rfl (Nat.le_of_ble_eq_true rfl) rfl dX0_addSign_98 (fun H locs hH hS => ?_)
          refine lv_iconst (v := (1 : Int32)) hx hb dX0_addSign_101 (by decide) ?_
          cases hf
          exact oa_reti hx hb hr hlocks rfl hS hH dX0_addSign_102
        · rw [if_neg hq4] at hf
          exact bX0_addSign_63 C n n0 hn0 x1 x2 ((1 : Int32) <<< (((23 : Int32) - x1) &&& 31)) _ hf _ _ hH hS _ (lv_sub hl [1, 2, 3, 0] rfl)
    · rw [if_pos hq2] at hf
      exact bX0_addSign_19 C n n0 hn0 x1 x2 ((1 : Int32) <<< (((23 : Int32) - x1) &&& 31)) _ hf _ _ hH hS _ (lv_sub hl [1, 2, 3, 0] rfl)
theorem cX0_addSign_ok (l : Launch) (D : va_G) (ca : Nat → ClassId) (ad : Nat → Nat → Nat) (b0 : Nat) (hw : oa_W ad b0) (n : Nat) (n0 : Nat) (hn0 : n0 < oa_n 5) (x1 : Int32) (x2 : Int32) (M : oa_M) (r : Int32) (M' : oa_M) (hf : FX0_addSign n n0 x1 x2 M = some (r, M')) : oa_Mi l yX0_addSign (oa_w yX0_addSign cX0_addSign 4 (some .boolean)) ({ frames := 0, cells := 0, slots := 0, locals := 0 } : Room) D ca ad b0 [.ref (ad 5 n0), .int x1, .int x2] M r M' := cX0_addSign_k l D ca ad b0 hw n n0 hn0 x1 x2 M (r, M') hf
def BX0_countOperands_55 (rec2 : Nat → Int32 → oa_M → Option (Int32 × oa_M)) (n : Nat) (n0 : Nat) (x1 : Int32) (x2 : Int32) (M : oa_M) : Option (Int32 × oa_M) := (rec2 n0 (x1 + (1 : Int32)) M)
def BX0_countOperands_41 (rec2 : Nat → Int32 → oa_M → Option (Int32 × oa_M)) (n : Nat) (n0 : Nat) (x1 : Int32) (x2 : Int32) (M : oa_M) : Option (Int32 × oa_M) := (if x2 ≤ 0 then (BX0_countOperands_55 rec2 n n0 x1 x2 M) else (BX0_countOperands_55 rec2 n n0 x1 x2 (oa_up M 5 n0 5 ((M 5 n0 5) + (1 : Int32)))))
def BX0_countOperands_39 (n : Nat) (n0 : Nat) (x1 : Int32) (x2 : Int32) (M : oa_M) : Option (Int32 × oa_M) := (some ((0 : Int32), M))
def BX0_countOperands_2 : Nat → Nat → Int32 → oa_M → Option (Int32 × oa_M)
  | 0, _, _, _ => none
  | n + 1, n0, x1, M => (if (3 : Int32) ≤ x1 then (some ((1 : Int32), M)) else (if oa_in x1 3 = true then (if (16 : Int32) < (M 7 (3 * n0 + x1.toNatClampNeg) 1) then (BX0_countOperands_39 n n0 x1 (M 7 (3 * n0 + x1.toNatClampNeg) 1) M) else (if (M 7 (3 * n0 + x1.toNatClampNeg) 1) ≤ 0 then (BX0_countOperands_41 (BX0_countOperands_2 n) n n0 x1 (M 7 (3 * n0 + x1.toNatClampNeg) 1) M) else (if x1 ≤ (M 5 n0 5) then (BX0_countOperands_41 (BX0_countOperands_2 n) n n0 x1 (M 7 (3 * n0 + x1.toNatClampNeg) 1) M) else (BX0_countOperands_39 n n0 x1 (M 7 (3 * n0 + x1.toNatClampNeg) 1) M)))) else none))
def FX0_countOperands (n : Nat) (n0 : Nat) (M : oa_M) : Option (Int32 × oa_M) := (BX0_countOperands_2 n n0 (0 : Int32) M)
set_option maxHeartbeats 4000000 in
set_option maxRecDepth 100000 in
theorem bX0_countOperands_55 {p : Program} {l : Launch} {e : Env} {s : State} {m : MethodId} {args : Array Value} {below : List Frame} {meth : Method} {c : Code} {D : va_G} {ca : Nat → ClassId} {ad : Nat → Nat → Nat} {b0 : Nat} {o : Int32 × oa_M} (C : oa_Cx p s m args meth c cX0_countOperands 3 (some .boolean) RX0 D ca b0 ad) (rec2 : Nat → Int32 → oa_M → Option (Int32 × oa_M)) (hrec2 : ∀ (n0 : Nat) (hn0 : n0 < oa_n 5) (x1 : Int32) (M : oa_M), rec2 n0 x1 M = some o → ∀ (H : Heap) (locs : List Loc), oa_H D ca ad M H → va_S (fun q => b0 ≤ q) s.heap H locs → ∀ (ls : Array Slot), lv_has ls 3 [(0, .ref (ad 5 n0)), (1, .int x1)] → W p l e ({ frames := 0, cells := 0, slots := 0, locals := 0 } : Room) s m args below meth c H locs 0 0 (MQ below (va_Qi (fun (r' : Int32) (u : oa_M) => r' = o.1 ∧ u = o.2) (fun u t => oa_H D ca ad u t.heap) (fun q => b0 ≤ q)) args s 0 0 (fun q => b0 ≤ q)) (F0 m 2 ls [])) : ∀ (n : Nat), ∀ (n0 : Nat) (hn0 : n0 < oa_n 5) (x1 : Int32) (x2 : Int32) (M : oa_M), BX0_countOperands_55 rec2 n n0 x1 x2 M = some o → ∀ (H : Heap) (locs : List Loc), oa_H D ca ad M H → va_S (fun q => b0 ≤ q) s.heap H locs → ∀ (ls : Array Slot), lv_has ls 3 [(0, .ref (ad 5 n0)), (1, .int x1), (2, .int x2)] → W p l e ({ frames := 0, cells := 0, slots := 0, locals := 0 } : Room) s m args below meth c H locs 0 0 (MQ below (va_Qi (fun (r' : Int32) (u : oa_M) => r' = o.1 ∧ u = o.2) (fun u t => oa_H D ca ad u t.heap) (fun q => b0 ≤ q)) args s 0 0 (fun q => b0 ≤ q)) (F0 m 55 ls []) := by
  obtain ⟨hx, hb, hml, hr, hlocks, hown, hts, hE, hw⟩ := id C
  intro n n0 hn0 x1 x2 M hf H locs hH hS ls hl
  unfold BX0_countOperands_55 at hf
  refine lv_iinc (v := (x1 + (1 : Int32))) (lv' := [(1, .int (x1 + (1 : Int32))), (0, .ref (ad 5 n0)), (2, .int x2)]) hx hb dX0_countOperands_55 hl (k := 1) rfl rfl (by decide) rfl (fun ls hl => ?_)
  refine lv_goto (tgt := 2) hx hb dX0_countOperands_58 (by decide) ?_
  exact hrec2 n0 hn0 (x1 + (1 : Int32)) _ hf _ _ hH hS _ (lv_sub hl [1, 0] rfl)
set_option maxHeartbeats 4000000 in
set_option maxRecDepth 100000 in
theorem bX0_countOperands_41 {p : Program} {l : Launch} {e : Env} {s : State} {m : MethodId} {args : Array Value} {below : List Frame} {meth : Method} {c : Code} {D : va_G} {ca : Nat → ClassId} {ad : Nat → Nat → Nat} {b0 : Nat} {o : Int32 × oa_M} (C : oa_Cx p s m args meth c cX0_countOperands 3 (some .boolean) RX0 D ca b0 ad) (rec2 : Nat → Int32 → oa_M → Option (Int32 × oa_M)) (hrec2 : ∀ (n0 : Nat) (hn0 : n0 < oa_n 5) (x1 : Int32) (M : oa_M), rec2 n0 x1 M = some o → ∀ (H : Heap) (locs : List Loc), oa_H D ca ad M H → va_S (fun q => b0 ≤ q) s.heap H locs → ∀ (ls : Array Slot), lv_has ls 3 [(0, .ref (ad 5 n0)), (1, .int x1)] → W p l e ({ frames := 0, cells := 0, slots := 0, locals := 0 } : Room) s m args below meth c H locs 0 0 (MQ below (va_Qi (fun (r' : Int32) (u : oa_M) => r' = o.1 ∧ u = o.2) (fun u t => oa_H D ca ad u t.heap) (fun q => b0 ≤ q)) args s 0 0 (fun q => b0 ≤ q)) (F0 m 2 ls [])) : ∀ (n : Nat), ∀ (n0 : Nat) (hn0 : n0 < oa_n 5) (x1 : Int32) (x2 : Int32) (M : oa_M), BX0_countOperands_41 rec2 n n0 x1 x2 M = some o → ∀ (H : Heap) (locs : List Loc), oa_H D ca ad M H → va_S (fun q => b0 ≤ q) s.heap H locs → ∀ (ls : Array Slot), lv_has ls 3 [(0, .ref (ad 5 n0)), (1, .int x1), (2, .int x2)] → W p l e ({ frames := 0, cells := 0, slots := 0, locals := 0 } : Room) s m args below meth c H locs 0 0 (MQ below (va_Qi (fun (r' : Int32) (u : oa_M) => r' = o.1 ∧ u = o.2) (fun u t => oa_H D ca ad u t.heap) (fun q => b0 ≤ q)) args s 0 0 (fun q => b0 ≤ q)) (F0 m 41 ls []) := by
  obtain ⟨hx, hb, hml, hr, hlocks, hown, hts, hE, hw⟩ := id C
  intro n n0 hn0 x1 x2 M hf H locs hH hS ls hl
  unfold BX0_countOperands_41 at hf
  refine lv_iload_n hx hb dX0_countOperands_41 rfl (lv_at hl 2 rfl) ?_
  refine lv_if_le (tgt := 55) hx hb dX0_countOperands_42 (by decide) (fun hq1 => ?_) (fun hq1 => ?_)
  · rw [if_pos hq1] at hf
    exact bX0_countOperands_55 C _ hrec2 n n0 hn0 x1 x2 _ hf _ _ hH hS _ (lv_sub hl [0, 1, 2] rfl)
  · rw [if_neg hq1] at hf
    refine lv_aload_n hx hb dX0_countOperands_45 rfl (lv_at hl 0 rfl) ?_
    refine lv_dup hx hb dX0_countOperands_46 rfl ?_
    refine oa_get (ci := 0) (C := RX0) (T := TX0) (N := 6) (v := .int (M 5 n0 5)) hx hb hts inX0 hown hE hH 5 n0 hn0 rfl rfl 5 (by decide) (hts _ tw_130) rfl dX0_countOperands_47 ?_
    refine lv_iconst (v := (1 : Int32)) hx hb dX0_countOperands_50 (by decide) ?_
    refine lv_iadd hx hb dX0_countOperands_51 ?_
    refine oa_put (ci := 0) (C := RX0) (T := TX0) (N := 6) (v := .int ((M 5 n0 5) + (1 : Int32))) (x := ((M 5 n0 5) + (1 : Int32))) hx hb hts inX0 tyX0 tyX0_ok nmX0 hown hE hw hH hS 5 n0 hn0 rfl rfl 5 (by decide) (hts _ tw_130) rfl rfl rfl (Nat.le_of_ble_eq_true rfl) rfl dX0_countOperands_52 (fun H locs hH hS => ?_)
    exact bX0_countOperands_55 C _ hrec2 n n0 hn0 x1 x2 _ hf _ _ hH hS _ (lv_sub hl [0, 1, 2] rfl)
set_option maxHeartbeats 4000000 in
set_option maxRecDepth 100000 in
theorem bX0_countOperands_39 {p : Program} {l : Launch} {e : Env} {s : State} {m : MethodId} {args : Array Value} {below : List Frame} {meth : Method} {c : Code} {D : va_G} {ca : Nat → ClassId} {ad : Nat → Nat → Nat} {b0 : Nat} {o : Int32 × oa_M} (C : oa_Cx p s m args meth c cX0_countOperands 3 (some .boolean) RX0 D ca b0 ad) : ∀ (n : Nat), ∀ (n0 : Nat) (hn0 : n0 < oa_n 5) (x1 : Int32) (x2 : Int32) (M : oa_M), BX0_countOperands_39 n n0 x1 x2 M = some o → ∀ (H : Heap) (locs : List Loc), oa_H D ca ad M H → va_S (fun q => b0 ≤ q) s.heap H locs → ∀ (ls : Array Slot), lv_has ls 3 [(0, .ref (ad 5 n0)), (1, .int x1), (2, .int x2)] → W p l e ({ frames := 0, cells := 0, slots := 0, locals := 0 } : Room) s m args below meth c H locs 0 0 (MQ below (va_Qi (fun (r' : Int32) (u : oa_M) => r' = o.1 ∧ u = o.2) (fun u t => oa_H D ca ad u t.heap) (fun q => b0 ≤ q)) args s 0 0 (fun q => b0 ≤ q)) (F0 m 39 ls []) := by
  obtain ⟨hx, hb, hml, hr, hlocks, hown, hts, hE, hw⟩ := id C
  intro n n0 hn0 x1 x2 M hf H locs hH hS ls hl
  unfold BX0_countOperands_39 at hf
  refine lv_iconst (v := (0 : Int32)) hx hb dX0_countOperands_39 (by decide) ?_
  cases hf
  exact oa_reti hx hb hr hlocks rfl hS hH dX0_countOperands_40
set_option maxHeartbeats 4000000 in
set_option maxRecDepth 100000 in
theorem bX0_countOperands_2 {p : Program} {l : Launch} {e : Env} {s : State} {m : MethodId} {args : Array Value} {below : List Frame} {meth : Method} {c : Code} {D : va_G} {ca : Nat → ClassId} {ad : Nat → Nat → Nat} {b0 : Nat} {o : Int32 × oa_M} (C : oa_Cx p s m args meth c cX0_countOperands 3 (some .boolean) RX0 D ca b0 ad) : ∀ (n : Nat), ∀ (n0 : Nat) (hn0 : n0 < oa_n 5) (x1 : Int32) (M : oa_M), BX0_countOperands_2 n n0 x1 M = some o → ∀ (H : Heap) (locs : List Loc), oa_H D ca ad M H → va_S (fun q => b0 ≤ q) s.heap H locs → ∀ (ls : Array Slot), lv_has ls 3 [(0, .ref (ad 5 n0)), (1, .int x1)] → W p l e ({ frames := 0, cells := 0, slots := 0, locals := 0 } : Room) s m args below meth c H locs 0 0 (MQ below (va_Qi (fun (r' : Int32) (u : oa_M) => r' = o.1 ∧ u = o.2) (fun u t => oa_H D ca ad u t.heap) (fun q => b0 ≤ q)) args s 0 0 (fun q => b0 ≤ q)) (F0 m 2 ls []) := by
  obtain ⟨hx, hb, hml, hr, hlocks, hown, hts, hE, hw⟩ := id C
  intro n
  induction n with
  | zero => intro n0 hn0 x1 M hf; cases hf
  | succ n ih =>
    intro n0 hn0 x1 M hf H locs hH hS ls hl
    have hrec2 := ih
    unfold BX0_countOperands_2 at hf
    refine lv_iload_n hx hb dX0_countOperands_2 rfl (lv_at hl 1 rfl) ?_
    refine lv_aload_n hx hb dX0_countOperands_3 rfl (lv_at hl 0 rfl) ?_
    refine oa_get (ci := 0) (C := RX0) (T := TX0) (N := 6) (v := .ref (ad 6 n0)) hx hb hts inX0 hown hE hH 5 n0 hn0 rfl rfl 0 (by decide) (hts _ tw_121) rfl dX0_countOperands_4 ?_
    refine oa_len (v := (3 : Int32)) hx hb hE hH 6 n0 hn0 5 rfl rfl rfl dX0_countOperands_7 ?_
    refine lv_icmp_ge (tgt := 61) hx hb dX0_countOperands_8 (by decide) (fun hq1 => ?_) (fun hq1 => ?_)
    · rw [if_pos hq1] at hf
      refine lv_iconst (v := (1 : Int32)) hx hb dX0_countOperands_61 (by decide) ?_
      cases hf
      exact oa_reti hx hb hr hlocks rfl hS hH dX0_countOperands_62
    · rw [if_neg hq1] at hf
      refine lv_aload_n hx hb dX0_countOperands_11 rfl (lv_at hl 0 rfl) ?_
      refine oa_get (ci := 0) (C := RX0) (T := TX0) (N := 6) (v := .ref (ad 6 n0)) hx hb hts inX0 hown hE hH 5 n0 hn0 rfl rfl 0 (by decide) (hts _ tw_121) rfl dX0_countOperands_12 ?_
      refine lv_iload_n hx hb dX0_countOperands_15 rfl (lv_at hl 1 rfl) ?_
      obtain ⟨hk2, hf⟩ := oa_ck hf
      refine oa_ald (g := fun j => ad 7 (3 * n0 + j)) hx hb hE hH 6 n0 hn0 3 5 rfl rfl (oa_in_vp hk2) dX0_countOperands_16 ?_
      refine oa_get (ci := 2) (C := RX2) (T := TX2) (N := 5) (v := .int (M 7 (3 * n0 + x1.toNatClampNeg) 1)) hx hb hts inX2 hown hE hH 7 (3 * n0 + x1.toNatClampNeg) (oa_lt7 hn0 (oa_in_vp hk2)) rfl rfl 1 (by decide) (hts _ tw_100) rfl dX0_countOperands_17 ?_
      refine lv_istore_n (lv' := [(2, .int (M 7 (3 * n0 + x1.toNatClampNeg) 1)), (0, .ref (ad 5 n0)), (1, .int x1)]) hx hb dX0_countOperands_20 rfl hl (by decide) rfl (fun ls hl => ?_)
      refine lv_iload_n hx hb dX0_countOperands_21 rfl (lv_at hl 0 rfl) ?_
      refine lv_bipush (v := (16 : Int32)) hx hb dX0_countOperands_22 (by decide) ?_
      refine lv_icmp_gt (tgt := 39) hx hb dX0_countOperands_24 (by decide) (fun hq3 => ?_) (fun hq3 => ?_)
      · rw [if_pos hq3] at hf
        exact bX0_countOperands_39 C n n0 hn0 x1 (M 7 (3 * n0 + x1.toNatClampNeg) 1) _ hf _ _ hH hS _ (lv_sub hl [1, 2, 0] rfl)
      · rw [if_neg hq3] at hf
        refine lv_iload_n hx hb dX0_countOperands_27 rfl (lv_at hl 0 rfl) ?_
        refine lv_if_le (tgt := 41) hx hb dX0_countOperands_28 (by decide) (fun hq4 => ?_) (fun hq4 => ?_)
        · rw [if_pos hq4] at hf
          exact bX0_countOperands_41 C _ hrec2 n n0 hn0 x1 (M 7 (3 * n0 + x1.toNatClampNeg) 1) _ hf _ _ hH hS _ (lv_sub hl [1, 2, 0] rfl)
        · rw [if_neg hq4] at hf
          refine lv_aload_n hx hb dX0_countOperands_31 rfl (lv_at hl 1 rfl) ?_
          refine oa_get (ci := 0) (C := RX0) (T := TX0) (N := 6) (v := .int (M 5 n0 5)) hx hb hts inX0 hown hE hH 5 n0 hn0 rfl rfl 5 (by decide) (hts _ tw_130) rfl dX0_countOperands_32 ?_
          refine lv_iload_n hx hb dX0_countOperands_35 rfl (lv_at hl 2 rfl) ?_
          refine lv_icmp_ge (tgt := 41) hx hb dX0_countOperands_36 (by decide) (fun hq5 => ?_) (fun hq5 => ?_)
          · rw [if_pos hq5] at hf
            exact bX0_countOperands_41 C _ hrec2 n n0 hn0 x1 (M 7 (3 * n0 + x1.toNatClampNeg) 1) _ hf _ _ hH hS _ (lv_sub hl [1, 2, 0] rfl)
          · rw [if_neg hq5] at hf
            exact bX0_countOperands_39 C n n0 hn0 x1 (M 7 (3 * n0 + x1.toNatClampNeg) 1) _ hf _ _ hH hS _ (lv_sub hl [1, 2, 0] rfl)
set_option maxHeartbeats 4000000 in
set_option maxRecDepth 100000 in
theorem cX0_countOperands_k (l : Launch) (D : va_G) (ca : Nat → ClassId) (ad : Nat → Nat → Nat) (b0 : Nat) (hw : oa_W ad b0) (n : Nat) (n0 : Nat) (hn0 : n0 < oa_n 5) (M : oa_M) (o : Int32 × oa_M) (hf : FX0_countOperands n n0 M = some o) : oa_Mi l yX0_countOperands (oa_w yX0_countOperands cX0_countOperands 3 (some .boolean)) ({ frames := 0, cells := 0, slots := 0, locals := 0 } : Room) D ca ad b0 [.ref (ad 5 n0)] M o.1 o.2 := by
  refine oa_ofW (cc := cX0_countOperands) (maxL := 3) (ret := some .boolean) (by decide) rfl (Nat.le_of_ble_eq_true rfl) ?_
  intro p e s m below meth c hx hb hml hr hlocks hown hts0 hP ls hl
  obtain ⟨hH, hE⟩ := hP
  have hts : ∀ w ∈ oa_T, w.before _ s = true := fun w h => hts0 w (List.mem_cons_of_mem _ h)
  have hS : va_S (fun q => b0 ≤ q) s.heap s.heap [] := va_S.rf
  have C : oa_Cx p s m _ meth c cX0_countOperands 3 (some .boolean) RX0 D ca b0 ad := ⟨hx, hb, hml, hr, hlocks, hown, hts, hE, hw⟩
  have hl : lv_has ls 3 [(0, .ref (ad 5 n0))] := hl
  unfold FX0_countOperands at hf
  refine lv_iconst (v := (0 : Int32)) hx hb dX0_countOperands_0 (by decide) ?_
  refine lv_istore_n (lv' := [(1, .int (0 : Int32)), (0, .ref (ad 5 n0))]) hx hb dX0_countOperands_1 rfl hl (by decide) rfl (fun ls hl => ?_)
  exact bX0_countOperands_2 C n n0 hn0 (0 : Int32) _ hf _ _ hH hS _ (lv_sub hl [1, 0] rfl)
theorem cX0_countOperands_ok (l : Launch) (D : va_G) (ca : Nat → ClassId) (ad : Nat → Nat → Nat) (b0 : Nat) (hw : oa_W ad b0) (n : Nat) (n0 : Nat) (hn0 : n0 < oa_n 5) (M : oa_M) (r : Int32) (M' : oa_M) (hf : FX0_countOperands n n0 M = some (r, M')) : oa_Mi l yX0_countOperands (oa_w yX0_countOperands cX0_countOperands 3 (some .boolean)) ({ frames := 0, cells := 0, slots := 0, locals := 0 } : Room) D ca ad b0 [.ref (ad 5 n0)] M r M' := cX0_countOperands_k l D ca ad b0 hw n n0 hn0 M (r, M') hf
def BX0_agreesWith_18 (n : Nat) (n0 : Nat) (x1 : Int32) (z0 : Int32) (M : oa_M) : Option (Int32 × oa_M) := (some (oa_nz z0, M))
def FX0_agreesWith (n : Nat) (n0 : Nat) (x1 : Int32) (M : oa_M) : Option (Int32 × oa_M) := (if (x1 &&& (M 5 n0 3)) = (M 5 n0 4) then (BX0_agreesWith_18 n n0 x1 (1 : Int32) M) else (BX0_agreesWith_18 n n0 x1 (0 : Int32) M))
set_option maxHeartbeats 4000000 in
set_option maxRecDepth 100000 in
theorem bX0_agreesWith_18 {p : Program} {l : Launch} {e : Env} {s : State} {m : MethodId} {args : Array Value} {below : List Frame} {meth : Method} {c : Code} {D : va_G} {ca : Nat → ClassId} {ad : Nat → Nat → Nat} {b0 : Nat} {o : Int32 × oa_M} (C : oa_Cx p s m args meth c cX0_agreesWith 2 (some .boolean) RX0 D ca b0 ad) : ∀ (n : Nat), ∀ (n0 : Nat) (hn0 : n0 < oa_n 5) (x1 : Int32) (z0 : Int32) (M : oa_M), BX0_agreesWith_18 n n0 x1 z0 M = some o → ∀ (H : Heap) (locs : List Loc), oa_H D ca ad M H → va_S (fun q => b0 ≤ q) s.heap H locs → ∀ (ls : Array Slot), lv_has ls 2 [(0, .ref (ad 5 n0)), (1, .int x1)] → W p l e ({ frames := 0, cells := 0, slots := 0, locals := 0 } : Room) s m args below meth c H locs 0 0 (MQ below (va_Qi (fun (r' : Int32) (u : oa_M) => r' = o.1 ∧ u = o.2) (fun u t => oa_H D ca ad u t.heap) (fun q => b0 ≤ q)) args s 0 0 (fun q => b0 ≤ q)) (F0 m 18 ls [.int z0]) := by
  obtain ⟨hx, hb, hml, hr, hlocks, hown, hts, hE, hw⟩ := id C
  intro n n0 hn0 x1 z0 M hf H locs hH hS ls hl
  unfold BX0_agreesWith_18 at hf
  cases hf
  exact oa_reti hx hb hr hlocks rfl hS hH dX0_agreesWith_18
set_option maxHeartbeats 4000000 in
set_option maxRecDepth 100000 in
theorem cX0_agreesWith_k (l : Launch) (D : va_G) (ca : Nat → ClassId) (ad : Nat → Nat → Nat) (b0 : Nat) (hw : oa_W ad b0) (n : Nat) (n0 : Nat) (hn0 : n0 < oa_n 5) (x1 : Int32) (M : oa_M) (o : Int32 × oa_M) (hf : FX0_agreesWith n n0 x1 M = some o) : oa_Mi l yX0_agreesWith (oa_w yX0_agreesWith cX0_agreesWith 2 (some .boolean)) ({ frames := 0, cells := 0, slots := 0, locals := 0 } : Room) D ca ad b0 [.ref (ad 5 n0), .int x1] M o.1 o.2 := by
  refine oa_ofW (cc := cX0_agreesWith) (maxL := 2) (ret := some .boolean) (by decide) rfl (Nat.le_of_ble_eq_true rfl) ?_
  intro p e s m below meth c hx hb hml hr hlocks hown hts0 hP ls hl
  obtain ⟨hH, hE⟩ := hP
  have hts : ∀ w ∈ oa_T, w.before _ s = true := fun w h => hts0 w (List.mem_cons_of_mem _ h)
  have hS : va_S (fun q => b0 ≤ q) s.heap s.heap [] := va_S.rf
  have C : oa_Cx p s m _ meth c cX0_agreesWith 2 (some .boolean) RX0 D ca b0 ad := ⟨hx, hb, hml, hr, hlocks, hown, hts, hE, hw⟩
  have hl : lv_has ls 2 [(0, .ref (ad 5 n0)), (1, .int x1)] := hl
  unfold FX0_agreesWith at hf
  refine lv_iload_n hx hb dX0_agreesWith_0 rfl (lv_at hl 1 rfl) ?_
  refine lv_aload_n hx hb dX0_agreesWith_1 rfl (lv_at hl 0 rfl) ?_
  refine oa_get (ci := 0) (C := RX0) (T := TX0) (N := 6) (v := .int (M 5 n0 3)) hx hb hts inX0 hown hE hH 5 n0 hn0 rfl rfl 3 (by decide) (hts _ tw_127) rfl dX0_agreesWith_2 ?_
  refine lv_iand hx hb dX0_agreesWith_5 ?_
  refine lv_aload_n hx hb dX0_agreesWith_6 rfl (lv_at hl 0 rfl) ?_
  refine oa_get (ci := 0) (C := RX0) (T := TX0) (N := 6) (v := .int (M 5 n0 4)) hx hb hts inX0 hown hE hH 5 n0 hn0 rfl rfl 4 (by decide) (hts _ tw_128) rfl dX0_agreesWith_7 ?_
  refine lv_icmp_ne (tgt := 17) hx hb dX0_agreesWith_10 (by decide) (fun hq1 => ?_) (fun hq1 => ?_)
  · rw [if_neg hq1] at hf
    refine lv_iconst (v := (0 : Int32)) hx hb dX0_agreesWith_17 (by decide) ?_
    exact bX0_agreesWith_18 C n n0 hn0 x1 (0 : Int32) _ hf _ _ hH hS _ (lv_sub hl [0, 1] rfl)
  · rw [if_pos hq1] at hf
    refine lv_iconst (v := (1 : Int32)) hx hb dX0_agreesWith_13 (by decide) ?_
    refine lv_goto (tgt := 18) hx hb dX0_agreesWith_14 (by decide) ?_
    exact bX0_agreesWith_18 C n n0 hn0 x1 (1 : Int32) _ hf _ _ hH hS _ (lv_sub hl [0, 1] rfl)
theorem cX0_agreesWith_ok (l : Launch) (D : va_G) (ca : Nat → ClassId) (ad : Nat → Nat → Nat) (b0 : Nat) (hw : oa_W ad b0) (n : Nat) (n0 : Nat) (hn0 : n0 < oa_n 5) (x1 : Int32) (M : oa_M) (r : Int32) (M' : oa_M) (hf : FX0_agreesWith n n0 x1 M = some (r, M')) : oa_Mi l yX0_agreesWith (oa_w yX0_agreesWith cX0_agreesWith 2 (some .boolean)) ({ frames := 0, cells := 0, slots := 0, locals := 0 } : Room) D ca ad b0 [.ref (ad 5 n0), .int x1] M r M' := cX0_agreesWith_k l D ca ad b0 hw n n0 hn0 x1 M (r, M') hf
def BX0_isNarrowerThan_67 (n : Nat) (n0 : Nat) (n1 : Nat) (x2 : Int32) (z0 : Int32) (M : oa_M) : Option (Int32 × oa_M) := (some (oa_nz z0, M))
def BX0_isNarrowerThan_66 (n : Nat) (n0 : Nat) (n1 : Nat) (x2 : Int32) (M : oa_M) : Option (Int32 × oa_M) := (BX0_isNarrowerThan_67 n n0 n1 x2 (0 : Int32) M)
def BX0_isNarrowerThan_62 (n : Nat) (n0 : Nat) (n1 : Nat) (x2 : Int32) (M : oa_M) : Option (Int32 × oa_M) := (BX0_isNarrowerThan_67 n n0 n1 x2 (1 : Int32) M)
def BX0_isNarrowerThan_25 (n : Nat) (n0 : Nat) (n1 : Nat) (M : oa_M) : Option (Int32 × oa_M) := (some ((0 : Int32), M))
def FX0_isNarrowerThan (n : Nat) (n0 : Nat) (n1 : Nat) (M : oa_M) : Option (Int32 × oa_M) := (if ((M 5 n1 3) &&& ((M 5 n0 3) ^^^ (-1 : Int32))) = 0 then (oa_bd (FX0_agreesWith n n1 (M 5 n0 4) M) (fun r2 M3 => (if r2 = 0 then (BX0_isNarrowerThan_25 n n0 n1 M3) else (oa_bd (FJ6_bitCount_0f7a4 n (M3 5 n0 3) M3) (fun r6 M7 => (oa_bd (FJ6_bitCount_0f7a4 n (M7 5 n1 3) M7) (fun r9 M10 => (if 0 < (r6 - r9) then (BX0_isNarrowerThan_62 n n0 n1 (r6 - r9) M10) else (if (r6 - r9) = 0 then (if (M10 5 n0 2) ≤ (M10 5 n1 2) then (BX0_isNarrowerThan_66 n n0 n1 (r6 - r9) M10) else (BX0_isNarrowerThan_62 n n0 n1 (r6 - r9) M10)) else (BX0_isNarrowerThan_66 n n0 n1 (r6 - r9) M10)))))))))) else (BX0_isNarrowerThan_25 n n0 n1 M))
set_option maxHeartbeats 4000000 in
set_option maxRecDepth 100000 in
theorem bX0_isNarrowerThan_67 {p : Program} {l : Launch} {e : Env} {s : State} {m : MethodId} {args : Array Value} {below : List Frame} {meth : Method} {c : Code} {D : va_G} {ca : Nat → ClassId} {ad : Nat → Nat → Nat} {b0 : Nat} {o : Int32 × oa_M} (C : oa_Cx p s m args meth c cX0_isNarrowerThan 3 (some .boolean) RX0 D ca b0 ad) : ∀ (n : Nat), ∀ (n0 : Nat) (hn0 : n0 < oa_n 5) (n1 : Nat) (hn1 : n1 < oa_n 5) (x2 : Int32) (z0 : Int32) (M : oa_M), BX0_isNarrowerThan_67 n n0 n1 x2 z0 M = some o → ∀ (H : Heap) (locs : List Loc), oa_H D ca ad M H → va_S (fun q => b0 ≤ q) s.heap H locs → ∀ (ls : Array Slot), lv_has ls 3 [(0, .ref (ad 5 n0)), (1, .ref (ad 5 n1)), (2, .int x2)] → W p l e ({ frames := 1, cells := 0, slots := 0, locals := 21 } : Room) s m args below meth c H locs 0 0 (MQ below (va_Qi (fun (r' : Int32) (u : oa_M) => r' = o.1 ∧ u = o.2) (fun u t => oa_H D ca ad u t.heap) (fun q => b0 ≤ q)) args s 0 0 (fun q => b0 ≤ q)) (F0 m 67 ls [.int z0]) := by
  obtain ⟨hx, hb, hml, hr, hlocks, hown, hts, hE, hw⟩ := id C
  intro n n0 hn0 n1 hn1 x2 z0 M hf H locs hH hS ls hl
  unfold BX0_isNarrowerThan_67 at hf
  cases hf
  exact oa_reti hx hb hr hlocks rfl hS hH dX0_isNarrowerThan_67
set_option maxHeartbeats 4000000 in
set_option maxRecDepth 100000 in
theorem bX0_isNarrowerThan_66 {p : Program} {l : Launch} {e : Env} {s : State} {m : MethodId} {args : Array Value} {below : List Frame} {meth : Method} {c : Code} {D : va_G} {ca : Nat → ClassId} {ad : Nat → Nat → Nat} {b0 : Nat} {o : Int32 × oa_M} (C : oa_Cx p s m args meth c cX0_isNarrowerThan 3 (some .boolean) RX0 D ca b0 ad) : ∀ (n : Nat), ∀ (n0 : Nat) (hn0 : n0 < oa_n 5) (n1 : Nat) (hn1 : n1 < oa_n 5) (x2 : Int32) (M : oa_M), BX0_isNarrowerThan_66 n n0 n1 x2 M = some o → ∀ (H : Heap) (locs : List Loc), oa_H D ca ad M H → va_S (fun q => b0 ≤ q) s.heap H locs → ∀ (ls : Array Slot), lv_has ls 3 [(0, .ref (ad 5 n0)), (1, .ref (ad 5 n1)), (2, .int x2)] → W p l e ({ frames := 1, cells := 0, slots := 0, locals := 21 } : Room) s m args below meth c H locs 0 0 (MQ below (va_Qi (fun (r' : Int32) (u : oa_M) => r' = o.1 ∧ u = o.2) (fun u t => oa_H D ca ad u t.heap) (fun q => b0 ≤ q)) args s 0 0 (fun q => b0 ≤ q)) (F0 m 66 ls []) := by
  obtain ⟨hx, hb, hml, hr, hlocks, hown, hts, hE, hw⟩ := id C
  intro n n0 hn0 n1 hn1 x2 M hf H locs hH hS ls hl
  unfold BX0_isNarrowerThan_66 at hf
  refine lv_iconst (v := (0 : Int32)) hx hb dX0_isNarrowerThan_66 (by decide) ?_
  exact bX0_isNarrowerThan_67 C n n0 hn0 n1 hn1 x2 (0 : Int32) _ hf _ _ hH hS _ (lv_sub hl [0, 1, 2] rfl)
set_option maxHeartbeats 4000000 in
set_option maxRecDepth 100000 in
theorem bX0_isNarrowerThan_62 {p : Program} {l : Launch} {e : Env} {s : State} {m : MethodId} {args : Array Value} {below : List Frame} {meth : Method} {c : Code} {D : va_G} {ca : Nat → ClassId} {ad : Nat → Nat → Nat} {b0 : Nat} {o : Int32 × oa_M} (C : oa_Cx p s m args meth c cX0_isNarrowerThan 3 (some .boolean) RX0 D ca b0 ad) : ∀ (n : Nat), ∀ (n0 : Nat) (hn0 : n0 < oa_n 5) (n1 : Nat) (hn1 : n1 < oa_n 5) (x2 : Int32) (M : oa_M), BX0_isNarrowerThan_62 n n0 n1 x2 M = some o → ∀ (H : Heap) (locs : List Loc), oa_H D ca ad M H → va_S (fun q => b0 ≤ q) s.heap H locs → ∀ (ls : Array Slot), lv_has ls 3 [(0, .ref (ad 5 n0)), (1, .ref (ad 5 n1)), (2, .int x2)] → W p l e ({ frames := 1, cells := 0, slots := 0, locals := 21 } : Room) s m args below meth c H locs 0 0 (MQ below (va_Qi (fun (r' : Int32) (u : oa_M) => r' = o.1 ∧ u = o.2) (fun u t => oa_H D ca ad u t.heap) (fun q => b0 ≤ q)) args s 0 0 (fun q => b0 ≤ q)) (F0 m 62 ls []) := by
  obtain ⟨hx, hb, hml, hr, hlocks, hown, hts, hE, hw⟩ := id C
  intro n n0 hn0 n1 hn1 x2 M hf H locs hH hS ls hl
  unfold BX0_isNarrowerThan_62 at hf
  refine lv_iconst (v := (1 : Int32)) hx hb dX0_isNarrowerThan_62 (by decide) ?_
  refine lv_goto (tgt := 67) hx hb dX0_isNarrowerThan_63 (by decide) ?_
  exact bX0_isNarrowerThan_67 C n n0 hn0 n1 hn1 x2 (1 : Int32) _ hf _ _ hH hS _ (lv_sub hl [0, 1, 2] rfl)
set_option maxHeartbeats 4000000 in
set_option maxRecDepth 100000 in
theorem bX0_isNarrowerThan_25 {p : Program} {l : Launch} {e : Env} {s : State} {m : MethodId} {args : Array Value} {below : List Frame} {meth : Method} {c : Code} {D : va_G} {ca : Nat → ClassId} {ad : Nat → Nat → Nat} {b0 : Nat} {o : Int32 × oa_M} (C : oa_Cx p s m args meth c cX0_isNarrowerThan 3 (some .boolean) RX0 D ca b0 ad) : ∀ (n : Nat), ∀ (n0 : Nat) (hn0 : n0 < oa_n 5) (n1 : Nat) (hn1 : n1 < oa_n 5) (M : oa_M), BX0_isNarrowerThan_25 n n0 n1 M = some o → ∀ (H : Heap) (locs : List Loc), oa_H D ca ad M H → va_S (fun q => b0 ≤ q) s.heap H locs → ∀ (ls : Array Slot), lv_has ls 3 [(0, .ref (ad 5 n0)), (1, .ref (ad 5 n1))] → W p l e ({ frames := 1, cells := 0, slots := 0, locals := 21 } : Room) s m args below meth c H locs 0 0 (MQ below (va_Qi (fun (r' : Int32) (u : oa_M) => r' = o.1 ∧ u = o.2) (fun u t => oa_H D ca ad u t.heap) (fun q => b0 ≤ q)) args s 0 0 (fun q => b0 ≤ q)) (F0 m 25 ls []) := by
  obtain ⟨hx, hb, hml, hr, hlocks, hown, hts, hE, hw⟩ := id C
  intro n n0 hn0 n1 hn1 M hf H locs hH hS ls hl
  unfold BX0_isNarrowerThan_25 at hf
  refine lv_iconst (v := (0 : Int32)) hx hb dX0_isNarrowerThan_25 (by decide) ?_
  cases hf
  exact oa_reti hx hb hr hlocks rfl hS hH dX0_isNarrowerThan_26
set_option maxHeartbeats 4000000 in
set_option maxRecDepth 100000 in
theorem cX0_isNarrowerThan_k (l : Launch) (D : va_G) (ca : Nat → ClassId) (ad : Nat → Nat → Nat) (b0 : Nat) (hw : oa_W ad b0) (n : Nat) (n0 : Nat) (hn0 : n0 < oa_n 5) (n1 : Nat) (hn1 : n1 < oa_n 5) (M : oa_M) (o : Int32 × oa_M) (hf : FX0_isNarrowerThan n n0 n1 M = some o) : oa_Mi l yX0_isNarrowerThan (oa_w yX0_isNarrowerThan cX0_isNarrowerThan 3 (some .boolean)) ({ frames := 1, cells := 0, slots := 0, locals := 21 } : Room) D ca ad b0 [.ref (ad 5 n0), .ref (ad 5 n1)] M o.1 o.2 := by
  refine oa_ofW (cc := cX0_isNarrowerThan) (maxL := 3) (ret := some .boolean) (by decide) rfl (Nat.le_of_ble_eq_true rfl) ?_
  intro p e s m below meth c hx hb hml hr hlocks hown hts0 hP ls hl
  obtain ⟨hH, hE⟩ := hP
  have hts : ∀ w ∈ oa_T, w.before _ s = true := fun w h => hts0 w (List.mem_cons_of_mem _ h)
  have hS : va_S (fun q => b0 ≤ q) s.heap s.heap [] := va_S.rf
  have C : oa_Cx p s m _ meth c cX0_isNarrowerThan 3 (some .boolean) RX0 D ca b0 ad := ⟨hx, hb, hml, hr, hlocks, hown, hts, hE, hw⟩
  have hl : lv_has ls 3 [(0, .ref (ad 5 n0)), (1, .ref (ad 5 n1))] := hl
  unfold FX0_isNarrowerThan at hf
  refine lv_aload_n hx hb dX0_isNarrowerThan_0 rfl (lv_at hl 1 rfl) ?_
  refine oa_get (ci := 0) (C := RX0) (T := TX0) (N := 6) (v := .int (M 5 n1 3)) hx hb hts inX0 hown hE hH 5 n1 hn1 rfl rfl 3 (by decide) (hts _ tw_127) rfl dX0_isNarrowerThan_1 ?_
  refine lv_aload_n hx hb dX0_isNarrowerThan_4 rfl (lv_at hl 0 rfl) ?_
  refine oa_get (ci := 0) (C := RX0) (T := TX0) (N := 6) (v := .int (M 5 n0 3)) hx hb hts inX0 hown hE hH 5 n0 hn0 rfl rfl 3 (by decide) (hts _ tw_127) rfl dX0_isNarrowerThan_5 ?_
  refine lv_iconst (v := (-1 : Int32)) hx hb dX0_isNarrowerThan_8 (by decide) ?_
  refine lv_ixor hx hb dX0_isNarrowerThan_9 ?_
  refine lv_iand hx hb dX0_isNarrowerThan_10 ?_
  refine lv_if_ne (tgt := 25) hx hb dX0_isNarrowerThan_11 (by decide) (fun hq1 => ?_) (fun hq1 => ?_)
  · rw [if_neg hq1] at hf
    exact bX0_isNarrowerThan_25 C n n0 hn0 n1 hn1 _ hf _ _ hH hS _ (lv_sub hl [0, 1] rfl)
  · rw [if_pos hq1] at hf
    refine lv_aload_n hx hb dX0_isNarrowerThan_14 rfl (lv_at hl 1 rfl) ?_
    refine lv_aload_n hx hb dX0_isNarrowerThan_15 rfl (lv_at hl 0 rfl) ?_
    refine oa_get (ci := 0) (C := RX0) (T := TX0) (N := 6) (v := .int (M 5 n0 4)) hx hb hts inX0 hown hE hH 5 n0 hn0 rfl rfl 4 (by decide) (hts _ tw_128) rfl dX0_isNarrowerThan_16 ?_
    obtain ⟨r2, M3, hc4, hf⟩ := oa_bdE hf
    refine oa_cvi (As := [.int (M 5 n0 4)]) (rest := []) ⟨hx, hb, hml, hown, hts⟩ (cX0_agreesWith_ok l D ca ad b0 hw n n1 hn1 (M 5 n0 4) _ _ _ hc4) (cwV 1 hts (oa_gV tw_224 tw_225 tw_226 tw_46 tw_227) rfl rfl rfl (by decide +kernel) ⟨Nat.le_of_ble_eq_true rfl, Nat.le_of_ble_eq_true rfl⟩) hE hH hS (oa_recv (k := 5) (ci := 0) hE hH hn1 rfl rfl) rfl hl.1 rfl (Nat.le_of_ble_eq_true rfl) dX0_isNarrowerThan_19 ⟨by decide, by decide⟩ (fun H locs hH hS => ?_)
    refine lv_if_ne (tgt := 27) hx hb dX0_isNarrowerThan_22 (by decide) (fun hq5 => ?_) (fun hq5 => ?_)
    · rw [if_neg hq5] at hf
      refine lv_aload_n hx hb dX0_isNarrowerThan_27 rfl (lv_at hl 0 rfl) ?_
      refine oa_get (ci := 0) (C := RX0) (T := TX0) (N := 6) (v := .int (M3 5 n0 3)) hx hb hts inX0 hown hE hH 5 n0 hn0 rfl rfl 3 (by decide) (hts _ tw_127) rfl dX0_isNarrowerThan_28 ?_
      obtain ⟨r6, M7, hc8, hf⟩ := oa_bdE hf
      refine oa_csi (As := [.int (M3 5 n0 3)]) (rest := []) ⟨hx, hb, hml, hown, hts⟩ (cJ6_bitCount_0f7a4_ok l D ca ad b0 hw n (M3 5 n0 3) _ _ _ hc8) (va_cwS 1 hts (oa_gS tw_228 tw_229 tw_55 tw_230) rfl rfl rfl (by decide +kernel) ⟨Nat.le_of_ble_eq_true rfl, Nat.le_of_ble_eq_true rfl⟩) hE hH hS rfl hl.1 rfl (Nat.le_of_ble_eq_true rfl) dX0_isNarrowerThan_31 ⟨by decide, by decide⟩ (fun H locs hH hS => ?_)
      refine lv_aload_n hx hb dX0_isNarrowerThan_34 rfl (lv_at hl 1 rfl) ?_
      refine oa_get (ci := 0) (C := RX0) (T := TX0) (N := 6) (v := .int (M7 5 n1 3)) hx hb hts inX0 hown hE hH 5 n1 hn1 rfl rfl 3 (by decide) (hts _ tw_127) rfl dX0_isNarrowerThan_35 ?_
      obtain ⟨r9, M10, hc11, hf⟩ := oa_bdE hf
      refine oa_csi (As := [.int (M7 5 n1 3)]) (rest := [.int r6]) ⟨hx, hb, hml, hown, hts⟩ (cJ6_bitCount_0f7a4_ok l D ca ad b0 hw n (M7 5 n1 3) _ _ _ hc11) (va_cwS 1 hts (oa_gS tw_228 tw_229 tw_55 tw_230) rfl rfl rfl (by decide +kernel) ⟨Nat.le_of_ble_eq_true rfl, Nat.le_of_ble_eq_true rfl⟩) hE hH hS rfl hl.1 rfl (Nat.le_of_ble_eq_true rfl) dX0_isNarrowerThan_38 ⟨by decide, by decide⟩ (fun H locs hH hS => ?_)
      refine lv_isub hx hb dX0_isNarrowerThan_41 ?_
      refine lv_istore_n (lv' := [(2, .int (r6 - r9)), (0, .ref (ad 5 n0)), (1, .ref (ad 5 n1))]) hx hb dX0_isNarrowerThan_42 rfl hl (by decide) rfl (fun ls hl => ?_)
      refine lv_iload_n hx hb dX0_isNarrowerThan_43 rfl (lv_at hl 0 rfl) ?_
      refine lv_if_gt (tgt := 62) hx hb dX0_isNarrowerThan_44 (by decide) (fun hq12 => ?_) (fun hq12 => ?_)
      · rw [if_pos hq12] at hf
        exact bX0_isNarrowerThan_62 C n n0 hn0 n1 hn1 (r6 - r9) _ hf _ _ hH hS _ (lv_sub hl [1, 2, 0] rfl)
      · rw [if_neg hq12] at hf
        refine lv_iload_n hx hb dX0_isNarrowerThan_47 rfl (lv_at hl 0 rfl) ?_
        refine lv_if_ne (tgt := 66) hx hb dX0_isNarrowerThan_48 (by decide) (fun hq13 => ?_) (fun hq13 => ?_)
        · rw [if_neg hq13] at hf
          exact bX0_isNarrowerThan_66 C n n0 hn0 n1 hn1 (r6 - r9) _ hf _ _ hH hS _ (lv_sub hl [1, 2, 0] rfl)
        · rw [if_pos hq13] at hf
          refine lv_aload_n hx hb dX0_isNarrowerThan_51 rfl (lv_at hl 1 rfl) ?_
          refine oa_get (ci := 0) (C := RX0) (T := TX0) (N := 6) (v := .int (M10 5 n0 2)) hx hb hts inX0 hown hE hH 5 n0 hn0 rfl rfl 2 (by decide) (hts _ tw_125) rfl dX0_isNarrowerThan_52 ?_
          refine lv_aload_n hx hb dX0_isNarrowerThan_55 rfl (lv_at hl 2 rfl) ?_
          refine oa_get (ci := 0) (C := RX0) (T := TX0) (N := 6) (v := .int (M10 5 n1 2)) hx hb hts inX0 hown hE hH 5 n1 hn1 rfl rfl 2 (by decide) (hts _ tw_125) rfl dX0_isNarrowerThan_56 ?_
          refine lv_icmp_le (tgt := 66) hx hb dX0_isNarrowerThan_59 (by decide) (fun hq14 => ?_) (fun hq14 => ?_)
          · rw [if_pos hq14] at hf
            exact bX0_isNarrowerThan_66 C n n0 hn0 n1 hn1 (r6 - r9) _ hf _ _ hH hS _ (lv_sub hl [1, 2, 0] rfl)
          · rw [if_neg hq14] at hf
            exact bX0_isNarrowerThan_62 C n n0 hn0 n1 hn1 (r6 - r9) _ hf _ _ hH hS _ (lv_sub hl [1, 2, 0] rfl)
    · rw [if_pos hq5] at hf
      exact bX0_isNarrowerThan_25 C n n0 hn0 n1 hn1 _ hf _ _ hH hS _ (lv_sub hl [0, 1] rfl)
theorem cX0_isNarrowerThan_ok (l : Launch) (D : va_G) (ca : Nat → ClassId) (ad : Nat → Nat → Nat) (b0 : Nat) (hw : oa_W ad b0) (n : Nat) (n0 : Nat) (hn0 : n0 < oa_n 5) (n1 : Nat) (hn1 : n1 < oa_n 5) (M : oa_M) (r : Int32) (M' : oa_M) (hf : FX0_isNarrowerThan n n0 n1 M = some (r, M')) : oa_Mi l yX0_isNarrowerThan (oa_w yX0_isNarrowerThan cX0_isNarrowerThan 3 (some .boolean)) ({ frames := 1, cells := 0, slots := 0, locals := 21 } : Room) D ca ad b0 [.ref (ad 5 n0), .ref (ad 5 n1)] M r M' := cX0_isNarrowerThan_k l D ca ad b0 hw n n0 hn0 n1 hn1 M (r, M') hf
def BX0_clashesWith_53 (n : Nat) (n0 : Nat) (n1 : Nat) (x2 : Int32) (z0 : Int32) (M : oa_M) : Option (Int32 × oa_M) := (some (oa_nz z0, M))
def BX0_clashesWith_52 (n : Nat) (n0 : Nat) (n1 : Nat) (x2 : Int32) (M : oa_M) : Option (Int32 × oa_M) := (BX0_clashesWith_53 n n0 n1 x2 (0 : Int32) M)
def BX0_clashesWith_27 (n : Nat) (n0 : Nat) (n1 : Nat) (z0 : Int32) (M : oa_M) : Option (Int32 × oa_M) := (if z0 = 0 then (oa_bd (FX0_isNarrowerThan n n0 n1 M) (fun r2 M3 => (if r2 = 0 then (oa_bd (FX0_isNarrowerThan n n1 n0 M3) (fun r6 M7 => (if r6 = 0 then (BX0_clashesWith_53 n n0 n1 z0 (1 : Int32) M7) else (BX0_clashesWith_52 n n0 n1 z0 M7)))) else (BX0_clashesWith_52 n n0 n1 z0 M3)))) else (BX0_clashesWith_52 n n0 n1 z0 M))
def FX0_clashesWith (n : Nat) (n0 : Nat) (n1 : Nat) (M : oa_M) : Option (Int32 × oa_M) := (if (((M 5 n0 3) &&& (M 5 n1 3)) &&& ((M 5 n0 4) ^^^ (M 5 n1 4))) = 0 then (BX0_clashesWith_27 n n0 n1 (0 : Int32) M) else (BX0_clashesWith_27 n n0 n1 (1 : Int32) M))
set_option maxHeartbeats 4000000 in
set_option maxRecDepth 100000 in
theorem bX0_clashesWith_53 {p : Program} {l : Launch} {e : Env} {s : State} {m : MethodId} {args : Array Value} {below : List Frame} {meth : Method} {c : Code} {D : va_G} {ca : Nat → ClassId} {ad : Nat → Nat → Nat} {b0 : Nat} {o : Int32 × oa_M} (C : oa_Cx p s m args meth c cX0_clashesWith 3 (some .boolean) RX0 D ca b0 ad) : ∀ (n : Nat), ∀ (n0 : Nat) (hn0 : n0 < oa_n 5) (n1 : Nat) (hn1 : n1 < oa_n 5) (x2 : Int32) (z0 : Int32) (M : oa_M), BX0_clashesWith_53 n n0 n1 x2 z0 M = some o → ∀ (H : Heap) (locs : List Loc), oa_H D ca ad M H → va_S (fun q => b0 ≤ q) s.heap H locs → ∀ (ls : Array Slot), lv_has ls 3 [(0, .ref (ad 5 n0)), (1, .ref (ad 5 n1)), (2, .int x2)] → W p l e ({ frames := 2, cells := 0, slots := 0, locals := 43 } : Room) s m args below meth c H locs 0 0 (MQ below (va_Qi (fun (r' : Int32) (u : oa_M) => r' = o.1 ∧ u = o.2) (fun u t => oa_H D ca ad u t.heap) (fun q => b0 ≤ q)) args s 0 0 (fun q => b0 ≤ q)) (F0 m 53 ls [.int z0]) := by
  obtain ⟨hx, hb, hml, hr, hlocks, hown, hts, hE, hw⟩ := id C
  intro n n0 hn0 n1 hn1 x2 z0 M hf H locs hH hS ls hl
  unfold BX0_clashesWith_53 at hf
  cases hf
  exact oa_reti hx hb hr hlocks rfl hS hH dX0_clashesWith_53
set_option maxHeartbeats 4000000 in
set_option maxRecDepth 100000 in
theorem bX0_clashesWith_52 {p : Program} {l : Launch} {e : Env} {s : State} {m : MethodId} {args : Array Value} {below : List Frame} {meth : Method} {c : Code} {D : va_G} {ca : Nat → ClassId} {ad : Nat → Nat → Nat} {b0 : Nat} {o : Int32 × oa_M} (C : oa_Cx p s m args meth c cX0_clashesWith 3 (some .boolean) RX0 D ca b0 ad) : ∀ (n : Nat), ∀ (n0 : Nat) (hn0 : n0 < oa_n 5) (n1 : Nat) (hn1 : n1 < oa_n 5) (x2 : Int32) (M : oa_M), BX0_clashesWith_52 n n0 n1 x2 M = some o → ∀ (H : Heap) (locs : List Loc), oa_H D ca ad M H → va_S (fun q => b0 ≤ q) s.heap H locs → ∀ (ls : Array Slot), lv_has ls 3 [(0, .ref (ad 5 n0)), (1, .ref (ad 5 n1)), (2, .int x2)] → W p l e ({ frames := 2, cells := 0, slots := 0, locals := 43 } : Room) s m args below meth c H locs 0 0 (MQ below (va_Qi (fun (r' : Int32) (u : oa_M) => r' = o.1 ∧ u = o.2) (fun u t => oa_H D ca ad u t.heap) (fun q => b0 ≤ q)) args s 0 0 (fun q => b0 ≤ q)) (F0 m 52 ls []) := by
  obtain ⟨hx, hb, hml, hr, hlocks, hown, hts, hE, hw⟩ := id C
  intro n n0 hn0 n1 hn1 x2 M hf H locs hH hS ls hl
  unfold BX0_clashesWith_52 at hf
  refine lv_iconst (v := (0 : Int32)) hx hb dX0_clashesWith_52 (by decide) ?_
  exact bX0_clashesWith_53 C n n0 hn0 n1 hn1 x2 (0 : Int32) _ hf _ _ hH hS _ (lv_sub hl [0, 1, 2] rfl)
set_option maxHeartbeats 4000000 in
set_option maxRecDepth 100000 in
theorem bX0_clashesWith_27 {p : Program} {l : Launch} {e : Env} {s : State} {m : MethodId} {args : Array Value} {below : List Frame} {meth : Method} {c : Code} {D : va_G} {ca : Nat → ClassId} {ad : Nat → Nat → Nat} {b0 : Nat} {o : Int32 × oa_M} (C : oa_Cx p s m args meth c cX0_clashesWith 3 (some .boolean) RX0 D ca b0 ad) : ∀ (n : Nat), ∀ (n0 : Nat) (hn0 : n0 < oa_n 5) (n1 : Nat) (hn1 : n1 < oa_n 5) (z0 : Int32) (M : oa_M), BX0_clashesWith_27 n n0 n1 z0 M = some o → ∀ (H : Heap) (locs : List Loc), oa_H D ca ad M H → va_S (fun q => b0 ≤ q) s.heap H locs → ∀ (ls : Array Slot), lv_has ls 3 [(0, .ref (ad 5 n0)), (1, .ref (ad 5 n1))] → W p l e ({ frames := 2, cells := 0, slots := 0, locals := 43 } : Room) s m args below meth c H locs 0 0 (MQ below (va_Qi (fun (r' : Int32) (u : oa_M) => r' = o.1 ∧ u = o.2) (fun u t => oa_H D ca ad u t.heap) (fun q => b0 ≤ q)) args s 0 0 (fun q => b0 ≤ q)) (F0 m 27 ls [.int z0]) := by
  obtain ⟨hx, hb, hml, hr, hlocks, hown, hts, hE, hw⟩ := id C
  intro n n0 hn0 n1 hn1 z0 M hf H locs hH hS ls hl
  unfold BX0_clashesWith_27 at hf
  refine lv_istore_n (lv' := [(2, .int z0), (0, .ref (ad 5 n0)), (1, .ref (ad 5 n1))]) hx hb dX0_clashesWith_27 rfl hl (by decide) rfl (fun ls hl => ?_)
  refine lv_iload_n hx hb dX0_clashesWith_28 rfl (lv_at hl 0 rfl) ?_
  refine lv_if_ne (tgt := 52) hx hb dX0_clashesWith_29 (by decide) (fun hq1 => ?_) (fun hq1 => ?_)
  · rw [if_neg hq1] at hf
    exact bX0_clashesWith_52 C n n0 hn0 n1 hn1 z0 _ hf _ _ hH hS _ (lv_sub hl [1, 2, 0] rfl)
  · rw [if_pos hq1] at hf
    refine lv_aload_n hx hb dX0_clashesWith_32 rfl (lv_at hl 1 rfl) ?_
    refine lv_aload_n hx hb dX0_clashesWith_33 rfl (lv_at hl 2 rfl) ?_
    obtain ⟨r2, M3, hc4, hf⟩ := oa_bdE hf
    refine oa_cvi (As := [.ref (ad 5 n1)]) (rest := []) ⟨hx, hb, hml, hown, hts⟩ (cX0_isNarrowerThan_ok l D ca ad b0 hw n n0 hn0 n1 hn1 _ _ _ hc4) (cwV 1 hts (oa_gV tw_220 tw_221 tw_222 tw_46 tw_223) rfl rfl rfl (by decide +kernel) ⟨Nat.le_of_ble_eq_true rfl, Nat.le_of_ble_eq_true rfl⟩) hE hH hS (oa_recv (k := 5) (ci := 0) hE hH hn0 rfl rfl) rfl hl.1 rfl (Nat.le_of_ble_eq_true rfl) dX0_clashesWith_34 ⟨by decide, by decide⟩ (fun H locs hH hS => ?_)
    refine lv_if_ne (tgt := 52) hx hb dX0_clashesWith_37 (by decide) (fun hq5 => ?_) (fun hq5 => ?_)
    · rw [if_neg hq5] at hf
      exact bX0_clashesWith_52 C n n0 hn0 n1 hn1 z0 _ hf _ _ hH hS _ (lv_sub hl [1, 2, 0] rfl)
    · rw [if_pos hq5] at hf
      refine lv_aload_n hx hb dX0_clashesWith_40 rfl (lv_at hl 2 rfl) ?_
      refine lv_aload_n hx hb dX0_clashesWith_41 rfl (lv_at hl 1 rfl) ?_
      obtain ⟨r6, M7, hc8, hf⟩ := oa_bdE hf
      refine oa_cvi (As := [.ref (ad 5 n0)]) (rest := []) ⟨hx, hb, hml, hown, hts⟩ (cX0_isNarrowerThan_ok l D ca ad b0 hw n n1 hn1 n0 hn0 _ _ _ hc8) (cwV 1 hts (oa_gV tw_220 tw_221 tw_222 tw_46 tw_223) rfl rfl rfl (by decide +kernel) ⟨Nat.le_of_ble_eq_true rfl, Nat.le_of_ble_eq_true rfl⟩) hE hH hS (oa_recv (k := 5) (ci := 0) hE hH hn1 rfl rfl) rfl hl.1 rfl (Nat.le_of_ble_eq_true rfl) dX0_clashesWith_42 ⟨by decide, by decide⟩ (fun H locs hH hS => ?_)
      refine lv_if_ne (tgt := 52) hx hb dX0_clashesWith_45 (by decide) (fun hq9 => ?_) (fun hq9 => ?_)
      · rw [if_neg hq9] at hf
        exact bX0_clashesWith_52 C n n0 hn0 n1 hn1 z0 _ hf _ _ hH hS _ (lv_sub hl [1, 2, 0] rfl)
      · rw [if_pos hq9] at hf
        refine lv_iconst (v := (1 : Int32)) hx hb dX0_clashesWith_48 (by decide) ?_
        refine lv_goto (tgt := 53) hx hb dX0_clashesWith_49 (by decide) ?_
        exact bX0_clashesWith_53 C n n0 hn0 n1 hn1 z0 (1 : Int32) _ hf _ _ hH hS _ (lv_sub hl [1, 2, 0] rfl)
set_option maxHeartbeats 4000000 in
set_option maxRecDepth 100000 in
theorem cX0_clashesWith_k (l : Launch) (D : va_G) (ca : Nat → ClassId) (ad : Nat → Nat → Nat) (b0 : Nat) (hw : oa_W ad b0) (n : Nat) (n0 : Nat) (hn0 : n0 < oa_n 5) (n1 : Nat) (hn1 : n1 < oa_n 5) (M : oa_M) (o : Int32 × oa_M) (hf : FX0_clashesWith n n0 n1 M = some o) : oa_Mi l yX0_clashesWith (oa_w yX0_clashesWith cX0_clashesWith 3 (some .boolean)) ({ frames := 2, cells := 0, slots := 0, locals := 43 } : Room) D ca ad b0 [.ref (ad 5 n0), .ref (ad 5 n1)] M o.1 o.2 := by
  refine oa_ofW (cc := cX0_clashesWith) (maxL := 3) (ret := some .boolean) (by decide) rfl (Nat.le_of_ble_eq_true rfl) ?_
  intro p e s m below meth c hx hb hml hr hlocks hown hts0 hP ls hl
  obtain ⟨hH, hE⟩ := hP
  have hts : ∀ w ∈ oa_T, w.before _ s = true := fun w h => hts0 w (List.mem_cons_of_mem _ h)
  have hS : va_S (fun q => b0 ≤ q) s.heap s.heap [] := va_S.rf
  have C : oa_Cx p s m _ meth c cX0_clashesWith 3 (some .boolean) RX0 D ca b0 ad := ⟨hx, hb, hml, hr, hlocks, hown, hts, hE, hw⟩
  have hl : lv_has ls 3 [(0, .ref (ad 5 n0)), (1, .ref (ad 5 n1))] := hl
  unfold FX0_clashesWith at hf
  refine lv_aload_n hx hb dX0_clashesWith_0 rfl (lv_at hl 0 rfl) ?_
  refine oa_get (ci := 0) (C := RX0) (T := TX0) (N := 6) (v := .int (M 5 n0 3)) hx hb hts inX0 hown hE hH 5 n0 hn0 rfl rfl 3 (by decide) (hts _ tw_127) rfl dX0_clashesWith_1 ?_
  refine lv_aload_n hx hb dX0_clashesWith_4 rfl (lv_at hl 1 rfl) ?_
  refine oa_get (ci := 0) (C := RX0) (T := TX0) (N := 6) (v := .int (M 5 n1 3)) hx hb hts inX0 hown hE hH 5 n1 hn1 rfl rfl 3 (by decide) (hts _ tw_127) rfl dX0_clashesWith_5 ?_
  refine lv_iand hx hb dX0_clashesWith_8 ?_
  refine lv_aload_n hx hb dX0_clashesWith_9 rfl (lv_at hl 0 rfl) ?_
  refine oa_get (ci := 0) (C := RX0) (T := TX0) (N := 6) (v := .int (M 5 n0 4)) hx hb hts inX0 hown hE hH 5 n0 hn0 rfl rfl 4 (by decide) (hts _ tw_128) rfl dX0_clashesWith_10 ?_
  refine lv_aload_n hx hb dX0_clashesWith_13 rfl (lv_at hl 1 rfl) ?_
  refine oa_get (ci := 0) (C := RX0) (T := TX0) (N := 6) (v := .int (M 5 n1 4)) hx hb hts inX0 hown hE hH 5 n1 hn1 rfl rfl 4 (by decide) (hts _ tw_128) rfl dX0_clashesWith_14 ?_
  refine lv_ixor hx hb dX0_clashesWith_17 ?_
  refine lv_iand hx hb dX0_clashesWith_18 ?_
  refine lv_if_eq (tgt := 26) hx hb dX0_clashesWith_19 (by decide) (fun hq1 => ?_) (fun hq1 => ?_)
  · rw [if_pos hq1] at hf
    refine lv_iconst (v := (0 : Int32)) hx hb dX0_clashesWith_26 (by decide) ?_
    exact bX0_clashesWith_27 C n n0 hn0 n1 hn1 (0 : Int32) _ hf _ _ hH hS _ (lv_sub hl [0, 1] rfl)
  · rw [if_neg hq1] at hf
    refine lv_iconst (v := (1 : Int32)) hx hb dX0_clashesWith_22 (by decide) ?_
    refine lv_goto (tgt := 27) hx hb dX0_clashesWith_23 (by decide) ?_
    exact bX0_clashesWith_27 C n n0 hn0 n1 hn1 (1 : Int32) _ hf _ _ hH hS _ (lv_sub hl [0, 1] rfl)
theorem cX0_clashesWith_ok (l : Launch) (D : va_G) (ca : Nat → ClassId) (ad : Nat → Nat → Nat) (b0 : Nat) (hw : oa_W ad b0) (n : Nat) (n0 : Nat) (hn0 : n0 < oa_n 5) (n1 : Nat) (hn1 : n1 < oa_n 5) (M : oa_M) (r : Int32) (M' : oa_M) (hf : FX0_clashesWith n n0 n1 M = some (r, M')) : oa_Mi l yX0_clashesWith (oa_w yX0_clashesWith cX0_clashesWith 3 (some .boolean)) ({ frames := 2, cells := 0, slots := 0, locals := 43 } : Room) D ca ad b0 [.ref (ad 5 n0), .ref (ad 5 n1)] M r M' := cX0_clashesWith_k l D ca ad b0 hw n n0 hn0 n1 hn1 M (r, M') hf

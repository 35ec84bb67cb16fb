def BX4_type_22 (n : Nat) (x1 : Int32) (z0 : Int32) (M : oa_M) : Option (Int32 × oa_M) := (some (z0, M))
def FX4_type (n : Nat) (x1 : Int32) (M : oa_M) : Option (Int32 × oa_M) := (oa_bd (FX3_add n 0 x1 M) (fun r1 M2 => (if r1 = 0 then (BX4_type_22 n x1 (-1 : Int32) M2) else (BX4_type_22 n x1 (M2 1 0 1) M2))))
set_option maxHeartbeats 4000000 in
set_option maxRecDepth 100000 in
theorem bX4_type_22 {p : Program} {l : Launch} {e : Env} {s : State} {m : MethodId} {args : Array Value} {below : List Frame} {meth : Method} {c : Code} {D : va_G} {ca : Nat → ClassId} {ad : Nat → Nat → Nat} {b0 : Nat} {o : Int32 × oa_M} (C : oa_Cx p s m args meth c cX4_type 2 (some .int) RX4 D ca b0 ad) : ∀ (n : Nat), ∀ (x1 : Int32) (z0 : Int32) (M : oa_M), BX4_type_22 n x1 z0 M = some o → ∀ (H : Heap) (locs : List Loc), oa_H D ca ad M H → va_S (fun q => b0 ≤ q) s.heap H locs → ∀ (ls : Array Slot), lv_has ls 2 [(0, .ref (ad 0 0)), (1, .int x1)] → W p l e ({ frames := 1, cells := 0, slots := 0, locals := 21 } : Room) s m args below meth c H locs 0 0 (MQ below (va_Qi (fun (r' : Int32) (u : oa_M) => r' = o.1 ∧ u = o.2) (fun u t => oa_H D ca ad u t.heap) (fun q => b0 ≤ q)) args s 0 0 (fun q => b0 ≤ q)) (F0 m 22 ls [.int z0]) := by
  obtain ⟨hx, hb, hml, hr, hlocks, hown, hts, hE, hw⟩ := id C
  intro n x1 z0 M hf H locs hH hS ls hl
  unfold BX4_type_22 at hf
  cases hf
  exact oa_reti hx hb hr hlocks rfl hS hH dX4_type_22
set_option maxHeartbeats 4000000 in
set_option maxRecDepth 100000 in
theorem cX4_type_k (l : Launch) (D : va_G) (ca : Nat → ClassId) (ad : Nat → Nat → Nat) (b0 : Nat) (hw : oa_W ad b0) (n : Nat) (x1 : Int32) (M : oa_M) (o : Int32 × oa_M) (hf : FX4_type n x1 M = some o) : oa_Mi l yX4_type (oa_w yX4_type cX4_type 2 (some .int)) ({ frames := 1, cells := 0, slots := 0, locals := 21 } : Room) D ca ad b0 [.ref (ad 0 0), .int x1] M o.1 o.2 := by
  refine oa_ofW (cc := cX4_type) (maxL := 2) (ret := some .int) (by decide) rfl (Nat.le_of_ble_eq_true rfl) ?_
  intro p e s m below meth c hx hb hml hr hlocks hown hts0 hP ls hl
  obtain ⟨hH, hE⟩ := hP
  have hts : ∀ w ∈ oa_T, w.before _ s = true := fun w h => hts0 w (List.mem_cons_of_mem _ h)
  have hS : va_S (fun q => b0 ≤ q) s.heap s.heap [] := va_S.rf
  have C : oa_Cx p s m _ meth c cX4_type 2 (some .int) RX4 D ca b0 ad := ⟨hx, hb, hml, hr, hlocks, hown, hts, hE, hw⟩
  have hl : lv_has ls 2 [(0, .ref (ad 0 0)), (1, .int x1)] := hl
  unfold FX4_type at hf
  refine lv_aload_n hx hb dX4_type_0 rfl (lv_at hl 0 rfl) ?_
  refine oa_get (ci := 4) (C := RX4) (T := TX4) (N := 9) (v := .ref (ad 1 0)) hx hb hts inX4 hown hE hH 0 0 (by decide) rfl rfl 0 (by decide) (hts _ tw_176) rfl dX4_type_1 ?_
  refine lv_iload_n hx hb dX4_type_4 rfl (lv_at hl 1 rfl) ?_
  obtain ⟨r1, M2, hc3, hf⟩ := oa_bdE hf
  refine oa_cvi (As := [.int x1]) (rest := []) ⟨hx, hb, hml, hown, hts⟩ (cX3_add_ok l D ca ad b0 hw n 0 (by decide) x1 _ _ _ hc3) (cwV 1 hts (oa_gV tw_208 tw_209 tw_210 tw_45 tw_211) rfl rfl rfl (by decide +kernel) ⟨Nat.le_of_ble_eq_true rfl, Nat.le_of_ble_eq_true rfl⟩) hE hH hS (oa_recv (k := 1) (ci := 3) hE hH (by decide) rfl rfl) rfl hl.1 rfl (Nat.le_of_ble_eq_true rfl) dX4_type_5 ⟨by decide, by decide⟩ (fun H locs hH hS => ?_)
  refine lv_if_eq (tgt := 21) hx hb dX4_type_8 (by decide) (fun hq4 => ?_) (fun hq4 => ?_)
  · rw [if_pos hq4] at hf
    refine lv_iconst (v := (-1 : Int32)) hx hb dX4_type_21 (by decide) ?_
    exact bX4_type_22 C n x1 (-1 : Int32) _ hf _ _ hH hS _ (lv_sub hl [0, 1] rfl)
  · rw [if_neg hq4] at hf
    refine lv_aload_n hx hb dX4_type_11 rfl (lv_at hl 0 rfl) ?_
    refine oa_get (ci := 4) (C := RX4) (T := TX4) (N := 9) (v := .ref (ad 1 0)) hx hb hts inX4 hown hE hH 0 0 (by decide) rfl rfl 0 (by decide) (hts _ tw_176) rfl dX4_type_12 ?_
    refine oa_get (ci := 3) (C := RX3) (T := TX3) (N := 3) (v := .int (M2 1 0 1)) hx hb hts inX3 hown hE hH 1 0 (by decide) rfl rfl 1 (by decide) (hts _ tw_74) rfl dX4_type_15 ?_
    refine lv_goto (tgt := 22) hx hb dX4_type_18 (by decide) ?_
    exact bX4_type_22 C n x1 (M2 1 0 1) _ hf _ _ hH hS _ (lv_sub hl [0, 1] rfl)
theorem cX4_type_ok (l : Launch) (D : va_G) (ca : Nat → ClassId) (ad : Nat → Nat → Nat) (b0 : Nat) (hw : oa_W ad b0) (n : Nat) (x1 : Int32) (M : oa_M) (r : Int32) (M' : oa_M) (hf : FX4_type n x1 M = some (r, M')) : oa_Mi l yX4_type (oa_w yX4_type cX4_type 2 (some .int)) ({ frames := 1, cells := 0, slots := 0, locals := 21 } : Room) D ca ad b0 [.ref (ad 0 0), .int x1] M r M' := cX4_type_k l D ca ad b0 hw n x1 M (r, M') hf
def BX4_readForm_66 : Nat → Nat → Int32 → Int32 → Int32 → oa_M → Option (Int32 × oa_M)
  | 0, _, _, _, _, _ => none
  | n + 1, n1, x2, x3, x4, M => (if x3 ≤ x4 then (oa_bd (FX0_countOperands n n1 M) (fun r2 M3 => (some (oa_nz r2, M3)))) else (oa_bd (FX3_takeAny n 0 M) (fun r5 M6 => (oa_bd (FX0_addSign n n1 x4 r5 M6) (fun r8 M9 => (if r8 = 0 then (some ((0 : Int32), M9)) else (BX4_readForm_66 n n1 x2 x3 (x4 + (1 : Int32)) M9)))))))
def BX4_readForm_54 (n : Nat) (n1 : Nat) (x2 : Int32) (x3 : Int32) (M : oa_M) : Option (Int32 × oa_M) := (oa_bv (FX0_begin n n1 x2 (x3 / (8 : Int32)) M) (fun M2 => (BX4_readForm_66 n n1 x2 x3 (0 : Int32) M2)))
def BX4_readForm_24 (n : Nat) (n1 : Nat) (x2 : Int32) (M : oa_M) : Option (Int32 × oa_M) := (some ((0 : Int32), M))
def FX4_readForm (n : Nat) (n1 : Nat) (M : oa_M) : Option (Int32 × oa_M) := (oa_bd (FX3_takeName n 0 M) (fun r1 M2 => (if r1 = 0 then (BX4_readForm_24 n n1 r1 M2) else (oa_bd (FX3_take n 0 (32 : Int32) M2) (fun r5 M6 => (if r5 = 0 then (BX4_readForm_24 n n1 r1 M6) else (oa_bd (FX3_left n 0 M6) (fun r9 M10 => (if r9 = (8 : Int32) then (BX4_readForm_54 n n1 r1 r9 M10) else (if r9 = (16 : Int32) then (BX4_readForm_54 n n1 r1 r9 M10) else (if r9 = (24 : Int32) then (BX4_readForm_54 n n1 r1 r9 M10) else (some ((0 : Int32), M10)))))))))))))
set_option maxHeartbeats 4000000 in
set_option maxRecDepth 100000 in
theorem bX4_readForm_66 {p : Program} {l : Launch} {e : Env} {s : State} {m : MethodId} {args : Array Value} {below : List Frame} {meth : Method} {c : Code} {D : va_G} {ca : Nat → ClassId} {ad : Nat → Nat → Nat} {b0 : Nat} {o : Int32 × oa_M} (C : oa_Cx p s m args meth c cX4_readForm 5 (some .boolean) RX4 D ca b0 ad) : ∀ (n : Nat), ∀ (n1 : Nat) (hn1 : n1 < oa_n 5) (x2 : Int32) (x3 : Int32) (x4 : Int32) (M : oa_M), BX4_readForm_66 n n1 x2 x3 x4 M = some o → ∀ (H : Heap) (locs : List Loc), oa_H D ca ad M H → va_S (fun q => b0 ≤ q) s.heap H locs → ∀ (ls : Array Slot), lv_has ls 5 [(0, .ref (ad 0 0)), (1, .ref (ad 5 n1)), (2, .int x2), (3, .int x3), (4, .int x4)] → W p l e ({ frames := 3, cells := 0, slots := 0, locals := 64 } : Room) s m args below meth c H locs 0 0 (MQ below (va_Qi (fun (r' : Int32) (u : oa_M) => r' = o.1 ∧ u = o.2) (fun u t => oa_H D ca ad u t.heap) (fun q => b0 ≤ q)) args s 0 0 (fun q => b0 ≤ q)) (F0 m 66 ls []) := by
  obtain ⟨hx, hb, hml, hr, hlocks, hown, hts, hE, hw⟩ := id C
  intro n
  induction n with
  | zero => intro n1 hn1 x2 x3 x4 M hf; cases hf
  | succ n ih =>
    intro n1 hn1 x2 x3 x4 M hf H locs hH hS ls hl
    have hrec66 := ih
    unfold BX4_readForm_66 at hf
    refine lv_iload hx hb dX4_readForm_66 (lv_at hl 4 rfl) ?_
    refine lv_iload_n hx hb dX4_readForm_68 rfl (lv_at hl 3 rfl) ?_
    refine lv_icmp_ge (tgt := 96) hx hb dX4_readForm_69 (by decide) (fun hq1 => ?_) (fun hq1 => ?_)
    · rw [if_pos hq1] at hf
      refine lv_aload_n hx hb dX4_readForm_96 rfl (lv_at hl 1 rfl) ?_
      obtain ⟨r2, M3, hc4, hf⟩ := oa_bdE hf
      refine oa_cvi (As := []) (rest := []) ⟨hx, hb, hml, hown, hts⟩ (cX0_countOperands_ok l D ca ad b0 hw n n1 hn1 _ _ _ hc4) (cwV 0 hts (oa_gV tw_297 tw_298 tw_299 tw_46 tw_300) rfl rfl rfl (by decide +kernel) ⟨Nat.le_of_ble_eq_true rfl, Nat.le_of_ble_eq_true rfl⟩) hE hH hS (oa_recv (k := 5) (ci := 0) hE hH hn1 rfl rfl) rfl hl.1 rfl (Nat.le_of_ble_eq_true rfl) dX4_readForm_97 ⟨by decide, by decide⟩ (fun H locs hH hS => ?_)
      cases hf
      exact oa_reti hx hb hr hlocks rfl hS hH dX4_readForm_100
    · rw [if_neg hq1] at hf
      refine lv_aload_n hx hb dX4_readForm_72 rfl (lv_at hl 1 rfl) ?_
      refine lv_iload hx hb dX4_readForm_73 (lv_at hl 4 rfl) ?_
      refine lv_aload_n hx hb dX4_readForm_75 rfl (lv_at hl 0 rfl) ?_
      refine oa_get (ci := 4) (C := RX4) (T := TX4) (N := 9) (v := .ref (ad 1 0)) hx hb hts inX4 hown hE hH 0 0 (by decide) rfl rfl 0 (by decide) (hts _ tw_176) rfl dX4_readForm_76 ?_
      obtain ⟨r5, M6, hc7, hf⟩ := oa_bdE hf
      refine oa_cvi (As := []) (rest := [.int x4, .ref (ad 5 n1)]) ⟨hx, hb, hml, hown, hts⟩ (cX3_takeAny_ok l D ca ad b0 hw n 0 (by decide) _ _ _ hc7) (cwV 0 hts (oa_gV tw_292 tw_276 tw_277 tw_45 tw_278) rfl rfl rfl (by decide +kernel) ⟨Nat.le_of_ble_eq_true rfl, Nat.le_of_ble_eq_true rfl⟩) hE hH hS (oa_recv (k := 1) (ci := 3) hE hH (by decide) rfl rfl) rfl hl.1 rfl (Nat.le_of_ble_eq_true rfl) dX4_readForm_79 ⟨by decide, by decide⟩ (fun H locs hH hS => ?_)
      obtain ⟨r8, M9, hc10, hf⟩ := oa_bdE hf
      refine oa_cvi (As := [.int x4, .int r5]) (rest := []) ⟨hx, hb, hml, hown, hts⟩ (cX0_addSign_ok l D ca ad b0 hw n n1 hn1 x4 r5 _ _ _ hc10) (cwV 2 hts (oa_gV tw_293 tw_294 tw_295 tw_46 tw_296) rfl rfl rfl (by decide +kernel) ⟨Nat.le_of_ble_eq_true rfl, Nat.le_of_ble_eq_true rfl⟩) hE hH hS (oa_recv (k := 5) (ci := 0) hE hH hn1 rfl rfl) rfl hl.1 rfl (Nat.le_of_ble_eq_true rfl) dX4_readForm_82 ⟨by decide, by decide⟩ (fun H locs hH hS => ?_)
      refine lv_if_ne (tgt := 90) hx hb dX4_readForm_85 (by decide) (fun hq11 => ?_) (fun hq11 => ?_)
      · rw [if_neg hq11] at hf
        refine lv_iinc (v := (x4 + (1 : Int32))) (lv' := [(4, .int (x4 + (1 : Int32))), (0, .ref (ad 0 0)), (1, .ref (ad 5 n1)), (2, .int x2), (3, .int x3)]) hx hb dX4_readForm_90 hl (k := 4) rfl rfl (by decide) rfl (fun ls hl => ?_)
        refine lv_goto (tgt := 66) hx hb dX4_readForm_93 (by decide) ?_
        exact hrec66 n1 hn1 x2 x3 (x4 + (1 : Int32)) _ hf _ _ hH hS _ (lv_sub hl [1, 2, 3, 4, 0] rfl)
      · rw [if_pos hq11] at hf
        refine lv_iconst (v := (0 : Int32)) hx hb dX4_readForm_88 (by decide) ?_
        cases hf
        exact oa_reti hx hb hr hlocks rfl hS hH dX4_readForm_89
set_option maxHeartbeats 4000000 in
set_option maxRecDepth 100000 in
theorem bX4_readForm_54 {p : Program} {l : Launch} {e : Env} {s : State} {m : MethodId} {args : Array Value} {below : List Frame} {meth : Method} {c : Code} {D : va_G} {ca : Nat → ClassId} {ad : Nat → Nat → Nat} {b0 : Nat} {o : Int32 × oa_M} (C : oa_Cx p s m args meth c cX4_readForm 5 (some .boolean) RX4 D ca b0 ad) : ∀ (n : Nat), ∀ (n1 : Nat) (hn1 : n1 < oa_n 5) (x2 : Int32) (x3 : Int32) (M : oa_M), BX4_readForm_54 n n1 x2 x3 M = some o → ∀ (H : Heap) (locs : List Loc), oa_H D ca ad M H → va_S (fun q => b0 ≤ q) s.heap H locs → ∀ (ls : Array Slot), lv_has ls 5 [(0, .ref (ad 0 0)), (1, .ref (ad 5 n1)), (2, .int x2), (3, .int x3)] → W p l e ({ frames := 3, cells := 0, slots := 0, locals := 64 } : Room) s m args below meth c H locs 0 0 (MQ below (va_Qi (fun (r' : Int32) (u : oa_M) => r' = o.1 ∧ u = o.2) (fun u t => oa_H D ca ad u t.heap) (fun q => b0 ≤ q)) args s 0 0 (fun q => b0 ≤ q)) (F0 m 54 ls []) := by
  obtain ⟨hx, hb, hml, hr, hlocks, hown, hts, hE, hw⟩ := id C
  intro n n1 hn1 x2 x3 M hf H locs hH hS ls hl
  unfold BX4_readForm_54 at hf
  refine lv_aload_n hx hb dX4_readForm_54 rfl (lv_at hl 1 rfl) ?_
  refine lv_iload_n hx hb dX4_readForm_55 rfl (lv_at hl 2 rfl) ?_
  refine lv_iload_n hx hb dX4_readForm_56 rfl (lv_at hl 3 rfl) ?_
  refine lv_bipush (v := (8 : Int32)) hx hb dX4_readForm_57 (by decide) ?_
  refine lv_idiv hx hb dX4_readForm_59 (by decide) ?_
  obtain ⟨M2, hc3, hf⟩ := oa_bvE hf
  refine oa_cvv (As := [.int x2, .int (x3 / (8 : Int32))]) (rest := []) ⟨hx, hb, hml, hown, hts⟩ (cX0_begin_ok l D ca ad b0 hw n n1 hn1 x2 (x3 / (8 : Int32)) _ _ hc3) (cwV 2 hts (oa_gV tw_288 tw_289 tw_290 tw_46 tw_291) rfl rfl rfl (by decide +kernel) ⟨Nat.le_of_ble_eq_true rfl, Nat.le_of_ble_eq_true rfl⟩) hE hH hS (oa_recv (k := 5) (ci := 0) hE hH hn1 rfl rfl) rfl hl.1 rfl (Nat.le_of_ble_eq_true rfl) dX4_readForm_60 ⟨by decide, by decide⟩ (fun H locs hH hS => ?_)
  refine lv_iconst (v := (0 : Int32)) hx hb dX4_readForm_63 (by decide) ?_
  refine lv_istore (lv' := [(4, .int (0 : Int32)), (0, .ref (ad 0 0)), (1, .ref (ad 5 n1)), (2, .int x2), (3, .int x3)]) hx hb dX4_readForm_64 hl (by decide) rfl (fun ls hl => ?_)
  exact bX4_readForm_66 C n n1 hn1 x2 x3 (0 : Int32) _ hf _ _ hH hS _ (lv_sub hl [1, 2, 3, 4, 0] rfl)
set_option maxHeartbeats 4000000 in
set_option maxRecDepth 100000 in
theorem bX4_readForm_24 {p : Program} {l : Launch} {e : Env} {s : State} {m : MethodId} {args : Array Value} {below : List Frame} {meth : Method} {c : Code} {D : va_G} {ca : Nat → ClassId} {ad : Nat → Nat → Nat} {b0 : Nat} {o : Int32 × oa_M} (C : oa_Cx p s m args meth c cX4_readForm 5 (some .boolean) RX4 D ca b0 ad) : ∀ (n : Nat), ∀ (n1 : Nat) (hn1 : n1 < oa_n 5) (x2 : Int32) (M : oa_M), BX4_readForm_24 n n1 x2 M = some o → ∀ (H : Heap) (locs : List Loc), oa_H D ca ad M H → va_S (fun q => b0 ≤ q) s.heap H locs → ∀ (ls : Array Slot), lv_has ls 5 [(0, .ref (ad 0 0)), (1, .ref (ad 5 n1)), (2, .int x2)] → W p l e ({ frames := 3, cells := 0, slots := 0, locals := 64 } : Room) s m args below meth c H locs 0 0 (MQ below (va_Qi (fun (r' : Int32) (u : oa_M) => r' = o.1 ∧ u = o.2) (fun u t => oa_H D ca ad u t.heap) (fun q => b0 ≤ q)) args s 0 0 (fun q => b0 ≤ q)) (F0 m 24 ls []) := by
  obtain ⟨hx, hb, hml, hr, hlocks, hown, hts, hE, hw⟩ := id C
  intro n n1 hn1 x2 M hf H locs hH hS ls hl
  unfold BX4_readForm_24 at hf
  refine lv_iconst (v := (0 : Int32)) hx hb dX4_readForm_24 (by decide) ?_
  cases hf
  exact oa_reti hx hb hr hlocks rfl hS hH dX4_readForm_25
set_option maxHeartbeats 4000000 in
set_option maxRecDepth 100000 in
theorem cX4_readForm_k (l : Launch) (D : va_G) (ca : Nat → ClassId) (ad : Nat → Nat → Nat) (b0 : Nat) (hw : oa_W ad b0) (n : Nat) (n1 : Nat) (hn1 : n1 < oa_n 5) (M : oa_M) (o : Int32 × oa_M) (hf : FX4_readForm n n1 M = some o) : oa_Mi l yX4_readForm (oa_w yX4_readForm cX4_readForm 5 (some .boolean)) ({ frames := 3, cells := 0, slots := 0, locals := 64 } : Room) D ca ad b0 [.ref (ad 0 0), .ref (ad 5 n1)] M o.1 o.2 := by
  refine oa_ofW (cc := cX4_readForm) (maxL := 5) (ret := some .boolean) (by decide) rfl (Nat.le_of_ble_eq_true rfl) ?_
  intro p e s m below meth c hx hb hml hr hlocks hown hts0 hP ls hl
  obtain ⟨hH, hE⟩ := hP
  have hts : ∀ w ∈ oa_T, w.before _ s = true := fun w h => hts0 w (List.mem_cons_of_mem _ h)
  have hS : va_S (fun q => b0 ≤ q) s.heap s.heap [] := va_S.rf
  have C : oa_Cx p s m _ meth c cX4_readForm 5 (some .boolean) RX4 D ca b0 ad := ⟨hx, hb, hml, hr, hlocks, hown, hts, hE, hw⟩
  have hl : lv_has ls 5 [(0, .ref (ad 0 0)), (1, .ref (ad 5 n1))] := hl
  unfold FX4_readForm at hf
  refine lv_aload_n hx hb dX4_readForm_0 rfl (lv_at hl 0 rfl) ?_
  refine oa_get (ci := 4) (C := RX4) (T := TX4) (N := 9) (v := .ref (ad 1 0)) hx hb hts inX4 hown hE hH 0 0 (by decide) rfl rfl 0 (by decide) (hts _ tw_176) rfl dX4_readForm_1 ?_
  obtain ⟨r1, M2, hc3, hf⟩ := oa_bdE hf
  refine oa_cvi (As := []) (rest := []) ⟨hx, hb, hml, hown, hts⟩ (cX3_takeName_ok l D ca ad b0 hw n 0 (by decide) _ _ _ hc3) (cwV 0 hts (oa_gV tw_267 tw_268 tw_269 tw_45 tw_270) rfl rfl rfl (by decide +kernel) ⟨Nat.le_of_ble_eq_true rfl, Nat.le_of_ble_eq_true rfl⟩) hE hH hS (oa_recv (k := 1) (ci := 3) hE hH (by decide) rfl rfl) rfl hl.1 rfl (Nat.le_of_ble_eq_true rfl) dX4_readForm_4 ⟨by decide, by decide⟩ (fun H locs hH hS => ?_)
  refine lv_istore_n (lv' := [(2, .int r1), (0, .ref (ad 0 0)), (1, .ref (ad 5 n1))]) hx hb dX4_readForm_7 rfl hl (by decide) rfl (fun ls hl => ?_)
  refine lv_iload_n hx hb dX4_readForm_8 rfl (lv_at hl 0 rfl) ?_
  refine lv_if_eq (tgt := 24) hx hb dX4_readForm_9 (by decide) (fun hq4 => ?_) (fun hq4 => ?_)
  · rw [if_pos hq4] at hf
    exact bX4_readForm_24 C n n1 hn1 r1 _ hf _ _ hH hS _ (lv_sub hl [1, 2, 0] rfl)
  · rw [if_neg hq4] at hf
    refine lv_aload_n hx hb dX4_readForm_12 rfl (lv_at hl 1 rfl) ?_
    refine oa_get (ci := 4) (C := RX4) (T := TX4) (N := 9) (v := .ref (ad 1 0)) hx hb hts inX4 hown hE hH 0 0 (by decide) rfl rfl 0 (by decide) (hts _ tw_176) rfl dX4_readForm_13 ?_
    refine lv_bipush (v := (32 : Int32)) hx hb dX4_readForm_16 (by decide) ?_
    obtain ⟨r5, M6, hc7, hf⟩ := oa_bdE hf
    refine oa_cvi (As := [.int (32 : Int32)]) (rest := []) ⟨hx, hb, hml, hown, hts⟩ (cX3_take_ok l D ca ad b0 hw n 0 (by decide) (32 : Int32) _ _ _ hc7) (cwV 1 hts (oa_gV tw_280 tw_281 tw_282 tw_45 tw_283) rfl rfl rfl (by decide +kernel) ⟨Nat.le_of_ble_eq_true rfl, Nat.le_of_ble_eq_true rfl⟩) hE hH hS (oa_recv (k := 1) (ci := 3) hE hH (by decide) rfl rfl) rfl hl.1 rfl (Nat.le_of_ble_eq_true rfl) dX4_readForm_18 ⟨by decide, by decide⟩ (fun H locs hH hS => ?_)
    refine lv_if_ne (tgt := 26) hx hb dX4_readForm_21 (by decide) (fun hq8 => ?_) (fun hq8 => ?_)
    · rw [if_neg hq8] at hf
      refine lv_aload_n hx hb dX4_readForm_26 rfl (lv_at hl 1 rfl) ?_
      refine oa_get (ci := 4) (C := RX4) (T := TX4) (N := 9) (v := .ref (ad 1 0)) hx hb hts inX4 hown hE hH 0 0 (by decide) rfl rfl 0 (by decide) (hts _ tw_176) rfl dX4_readForm_27 ?_
      obtain ⟨r9, M10, hc11, hf⟩ := oa_bdE hf
      refine oa_cvi (As := []) (rest := []) ⟨hx, hb, hml, hown, hts⟩ (cX3_left_ok l D ca ad b0 hw n 0 (by decide) _ _ _ hc11) (cwV 0 hts (oa_gV tw_284 tw_285 tw_286 tw_45 tw_287) rfl rfl rfl (by decide +kernel) ⟨Nat.le_of_ble_eq_true rfl, Nat.le_of_ble_eq_true rfl⟩) hE hH hS (oa_recv (k := 1) (ci := 3) hE hH (by decide) rfl rfl) rfl hl.1 rfl (Nat.le_of_ble_eq_true rfl) dX4_readForm_30 ⟨by decide, by decide⟩ (fun H locs hH hS => ?_)
      refine lv_istore_n (lv' := [(3, .int r9), (2, .int r1), (0, .ref (ad 0 0)), (1, .ref (ad 5 n1))]) hx hb dX4_readForm_33 rfl hl (by decide) rfl (fun ls hl => ?_)
      refine lv_iload_n hx hb dX4_readForm_34 rfl (lv_at hl 0 rfl) ?_
      refine lv_bipush (v := (8 : Int32)) hx hb dX4_readForm_35 (by decide) ?_
      refine lv_icmp_eq (tgt := 54) hx hb dX4_readForm_37 (by decide) (fun hq12 => ?_) (fun hq12 => ?_)
      · rw [if_pos hq12] at hf
        exact bX4_readForm_54 C n n1 hn1 r1 r9 _ hf _ _ hH hS _ (lv_sub hl [2, 3, 1, 0] rfl)
      · rw [if_neg hq12] at hf
        refine lv_iload_n hx hb dX4_readForm_40 rfl (lv_at hl 0 rfl) ?_
        refine lv_bipush (v := (16 : Int32)) hx hb dX4_readForm_41 (by decide) ?_
        refine lv_icmp_eq (tgt := 54) hx hb dX4_readForm_43 (by decide) (fun hq13 => ?_) (fun hq13 => ?_)
        · rw [if_pos hq13] at hf
          exact bX4_readForm_54 C n n1 hn1 r1 r9 _ hf _ _ hH hS _ (lv_sub hl [2, 3, 1, 0] rfl)
        · rw [if_neg hq13] at hf
          refine lv_iload_n hx hb dX4_readForm_46 rfl (lv_at hl 0 rfl) ?_
          refine lv_bipush (v := (24 : Int32)) hx hb dX4_readForm_47 (by decide) ?_
          refine lv_icmp_eq (tgt := 54) hx hb dX4_readForm_49 (by decide) (fun hq14 => ?_) (fun hq14 => ?_)
          · rw [if_pos hq14] at hf
            exact bX4_readForm_54 C n n1 hn1 r1 r9 _ hf _ _ hH hS _ (lv_sub hl [2, 3, 1, 0] rfl)
          · rw [if_neg hq14] at hf
            refine lv_iconst (v := (0 : Int32)) hx hb dX4_readForm_52 (by decide) ?_
            cases hf
            exact oa_reti hx hb hr hlocks rfl hS hH dX4_readForm_53
    · rw [if_pos hq8] at hf
      exact bX4_readForm_24 C n n1 hn1 r1 _ hf _ _ hH hS _ (lv_sub hl [1, 2, 0] rfl)
theorem cX4_readForm_ok (l : Launch) (D : va_G) (ca : Nat → ClassId) (ad : Nat → Nat → Nat) (b0 : Nat) (hw : oa_W ad b0) (n : Nat) (n1 : Nat) (hn1 : n1 < oa_n 5) (M : oa_M) (r : Int32) (M' : oa_M) (hf : FX4_readForm n n1 M = some (r, M')) : oa_Mi l yX4_readForm (oa_w yX4_readForm cX4_readForm 5 (some .boolean)) ({ frames := 3, cells := 0, slots := 0, locals := 64 } : Room) D ca ad b0 [.ref (ad 0 0), .ref (ad 5 n1)] M r M' := cX4_readForm_k l D ca ad b0 hw n n1 hn1 M (r, M') hf
def BX4_findForm_38 (rec2 : Int32 → Int32 → Int32 → oa_M → Option (Int32 × oa_M)) (n : Nat) (x1 : Int32) (x2 : Int32) (x3 : Int32) (M : oa_M) : Option (Int32 × oa_M) := (rec2 x1 x2 (x3 + (1 : Int32)) M)
def BX4_findForm_2 : Nat → Int32 → Int32 → Int32 → oa_M → Option (Int32 × oa_M)
  | 0, _, _, _, _ => none
  | n + 1, x1, x2, x3, M => (if (M 0 0 5) ≤ x3 then (some ((-1 : Int32), M)) else (if oa_in x3 13 = true then (if (M 5 x3.toNatClampNeg 1) = x1 then (if oa_in x3 13 = true then (if (M 5 x3.toNatClampNeg 5) = x2 then (some (x3, M)) else (BX4_findForm_38 (BX4_findForm_2 n) n x1 x2 x3 M)) else none) else (BX4_findForm_38 (BX4_findForm_2 n) n x1 x2 x3 M)) else none))
def FX4_findForm (n : Nat) (x1 : Int32) (x2 : Int32) (M : oa_M) : Option (Int32 × oa_M) := (BX4_findForm_2 n x1 x2 (0 : Int32) M)
set_option maxHeartbeats 4000000 in
set_option maxRecDepth 100000 in
theorem bX4_findForm_38 {p : Program} {l : Launch} {e : Env} {s : State} {m : MethodId} {args : Array Value} {below : List Frame} {meth : Method} {c : Code} {D : va_G} {ca : Nat → ClassId} {ad : Nat → Nat → Nat} {b0 : Nat} {o : Int32 × oa_M} (C : oa_Cx p s m args meth c cX4_findForm 4 (some .int) RX4 D ca b0 ad) (rec2 : Int32 → Int32 → Int32 → oa_M → Option (Int32 × oa_M)) (hrec2 : ∀ (x1 : Int32) (x2 : Int32) (x3 : Int32) (M : oa_M), rec2 x1 x2 x3 M = some o → ∀ (H : Heap) (locs : List Loc), oa_H D ca ad M H → va_S (fun q => b0 ≤ q) s.heap H locs → ∀ (ls : Array Slot), lv_has ls 4 [(0, .ref (ad 0 0)), (1, .int x1), (2, .int x2), (3, .int x3)] → W p l e ({ frames := 0, cells := 0, slots := 0, locals := 0 } : Room) s m args below meth c H locs 0 0 (MQ below (va_Qi (fun (r' : Int32) (u : oa_M) => r' = o.1 ∧ u = o.2) (fun u t => oa_H D ca ad u t.heap) (fun q => b0 ≤ q)) args s 0 0 (fun q => b0 ≤ q)) (F0 m 2 ls [])) : ∀ (n : Nat), ∀ (x1 : Int32) (x2 : Int32) (x3 : Int32) (M : oa_M), BX4_findForm_38 rec2 n x1 x2 x3 M = some o → ∀ (H : Heap) (locs : List Loc), oa_H D ca ad M H → va_S (fun q => b0 ≤ q) s.heap H locs → ∀ (ls : Array Slot), lv_has ls 4 [(0, .ref (ad 0 0)), (1, .int x1), (2, .int x2), (3, .int x3)] → W p l e ({ frames := 0, cells := 0, slots := 0, locals := 0 } : Room) s m args below meth c H locs 0 0 (MQ below (va_Qi (fun (r' : Int32) (u : oa_M) => r' = o.1 ∧ u = o.2) (fun u t => oa_H D ca ad u t.heap) (fun q => b0 ≤ q)) args s 0 0 (fun q => b0 ≤ q)) (F0 m 38 ls []) := by
  obtain ⟨hx, hb, hml, hr, hlocks, hown, hts, hE, hw⟩ := id C
  intro n x1 x2 x3 M hf H locs hH hS ls hl
  unfold BX4_findForm_38 at hf
  refine lv_iinc (v := (x3 + (1 : Int32))) (lv' := [(3, .int (x3 + (1 : Int32))), (0, .ref (ad 0 0)), (1, .int x1), (2, .int x2)]) hx hb dX4_findForm_38 hl (k := 3) rfl rfl (by decide) rfl (fun ls hl => ?_)
  refine lv_goto (tgt := 2) hx hb dX4_findForm_41 (by decide) ?_
  exact hrec2 x1 x2 (x3 + (1 : Int32)) _ hf _ _ hH hS _ (lv_sub hl [1, 2, 3, 0] rfl)
set_option maxHeartbeats 4000000 in
set_option maxRecDepth 100000 in
theorem bX4_findForm_2 {p : Program} {l : Launch} {e : Env} {s : State} {m : MethodId} {args : Array Value} {below : List Frame} {meth : Method} {c : Code} {D : va_G} {ca : Nat → ClassId} {ad : Nat → Nat → Nat} {b0 : Nat} {o : Int32 × oa_M} (C : oa_Cx p s m args meth c cX4_findForm 4 (some .int) RX4 D ca b0 ad) : ∀ (n : Nat), ∀ (x1 : Int32) (x2 : Int32) (x3 : Int32) (M : oa_M), BX4_findForm_2 n x1 x2 x3 M = some o → ∀ (H : Heap) (locs : List Loc), oa_H D ca ad M H → va_S (fun q => b0 ≤ q) s.heap H locs → ∀ (ls : Array Slot), lv_has ls 4 [(0, .ref (ad 0 0)), (1, .int x1), (2, .int x2), (3, .int x3)] → W p l e ({ frames := 0, cells := 0, slots := 0, locals := 0 } : Room) s m args below meth c H locs 0 0 (MQ below (va_Qi (fun (r' : Int32) (u : oa_M) => r' = o.1 ∧ u = o.2) (fun u t => oa_H D ca ad u t.heap) (fun q => b0 ≤ q)) args s 0 0 (fun q => b0 ≤ q)) (F0 m 2 ls []) := by
  obtain ⟨hx, hb, hml, hr, hlocks, hown, hts, hE, hw⟩ := id C
  intro n
  induction n with
  | zero => intro x1 x2 x3 M hf; cases hf
  | succ n ih =>
    intro x1 x2 x3 M hf H locs hH hS ls hl
    have hrec2 := ih
    unfold BX4_findForm_2 at hf
    refine lv_iload_n hx hb dX4_findForm_2 rfl (lv_at hl 3 rfl) ?_
    refine lv_aload_n hx hb dX4_findForm_3 rfl (lv_at hl 0 rfl) ?_
    refine oa_get (ci := 4) (C := RX4) (T := TX4) (N := 9) (v := .int (M 0 0 5)) hx hb hts inX4 hown hE hH 0 0 (by decide) rfl rfl 5 (by decide) (hts _ tw_181) rfl dX4_findForm_4 ?_
    refine lv_icmp_ge (tgt := 44) hx hb dX4_findForm_7 (by decide) (fun hq1 => ?_) (fun hq1 => ?_)
    · rw [if_pos hq1] at hf
      refine lv_iconst (v := (-1 : Int32)) hx hb dX4_findForm_44 (by decide) ?_
      cases hf
      exact oa_reti hx hb hr hlocks rfl hS hH dX4_findForm_45
    · rw [if_neg hq1] at hf
      refine lv_aload_n hx hb dX4_findForm_10 rfl (lv_at hl 0 rfl) ?_
      refine oa_get (ci := 4) (C := RX4) (T := TX4) (N := 9) (v := .ref (ad 4 0)) hx hb hts inX4 hown hE hH 0 0 (by decide) rfl rfl 3 (by decide) (hts _ tw_179) rfl dX4_findForm_11 ?_
      refine lv_iload_n hx hb dX4_findForm_14 rfl (lv_at hl 3 rfl) ?_
      obtain ⟨hk2, hf⟩ := oa_ck hf
      refine oa_ald (g := fun j => ad 5 j) hx hb hE hH 4 0 (by decide) 13 3 rfl rfl (oa_in_vp hk2) dX4_findForm_15 ?_
      refine oa_get (ci := 0) (C := RX0) (T := TX0) (N := 6) (v := .int (M 5 x3.toNatClampNeg 1)) hx hb hts inX0 hown hE hH 5 x3.toNatClampNeg (oa_lt (oa_in_vp hk2)) rfl rfl 1 (by decide) (hts _ tw_124) rfl dX4_findForm_16 ?_
      refine lv_iload_n hx hb dX4_findForm_19 rfl (lv_at hl 1 rfl) ?_
      refine lv_icmp_ne (tgt := 38) hx hb dX4_findForm_20 (by decide) (fun hq3 => ?_) (fun hq3 => ?_)
      · rw [if_neg hq3] at hf
        exact bX4_findForm_38 C _ hrec2 n x1 x2 x3 _ hf _ _ hH hS _ (lv_sub hl [0, 1, 2, 3] rfl)
      · rw [if_pos hq3] at hf
        refine lv_aload_n hx hb dX4_findForm_23 rfl (lv_at hl 0 rfl) ?_
        refine oa_get (ci := 4) (C := RX4) (T := TX4) (N := 9) (v := .ref (ad 4 0)) hx hb hts inX4 hown hE hH 0 0 (by decide) rfl rfl 3 (by decide) (hts _ tw_179) rfl dX4_findForm_24 ?_
        refine lv_iload_n hx hb dX4_findForm_27 rfl (lv_at hl 3 rfl) ?_
        obtain ⟨hk4, hf⟩ := oa_ck hf
        refine oa_ald (g := fun j => ad 5 j) hx hb hE hH 4 0 (by decide) 13 3 rfl rfl (oa_in_vp hk4) dX4_findForm_28 ?_
        refine oa_get (ci := 0) (C := RX0) (T := TX0) (N := 6) (v := .int (M 5 x3.toNatClampNeg 5)) hx hb hts inX0 hown hE hH 5 x3.toNatClampNeg (oa_lt (oa_in_vp hk4)) rfl rfl 5 (by decide) (hts _ tw_131) rfl dX4_findForm_29 ?_
        refine lv_iload_n hx hb dX4_findForm_32 rfl (lv_at hl 2 rfl) ?_
        refine lv_icmp_ne (tgt := 38) hx hb dX4_findForm_33 (by decide) (fun hq5 => ?_) (fun hq5 => ?_)
        · rw [if_neg hq5] at hf
          exact bX4_findForm_38 C _ hrec2 n x1 x2 x3 _ hf _ _ hH hS _ (lv_sub hl [0, 1, 2, 3] rfl)
        · rw [if_pos hq5] at hf
          refine lv_iload_n hx hb dX4_findForm_36 rfl (lv_at hl 3 rfl) ?_
          cases hf
          exact oa_reti hx hb hr hlocks rfl hS hH dX4_findForm_37
set_option maxHeartbeats 4000000 in
set_option maxRecDepth 100000 in
theorem cX4_findForm_k (l : Launch) (D : va_G) (ca : Nat → ClassId) (ad : Nat → Nat → Nat) (b0 : Nat) (hw : oa_W ad b0) (n : Nat) (x1 : Int32) (x2 : Int32) (M : oa_M) (o : Int32 × oa_M) (hf : FX4_findForm n x1 x2 M = some o) : oa_Mi l yX4_findForm (oa_w yX4_findForm cX4_findForm 4 (some .int)) ({ frames := 0, cells := 0, slots := 0, locals := 0 } : Room) D ca ad b0 [.ref (ad 0 0), .int x1, .int x2] M o.1 o.2 := by
  refine oa_ofW (cc := cX4_findForm) (maxL := 4) (ret := some .int) (by decide) rfl (Nat.le_of_ble_eq_true rfl) ?_
  intro p e s m below meth c hx hb hml hr hlocks hown hts0 hP ls hl
  obtain ⟨hH, hE⟩ := hP
  have hts : ∀ w ∈ oa_T, w.before _ s = true := fun w h => hts0 w (List.mem_cons_of_mem _ h)
  have hS : va_S (fun q => b0 ≤ q) s.heap s.heap [] := va_S.rf
  have C : oa_Cx p s m _ meth c cX4_findForm 4 (some .int) RX4 D ca b0 ad := ⟨hx, hb, hml, hr, hlocks, hown, hts, hE, hw⟩
  have hl : lv_has ls 4 [(0, .ref (ad 0 0)), (1, .int x1), (2, .int x2)] := hl
  unfold FX4_findForm at hf
  refine lv_iconst (v := (0 : Int32)) hx hb dX4_findForm_0 (by decide) ?_
  refine lv_istore_n (lv' := [(3, .int (0 : Int32)), (0, .ref (ad 0 0)), (1, .int x1), (2, .int x2)]) hx hb dX4_findForm_1 rfl hl (by decide) rfl (fun ls hl => ?_)
  exact bX4_findForm_2 C n x1 x2 (0 : Int32) _ hf _ _ hH hS _ (lv_sub hl [1, 2, 3, 0] rfl)
theorem cX4_findForm_ok (l : Launch) (D : va_G) (ca : Nat → ClassId) (ad : Nat → Nat → Nat) (b0 : Nat) (hw : oa_W ad b0) (n : Nat) (x1 : Int32) (x2 : Int32) (M : oa_M) (r : Int32) (M' : oa_M) (hf : FX4_findForm n x1 x2 M = some (r, M')) : oa_Mi l yX4_findForm (oa_w yX4_findForm cX4_findForm 4 (some .int)) ({ frames := 0, cells := 0, slots := 0, locals := 0 } : Room) D ca ad b0 [.ref (ad 0 0), .int x1, .int x2] M r M' := cX4_findForm_k l D ca ad b0 hw n x1 x2 M (r, M') hf
def FX4_form (n : Nat)  (M : oa_M) : Option (Nat × Int32 × oa_M) := (if oa_in (12 : Int32) 13 = true then (oa_bd (FX4_readForm n ((12 : Int32).toNatClampNeg) M) (fun r2 M3 => (oa_bv (FX3_clear n 0 M3) (fun M6 => (if r2 = 0 then (some (1, 0, M6)) else (if (M6 0 0 5) < (12 : Int32) then (oa_bd (FX4_findForm n (M6 5 ((12 : Int32).toNatClampNeg) 1) (M6 5 ((12 : Int32).toNatClampNeg) 5) M6) (fun r10 M11 => (if r10 = (-1 : Int32) then (if oa_in (M11 0 0 5) 13 = true then (some (0, (((M11 0 0 5) + (1 : Int32)) - (1 : Int32)), (oa_up (oa_up (oa_mF M11 ((M11 0 0 5).toNatClampNeg) (12 : Int32).toNatClampNeg) 0 0 5 ((M11 0 0 5) + (1 : Int32))) 0 0 8 (0 : Int32)))) else none) else (some (2, 0, M11))))) else (some (2, 0, M6)))))))) else none)
set_option maxHeartbeats 4000000 in
set_option maxRecDepth 100000 in
theorem cX4_form_k (l : Launch) (hl0 : l.stackTraces = false) (D : va_G) (ca : Nat → ClassId) (ad : Nat → Nat → Nat) (b0 : Nat) (hw : oa_W ad b0) (n : Nat)  (M : oa_M) (o : Nat × Int32 × oa_M) (hf : FX4_form n  M = some o) : oa_Xj l yX4_form (oa_w yX4_form cX4_form 3 (some .int)) ({ frames := 6, cells := 1, slots := 6, locals := 88 } : Room) 1 D ca ad b0 [.ref (ad 0 0)] M o := by
  refine oa_ofX (cc := cX4_form) (maxL := 3) (ret := some .int) (by decide) rfl (Nat.le_of_ble_eq_true rfl) ?_
  intro p e s m below meth c hx hb hml hr hlocks hown hts0 hnt hP ls hl
  obtain ⟨hH, hE⟩ := hP
  have hts : ∀ w ∈ oa_T, w.before _ s = true := fun w h => hts0 w (List.mem_cons_of_mem _ h)
  have hS : va_S (fun q => b0 ≤ q) s.heap s.heap [] := va_S.rf
  have C : oa_Cy p l s m _ meth c cX4_form 3 (some .int) RX4 D ca b0 ad := ⟨hx, hb, hml, hr, hlocks, hown, hts, hE, hw, hl0, hnt⟩
  have hl : lv_has ls 3 [(0, .ref (ad 0 0))] := hl
  unfold FX4_form at hf
  refine lv_aload_n hx hb dX4_form_0 rfl (lv_at hl 0 rfl) ?_
  refine oa_get (ci := 4) (C := RX4) (T := TX4) (N := 9) (v := .ref (ad 4 0)) hx hb hts inX4 hown hE hH 0 0 (by decide) rfl rfl 3 (by decide) (hts _ tw_179) rfl dX4_form_1 ?_
  refine lv_bipush (v := (12 : Int32)) hx hb dX4_form_4 (by decide) ?_
  obtain ⟨hk1, hf⟩ := oa_ck hf
  refine oa_ald (g := fun j => ad 5 j) hx hb hE hH 4 0 (by decide) 13 3 rfl rfl (oa_in_vp hk1) dX4_form_6 ?_
  refine lv_astore_n (lv' := [(1, .ref (ad 5 ((12 : Int32).toNatClampNeg))), (0, .ref (ad 0 0))]) hx hb dX4_form_7 rfl hl (by decide) rfl (fun ls hl => ?_)
  refine lv_aload_n hx hb dX4_form_8 rfl (lv_at hl 1 rfl) ?_
  refine lv_aload_n hx hb dX4_form_9 rfl (lv_at hl 0 rfl) ?_
  obtain ⟨r2, M3, hc4, hf⟩ := oa_bdE hf
  refine oa_cvi (As := [.ref (ad 5 ((12 : Int32).toNatClampNeg))]) (rest := []) ⟨hx, hb, hml, hown, hts⟩ (cX4_readForm_ok l D ca ad b0 hw n ((12 : Int32).toNatClampNeg) (oa_lt (oa_in_vp hk1)) _ _ _ hc4) (cwV 1 hts (oa_gV tw_263 tw_265 tw_0 tw_44 tw_266) rfl rfl rfl (by decide +kernel) ⟨Nat.le_of_ble_eq_true rfl, Nat.le_of_ble_eq_true rfl⟩) hE hH hS (oa_recv (k := 0) (ci := 4) hE hH (by decide) rfl rfl) rfl hl.1 rfl (Nat.le_of_ble_eq_true rfl) dX4_form_10 ⟨by decide, by decide⟩ (fun H locs hH hS => ?_)
  refine lv_istore_n (lv' := [(2, .int r2), (1, .ref (ad 5 ((12 : Int32).toNatClampNeg))), (0, .ref (ad 0 0))]) hx hb dX4_form_13 rfl hl (by decide) rfl (fun ls hl => ?_)
  refine lv_aload_n hx hb dX4_form_14 rfl (lv_at hl 2 rfl) ?_
  refine oa_get (ci := 4) (C := RX4) (T := TX4) (N := 9) (v := .ref (ad 1 0)) hx hb hts inX4 hown hE hH 0 0 (by decide) rfl rfl 0 (by decide) (hts _ tw_176) rfl dX4_form_15 ?_
  obtain ⟨M6, hc7, hf⟩ := oa_bvE hf
  refine oa_cvv (As := []) (rest := []) ⟨hx, hb, hml, hown, hts⟩ (cX3_clear_ok l D ca ad b0 hw n 0 (by decide) _ _ hc7) (cwV 0 hts (oa_gV tw_301 tw_302 tw_303 tw_45 tw_304) rfl rfl rfl (by decide +kernel) ⟨Nat.le_of_ble_eq_true rfl, Nat.le_of_ble_eq_true rfl⟩) hE hH hS (oa_recv (k := 1) (ci := 3) hE hH (by decide) rfl rfl) rfl hl.1 rfl (Nat.le_of_ble_eq_true rfl) dX4_form_18 ⟨by decide, by decide⟩ (fun H locs hH hS => ?_)
  refine lv_iload_n hx hb dX4_form_21 rfl (lv_at hl 0 rfl) ?_
  refine lv_if_ne (tgt := 35) hx hb dX4_form_22 (by decide) (fun hq8 => ?_) (fun hq8 => ?_)
  · rw [if_neg hq8] at hf
    refine lv_aload_n hx hb dX4_form_35 rfl (lv_at hl 2 rfl) ?_
    refine oa_get (ci := 4) (C := RX4) (T := TX4) (N := 9) (v := .int (M6 0 0 5)) hx hb hts inX4 hown hE hH 0 0 (by decide) rfl rfl 5 (by decide) (hts _ tw_181) rfl dX4_form_36 ?_
    refine lv_bipush (v := (12 : Int32)) hx hb dX4_form_39 (by decide) ?_
    refine lv_icmp_lt (tgt := 54) hx hb dX4_form_41 (by decide) (fun hq9 => ?_) (fun hq9 => ?_)
    · rw [if_pos hq9] at hf
      refine lv_aload_n hx hb dX4_form_54 rfl (lv_at hl 2 rfl) ?_
      refine lv_aload_n hx hb dX4_form_55 rfl (lv_at hl 1 rfl) ?_
      refine oa_get (ci := 0) (C := RX0) (T := TX0) (N := 6) (v := .int (M6 5 ((12 : Int32).toNatClampNeg) 1)) hx hb hts inX0 hown hE hH 5 ((12 : Int32).toNatClampNeg) (oa_lt (oa_in_vp hk1)) rfl rfl 1 (by decide) (hts _ tw_124) rfl dX4_form_56 ?_
      refine lv_aload_n hx hb dX4_form_59 rfl (lv_at hl 1 rfl) ?_
      refine oa_get (ci := 0) (C := RX0) (T := TX0) (N := 6) (v := .int (M6 5 ((12 : Int32).toNatClampNeg) 5)) hx hb hts inX0 hown hE hH 5 ((12 : Int32).toNatClampNeg) (oa_lt (oa_in_vp hk1)) rfl rfl 5 (by decide) (hts _ tw_131) rfl dX4_form_60 ?_
      obtain ⟨r10, M11, hc12, hf⟩ := oa_bdE hf
      refine oa_cvi (As := [.int (M6 5 ((12 : Int32).toNatClampNeg) 1), .int (M6 5 ((12 : Int32).toNatClampNeg) 5)]) (rest := []) ⟨hx, hb, hml, hown, hts⟩ (cX4_findForm_ok l D ca ad b0 hw n (M6 5 ((12 : Int32).toNatClampNeg) 1) (M6 5 ((12 : Int32).toNatClampNeg) 5) _ _ _ hc12) (cwV 2 hts (oa_gV tw_390 tw_392 tw_2 tw_44 tw_393) rfl rfl rfl (by decide +kernel) ⟨Nat.le_of_ble_eq_true rfl, Nat.le_of_ble_eq_true rfl⟩) hE hH hS (oa_recv (k := 0) (ci := 4) hE hH (by decide) rfl rfl) rfl hl.1 rfl (Nat.le_of_ble_eq_true rfl) dX4_form_63 ⟨by decide, by decide⟩ (fun H locs hH hS => ?_)
      refine lv_iconst (v := (-1 : Int32)) hx hb dX4_form_66 (by decide) ?_
      refine lv_icmp_eq (tgt := 80) hx hb dX4_form_67 (by decide) (fun hq13 => ?_) (fun hq13 => ?_)
      · rw [if_pos hq13] at hf
        refine lv_aload_n hx hb dX4_form_80 rfl (lv_at hl 2 rfl) ?_
        refine oa_get (ci := 4) (C := RX4) (T := TX4) (N := 9) (v := .ref (ad 4 0)) hx hb hts inX4 hown hE hH 0 0 (by decide) rfl rfl 3 (by decide) (hts _ tw_179) rfl dX4_form_81 ?_
        refine lv_bipush (v := (12 : Int32)) hx hb dX4_form_84 (by decide) ?_
        refine lv_aload_n hx hb dX4_form_86 rfl (lv_at hl 2 rfl) ?_
        refine oa_get (ci := 4) (C := RX4) (T := TX4) (N := 9) (v := .ref (ad 4 0)) hx hb hts inX4 hown hE hH 0 0 (by decide) rfl rfl 3 (by decide) (hts _ tw_179) rfl dX4_form_87 ?_
        refine lv_aload_n hx hb dX4_form_90 rfl (lv_at hl 2 rfl) ?_
        refine oa_get (ci := 4) (C := RX4) (T := TX4) (N := 9) (v := .int (M11 0 0 5)) hx hb hts inX4 hown hE hH 0 0 (by decide) rfl rfl 5 (by decide) (hts _ tw_181) rfl dX4_form_91 ?_
        obtain ⟨hk14, hf⟩ := oa_ck hf
        refine oa_ald (g := fun j => ad 5 j) hx hb hE hH 4 0 (by decide) 13 3 rfl rfl (oa_in_vp hk14) dX4_form_94 ?_
        refine oa_twoF (i1 := (12 : Int32)) (i2 := (M11 0 0 5)) hx hb hts hown hE hw hH hS (by show ¬ ((12 : Int32) < 0 ∨ 13 ≤ (12 : Int32).toNatClampNeg); decide) (oa_in_vp hk14) rfl (hts _ tw_179) (hts _ tw_181) (lv_at hl 2 rfl) (lv_at hl 1 rfl) dX4_form_95 dX4_form_96 dX4_form_97 dX4_form_100 dX4_form_101 dX4_form_104 dX4_form_105 (fun ad H locs hk9 hH hS => ?_)
        have hw := hk9.1
        have hl : lv_has ls 3 [(0, .ref (ad 0 0))] := by rw [hk9.2.1]; exact lv_sub hl [2] rfl
        refine lv_aload_n hx hb dX4_form_106 rfl (lv_at hl 0 rfl) ?_
        refine lv_dup hx hb dX4_form_107 rfl ?_
        refine oa_get (ci := 4) (C := RX4) (T := TX4) (N := 9) (v := .int (M11 0 0 5)) hx hb hts inX4 hown hE hH 0 0 (by decide) rfl rfl 5 (by decide) (hts _ tw_181) rfl dX4_form_108 ?_
        refine lv_iconst (v := (1 : Int32)) hx hb dX4_form_111 (by decide) ?_
        refine lv_iadd hx hb dX4_form_112 ?_
        refine oa_put (ci := 4) (C := RX4) (T := TX4) (N := 9) (v := .int ((M11 0 0 5) + (1 : Int32))) (x := ((M11 0 0 5) + (1 : Int32))) hx hb hts inX4 tyX4 tyX4_ok nmX4 hown hE hw hH hS 0 0 (by decide) rfl rfl 5 (by decide) (hts _ tw_181) rfl rfl rfl (Nat.le_of_ble_eq_true rfl) rfl dX4_form_113 (fun H locs hH hS => ?_)
        refine lv_aload_n hx hb dX4_form_116 rfl (lv_at hl 0 rfl) ?_
        refine lv_iconst (v := (0 : Int32)) hx hb dX4_form_117 (by decide) ?_
        refine oa_put (ci := 4) (C := RX4) (T := TX4) (N := 9) (v := .int (0 : Int32)) (x := (0 : Int32)) hx hb hts inX4 tyX4 tyX4_ok nmX4 hown hE hw hH hS 0 0 (by decide) rfl rfl 8 (by decide) (hts _ tw_184) rfl rfl (by decide) (Nat.le_of_ble_eq_true rfl) rfl dX4_form_118 (fun H locs hH hS => ?_)
        refine lv_aload_n hx hb dX4_form_121 rfl (lv_at hl 0 rfl) ?_
        refine oa_get (ci := 4) (C := RX4) (T := TX4) (N := 9) (v := .int ((M11 0 0 5) + (1 : Int32))) hx hb hts inX4 hown hE hH 0 0 (by decide) rfl rfl 5 (by decide) (hts _ tw_181) rfl dX4_form_122 ?_
        refine lv_iconst (v := (1 : Int32)) hx hb dX4_form_125 (by decide) ?_
        refine lv_isub hx hb dX4_form_126 ?_
        cases hf
        refine vx_ret (W.widen (k := 1) (n := 6 * 1) (by decide) (by decide) ?_)
        exact oa_rexj hx hb hr hlocks rfl rfl hS ⟨ad, hk9, hH⟩ dX4_form_127
      · rw [if_neg hq13] at hf
        cases hf
        exact oa_thrj (own := RX4) (text := "a form has that name and as many operands") (names := oa_nm) hw hx hb hl0 hown (by decide +kernel) (by decide +kernel) (hts _ tw_374) (hts _ tw_54) (hE.2.2.2.2.1 ("OpcodeAtlas", 80, "a form has that name and as many operands") (by decide +kernel)) (oa_at69 hts hE) (by decide +kernel) hE hS hH (hl.1.trans hml.symm) dX4_form_70 dX4_form_73 dX4_form_74 dX4_form_76 dX4_form_79 hnt (by decide) (by decide) (by decide) (by decide) hlocks ⟨Nat.succ_ne_zero _, rfl⟩ rfl (by decide) (by decide)
    · rw [if_neg hq9] at hf
      cases hf
      exact oa_thrj (own := RX4) (text := "there are twelve forms") (names := oa_nm) hw hx hb hl0 hown (by decide +kernel) (by decide +kernel) (hts _ tw_374) (hts _ tw_54) (hE.2.2.2.2.1 ("OpcodeAtlas", 67, "there are twelve forms") (by decide +kernel)) (oa_at69 hts hE) (by decide +kernel) hE hS hH (hl.1.trans hml.symm) dX4_form_44 dX4_form_47 dX4_form_48 dX4_form_50 dX4_form_53 hnt (by decide) (by decide) (by decide) (by decide) hlocks ⟨Nat.succ_ne_zero _, rfl⟩ rfl (by decide) (by decide)
  · rw [if_pos hq8] at hf
    cases hf
    exact oa_thrj (own := RX4) (text := "the text tells no form") (names := oa_nm) hw hx hb hl0 hown (by decide +kernel) (by decide +kernel) (hts _ tw_305) (hts _ tw_53) (hE.2.2.2.2.1 ("OpcodeAtlas", 57, "the text tells no form") (by decide +kernel)) (oa_at59 hts hE) (by decide +kernel) hE hS hH (hl.1.trans hml.symm) dX4_form_25 dX4_form_28 dX4_form_29 dX4_form_31 dX4_form_34 hnt (by decide) (by decide) (by decide) (by decide) hlocks ⟨Nat.succ_ne_zero _, rfl⟩ rfl (by decide) (by decide)
theorem cX4_form_ok (l : Launch) (hl0 : l.stackTraces = false) (D : va_G) (ca : Nat → ClassId) (ad : Nat → Nat → Nat) (b0 : Nat) (hw : oa_W ad b0) (n : Nat)  (M : oa_M) (o : Nat × Int32 × oa_M) (hf : FX4_form n  M = some o) : oa_Xj l yX4_form (oa_w yX4_form cX4_form 3 (some .int)) ({ frames := 6, cells := 1, slots := 6, locals := 88 } : Room) 1 D ca ad b0 [.ref (ad 0 0)] M o := cX4_form_k l hl0 D ca ad b0 hw n  M o hf
def BX4_operand_105 (n : Nat) (x1 : Int32) (x2 : Int32) (x3 : Int32) (x4 : Int32) (x5 : Int32) (M : oa_M) : Option (Nat × Int32 × oa_M) := (some (1, 0, M))
def BX4_operand_81 (n : Nat) (x1 : Int32) (x2 : Int32) (x3 : Int32) (x4 : Int32) (x5 : Int32) (M : oa_M) : Option (Nat × Int32 × oa_M) := (some (1, 0, M))
def BX4_operand_58 (n : Nat) (x1 : Int32) (x2 : Int32) (x3 : Int32) (x4 : Int32) (x5 : Int32) (M : oa_M) : Option (Nat × Int32 × oa_M) := (some (1, 0, M))
def BX4_operand_39 (n : Nat) (x1 : Int32) (x2 : Int32) (x3 : Int32) (x4 : Int32) (x5 : Int32) (M : oa_M) : Option (Nat × Int32 × oa_M) := (some (1, 0, M))
def BX4_operand_12 (n : Nat) (x1 : Int32) (x2 : Int32) (x3 : Int32) (x4 : Int32) (x5 : Int32) (M : oa_M) : Option (Nat × Int32 × oa_M) := (some (1, 0, M))
def FX4_operand (n : Nat) (x1 : Int32) (x2 : Int32) (x3 : Int32) (x4 : Int32) (x5 : Int32) (M : oa_M) : Option (Nat × Int32 × oa_M) := (if x1 < 0 then (BX4_operand_12 n x1 x2 x3 x4 x5 M) else (if x1 < (M 0 0 5) then (if x2 < 0 then (BX4_operand_39 n x1 x2 x3 x4 x5 M) else (if oa_in x1 13 = true then (if x2 < (M 5 x1.toNatClampNeg 5) then (if x3 < 0 then (BX4_operand_58 n x1 x2 x3 x4 x5 M) else (if x3 ≤ (2 : Int32) then (if x4 < (1 : Int32) then (BX4_operand_81 n x1 x2 x3 x4 x5 M) else (if x4 ≤ (8 : Int32) then (if x5 < (-100 : Int32) then (BX4_operand_105 n x1 x2 x3 x4 x5 M) else (if x5 ≤ (100 : Int32) then (if oa_in x1 13 = true then (if oa_in x2 3 = true then (some (0, ((oa_up (oa_up (oa_up M 7 (3 * x1.toNatClampNeg + x2.toNatClampNeg) 2 x3) 7 (3 * x1.toNatClampNeg + x2.toNatClampNeg) 3 x4) 7 (3 * x1.toNatClampNeg + x2.toNatClampNeg) 4 x5) 7 (3 * x1.toNatClampNeg + x2.toNatClampNeg) 1), (oa_up (oa_up (oa_up M 7 (3 * x1.toNatClampNeg + x2.toNatClampNeg) 2 x3) 7 (3 * x1.toNatClampNeg + x2.toNatClampNeg) 3 x4) 7 (3 * x1.toNatClampNeg + x2.toNatClampNeg) 4 x5))) else none) else none) else (BX4_operand_105 n x1 x2 x3 x4 x5 M))) else (BX4_operand_81 n x1 x2 x3 x4 x5 M))) else (BX4_operand_58 n x1 x2 x3 x4 x5 M))) else (BX4_operand_39 n x1 x2 x3 x4 x5 M)) else none)) else (BX4_operand_12 n x1 x2 x3 x4 x5 M)))
set_option maxHeartbeats 4000000 in
set_option maxRecDepth 100000 in
theorem bX4_operand_105 {p : Program} {l : Launch} {e : Env} {s : State} {m : MethodId} {args : Array Value} {below : List Frame} {meth : Method} {c : Code} {D : va_G} {ca : Nat → ClassId} {ad : Nat → Nat → Nat} {b0 : Nat} {o : Nat × Int32 × oa_M} (C : oa_Cy p l s m args meth c cX4_operand 7 (some .int) RX4 D ca b0 ad) : ∀ (n : Nat), ∀ (x1 : Int32) (x2 : Int32) (x3 : Int32) (x4 : Int32) (x5 : Int32) (M : oa_M), BX4_operand_105 n x1 x2 x3 x4 x5 M = some o → ∀ (H : Heap) (locs : List Loc), oa_H D ca ad M H → va_S (fun q => b0 ≤ q) s.heap H locs → ∀ (ls : Array Slot), lv_has ls 7 [(0, .ref (ad 0 0)), (1, .int x1), (2, .int x2), (3, .int x3), (4, .int x4), (5, .int x5)] → W p l e ({ frames := 6, cells := 1, slots := 6, locals := 83 } : Room) s m args below meth c H locs 0 0 (vx_MQ below (va_Qi (fun (r' : Int32) (u : oa_M) => o.1 = 0 ∧ r' = o.2.1 ∧ u = o.2.2) (fun u t => oa_H D ca ad u t.heap) (fun q => b0 ≤ q)) (vx_X (fun u : oa_M => o.1 ≠ 0 ∧ u = o.2.2) (fun E u t => E = oa_x o.1 ∧ oa_H D ca ad u t.heap) (fun q => b0 ≤ q)) args s 1 (6 * 1) (fun q => b0 ≤ q)) (F0 m 105 ls []) := by
  obtain ⟨hx, hb, hml, hr, hlocks, hown, hts, hE, hw, hl0, hnt⟩ := id C
  intro n x1 x2 x3 x4 x5 M hf H locs hH hS ls hl
  unfold BX4_operand_105 at hf
  cases hf
  exact oa_thr (own := RX4) (text := "no such offset") (names := oa_nm) hx hb hl0 hown (by decide +kernel) (by decide +kernel) (hts _ tw_305) (hts _ tw_53) (hE.2.2.2.2.1 ("OpcodeAtlas", 94, "no such offset") (by decide +kernel)) (oa_at59 hts hE) (by decide +kernel) hE hS hH (hl.1.trans hml.symm) dX4_operand_105 dX4_operand_108 dX4_operand_109 dX4_operand_111 dX4_operand_114 hnt (by decide) (by decide) (by decide) (by decide) hlocks ⟨Nat.succ_ne_zero _, rfl⟩ rfl (by decide) (by decide)
set_option maxHeartbeats 4000000 in
set_option maxRecDepth 100000 in
theorem bX4_operand_81 {p : Program} {l : Launch} {e : Env} {s : State} {m : MethodId} {args : Array Value} {below : List Frame} {meth : Method} {c : Code} {D : va_G} {ca : Nat → ClassId} {ad : Nat → Nat → Nat} {b0 : Nat} {o : Nat × Int32 × oa_M} (C : oa_Cy p l s m args meth c cX4_operand 7 (some .int) RX4 D ca b0 ad) : ∀ (n : Nat), ∀ (x1 : Int32) (x2 : Int32) (x3 : Int32) (x4 : Int32) (x5 : Int32) (M : oa_M), BX4_operand_81 n x1 x2 x3 x4 x5 M = some o → ∀ (H : Heap) (locs : List Loc), oa_H D ca ad M H → va_S (fun q => b0 ≤ q) s.heap H locs → ∀ (ls : Array Slot), lv_has ls 7 [(0, .ref (ad 0 0)), (1, .int x1), (2, .int x2), (3, .int x3), (4, .int x4), (5, .int x5)] → W p l e ({ frames := 6, cells := 1, slots := 6, locals := 83 } : Room) s m args below meth c H locs 0 0 (vx_MQ below (va_Qi (fun (r' : Int32) (u : oa_M) => o.1 = 0 ∧ r' = o.2.1 ∧ u = o.2.2) (fun u t => oa_H D ca ad u t.heap) (fun q => b0 ≤ q)) (vx_X (fun u : oa_M => o.1 ≠ 0 ∧ u = o.2.2) (fun E u t => E = oa_x o.1 ∧ oa_H D ca ad u t.heap) (fun q => b0 ≤ q)) args s 1 (6 * 1) (fun q => b0 ≤ q)) (F0 m 81 ls []) := by
  obtain ⟨hx, hb, hml, hr, hlocks, hown, hts, hE, hw, hl0, hnt⟩ := id C
  intro n x1 x2 x3 x4 x5 M hf H locs hH hS ls hl
  unfold BX4_operand_81 at hf
  cases hf
  exact oa_thr (own := RX4) (text := "no such scale") (names := oa_nm) hx hb hl0 hown (by decide +kernel) (by decide +kernel) (hts _ tw_305) (hts _ tw_53) (hE.2.2.2.2.1 ("OpcodeAtlas", 92, "no such scale") (by decide +kernel)) (oa_at59 hts hE) (by decide +kernel) hE hS hH (hl.1.trans hml.symm) dX4_operand_81 dX4_operand_84 dX4_operand_85 dX4_operand_87 dX4_operand_90 hnt (by decide) (by decide) (by decide) (by decide) hlocks ⟨Nat.succ_ne_zero _, rfl⟩ rfl (by decide) (by decide)
set_option maxHeartbeats 4000000 in
set_option maxRecDepth 100000 in
theorem bX4_operand_58 {p : Program} {l : Launch} {e : Env} {s : State} {m : MethodId} {args : Array Value} {below : List Frame} {meth : Method} {c : Code} {D : va_G} {ca : Nat → ClassId} {ad : Nat → Nat → Nat} {b0 : Nat} {o : Nat × Int32 × oa_M} (C : oa_Cy p l s m args meth c cX4_operand 7 (some .int) RX4 D ca b0 ad) : ∀ (n : Nat), ∀ (x1 : Int32) (x2 : Int32) (x3 : Int32) (x4 : Int32) (x5 : Int32) (M : oa_M), BX4_operand_58 n x1 x2 x3 x4 x5 M = some o → ∀ (H : Heap) (locs : List Loc), oa_H D ca ad M H → va_S (fun q => b0 ≤ q) s.heap H locs → ∀ (ls : Array Slot), lv_has ls 7 [(0, .ref (ad 0 0)), (1, .int x1), (2, .int x2), (3, .int x3), (4, .int x4), (5, .int x5)] → W p l e ({ frames := 6, cells := 1, slots := 6, locals := 83 } : Room) s m args below meth c H locs 0 0 (vx_MQ below (va_Qi (fun (r' : Int32) (u : oa_M) => o.1 = 0 ∧ r' = o.2.1 ∧ u = o.2.2) (fun u t => oa_H D ca ad u t.heap) (fun q => b0 ≤ q)) (vx_X (fun u : oa_M => o.1 ≠ 0 ∧ u = o.2.2) (fun E u t => E = oa_x o.1 ∧ oa_H D ca ad u t.heap) (fun q => b0 ≤ q)) args s 1 (6 * 1) (fun q => b0 ≤ q)) (F0 m 58 ls []) := by
  obtain ⟨hx, hb, hml, hr, hlocks, hown, hts, hE, hw, hl0, hnt⟩ := id C
  intro n x1 x2 x3 x4 x5 M hf H locs hH hS ls hl
  unfold BX4_operand_58 at hf
  cases hf
  exact oa_thr (own := RX4) (text := "no such kind") (names := oa_nm) hx hb hl0 hown (by decide +kernel) (by decide +kernel) (hts _ tw_305) (hts _ tw_53) (hE.2.2.2.2.1 ("OpcodeAtlas", 90, "no such kind") (by decide +kernel)) (oa_at59 hts hE) (by decide +kernel) hE hS hH (hl.1.trans hml.symm) dX4_operand_58 dX4_operand_61 dX4_operand_62 dX4_operand_64 dX4_operand_67 hnt (by decide) (by decide) (by decide) (by decide) hlocks ⟨Nat.succ_ne_zero _, rfl⟩ rfl (by decide) (by decide)
set_option maxHeartbeats 4000000 in
set_option maxRecDepth 100000 in
theorem bX4_operand_39 {p : Program} {l : Launch} {e : Env} {s : State} {m : MethodId} {args : Array Value} {below : List Frame} {meth : Method} {c : Code} {D : va_G} {ca : Nat → ClassId} {ad : Nat → Nat → Nat} {b0 : Nat} {o : Nat × Int32 × oa_M} (C : oa_Cy p l s m args meth c cX4_operand 7 (some .int) RX4 D ca b0 ad) : ∀ (n : Nat), ∀ (x1 : Int32) (x2 : Int32) (x3 : Int32) (x4 : Int32) (x5 : Int32) (M : oa_M), BX4_operand_39 n x1 x2 x3 x4 x5 M = some o → ∀ (H : Heap) (locs : List Loc), oa_H D ca ad M H → va_S (fun q => b0 ≤ q) s.heap H locs → ∀ (ls : Array Slot), lv_has ls 7 [(0, .ref (ad 0 0)), (1, .int x1), (2, .int x2), (3, .int x3), (4, .int x4), (5, .int x5)] → W p l e ({ frames := 6, cells := 1, slots := 6, locals := 83 } : Room) s m args below meth c H locs 0 0 (vx_MQ below (va_Qi (fun (r' : Int32) (u : oa_M) => o.1 = 0 ∧ r' = o.2.1 ∧ u = o.2.2) (fun u t => oa_H D ca ad u t.heap) (fun q => b0 ≤ q)) (vx_X (fun u : oa_M => o.1 ≠ 0 ∧ u = o.2.2) (fun E u t => E = oa_x o.1 ∧ oa_H D ca ad u t.heap) (fun q => b0 ≤ q)) args s 1 (6 * 1) (fun q => b0 ≤ q)) (F0 m 39 ls []) := by
  obtain ⟨hx, hb, hml, hr, hlocks, hown, hts, hE, hw, hl0, hnt⟩ := id C
  intro n x1 x2 x3 x4 x5 M hf H locs hH hS ls hl
  unfold BX4_operand_39 at hf
  cases hf
  exact oa_thr (own := RX4) (text := "no such operand") (names := oa_nm) hx hb hl0 hown (by decide +kernel) (by decide +kernel) (hts _ tw_305) (hts _ tw_53) (hE.2.2.2.2.1 ("OpcodeAtlas", 88, "no such operand") (by decide +kernel)) (oa_at59 hts hE) (by decide +kernel) hE hS hH (hl.1.trans hml.symm) dX4_operand_39 dX4_operand_42 dX4_operand_43 dX4_operand_45 dX4_operand_48 hnt (by decide) (by decide) (by decide) (by decide) hlocks ⟨Nat.succ_ne_zero _, rfl⟩ rfl (by decide) (by decide)
set_option maxHeartbeats 4000000 in
set_option maxRecDepth 100000 in
theorem bX4_operand_12 {p : Program} {l : Launch} {e : Env} {s : State} {m : MethodId} {args : Array Value} {below : List Frame} {meth : Method} {c : Code} {D : va_G} {ca : Nat → ClassId} {ad : Nat → Nat → Nat} {b0 : Nat} {o : Nat × Int32 × oa_M} (C : oa_Cy p l s m args meth c cX4_operand 7 (some .int) RX4 D ca b0 ad) : ∀ (n : Nat), ∀ (x1 : Int32) (x2 : Int32) (x3 : Int32) (x4 : Int32) (x5 : Int32) (M : oa_M), BX4_operand_12 n x1 x2 x3 x4 x5 M = some o → ∀ (H : Heap) (locs : List Loc), oa_H D ca ad M H → va_S (fun q => b0 ≤ q) s.heap H locs → ∀ (ls : Array Slot), lv_has ls 7 [(0, .ref (ad 0 0)), (1, .int x1), (2, .int x2), (3, .int x3), (4, .int x4), (5, .int x5)] → W p l e ({ frames := 6, cells := 1, slots := 6, locals := 83 } : Room) s m args below meth c H locs 0 0 (vx_MQ below (va_Qi (fun (r' : Int32) (u : oa_M) => o.1 = 0 ∧ r' = o.2.1 ∧ u = o.2.2) (fun u t => oa_H D ca ad u t.heap) (fun q => b0 ≤ q)) (vx_X (fun u : oa_M => o.1 ≠ 0 ∧ u = o.2.2) (fun E u t => E = oa_x o.1 ∧ oa_H D ca ad u t.heap) (fun q => b0 ≤ q)) args s 1 (6 * 1) (fun q => b0 ≤ q)) (F0 m 12 ls []) := by
  obtain ⟨hx, hb, hml, hr, hlocks, hown, hts, hE, hw, hl0, hnt⟩ := id C
  intro n x1 x2 x3 x4 x5 M hf H locs hH hS ls hl
  unfold BX4_operand_12 at hf
  cases hf
  exact oa_thr (own := RX4) (text := "no such form") (names := oa_nm) hx hb hl0 hown (by decide +kernel) (by decide +kernel) (hts _ tw_305) (hts _ tw_53) (hE.2.2.2.2.1 ("OpcodeAtlas", 86, "no such form") (by decide +kernel)) (oa_at59 hts hE) (by decide +kernel) hE hS hH (hl.1.trans hml.symm) dX4_operand_12 dX4_operand_15 dX4_operand_16 dX4_operand_18 dX4_operand_21 hnt (by decide) (by decide) (by decide) (by decide) hlocks ⟨Nat.succ_ne_zero _, rfl⟩ rfl (by decide) (by decide)
set_option maxHeartbeats 4000000 in
set_option maxRecDepth 100000 in
theorem cX4_operand_k (l : Launch) (hl0 : l.stackTraces = false) (D : va_G) (ca : Nat → ClassId) (ad : Nat → Nat → Nat) (b0 : Nat) (hw : oa_W ad b0) (n : Nat) (x1 : Int32) (x2 : Int32) (x3 : Int32) (x4 : Int32) (x5 : Int32) (M : oa_M) (o : Nat × Int32 × oa_M) (hf : FX4_operand n x1 x2 x3 x4 x5 M = some o) : oa_Xi l yX4_operand (oa_w yX4_operand cX4_operand 7 (some .int)) ({ frames := 6, cells := 1, slots := 6, locals := 83 } : Room) 1 D ca ad b0 [.ref (ad 0 0), .int x1, .int x2, .int x3, .int x4, .int x5] M o := by
  refine oa_ofX (cc := cX4_operand) (maxL := 7) (ret := some .int) (by decide) rfl (Nat.le_of_ble_eq_true rfl) ?_
  intro p e s m below meth c hx hb hml hr hlocks hown hts0 hnt hP ls hl
  obtain ⟨hH, hE⟩ := hP
  have hts : ∀ w ∈ oa_T, w.before _ s = true := fun w h => hts0 w (List.mem_cons_of_mem _ h)
  have hS : va_S (fun q => b0 ≤ q) s.heap s.heap [] := va_S.rf
  have C : oa_Cy p l s m _ meth c cX4_operand 7 (some .int) RX4 D ca b0 ad := ⟨hx, hb, hml, hr, hlocks, hown, hts, hE, hw, hl0, hnt⟩
  have hl : lv_has ls 7 [(0, .ref (ad 0 0)), (1, .int x1), (2, .int x2), (3, .int x3), (4, .int x4), (5, .int x5)] := hl
  unfold FX4_operand at hf
  refine lv_iload_n hx hb dX4_operand_0 rfl (lv_at hl 1 rfl) ?_
  refine lv_if_lt (tgt := 12) hx hb dX4_operand_1 (by decide) (fun hq1 => ?_) (fun hq1 => ?_)
  · rw [if_pos hq1] at hf
    exact bX4_operand_12 C n x1 x2 x3 x4 x5 _ hf _ _ hH hS _ (lv_sub hl [0, 1, 2, 3, 4, 5] rfl)
  · rw [if_neg hq1] at hf
    refine lv_iload_n hx hb dX4_operand_4 rfl (lv_at hl 1 rfl) ?_
    refine lv_aload_n hx hb dX4_operand_5 rfl (lv_at hl 0 rfl) ?_
    refine oa_get (ci := 4) (C := RX4) (T := TX4) (N := 9) (v := .int (M 0 0 5)) hx hb hts inX4 hown hE hH 0 0 (by decide) rfl rfl 5 (by decide) (hts _ tw_181) rfl dX4_operand_6 ?_
    refine lv_icmp_lt (tgt := 22) hx hb dX4_operand_9 (by decide) (fun hq2 => ?_) (fun hq2 => ?_)
    · rw [if_pos hq2] at hf
      refine lv_iload_n hx hb dX4_operand_22 rfl (lv_at hl 2 rfl) ?_
      refine lv_if_lt (tgt := 39) hx hb dX4_operand_23 (by decide) (fun hq3 => ?_) (fun hq3 => ?_)
      · rw [if_pos hq3] at hf
        exact bX4_operand_39 C n x1 x2 x3 x4 x5 _ hf _ _ hH hS _ (lv_sub hl [0, 1, 2, 3, 4, 5] rfl)
      · rw [if_neg hq3] at hf
        refine lv_iload_n hx hb dX4_operand_26 rfl (lv_at hl 2 rfl) ?_
        refine lv_aload_n hx hb dX4_operand_27 rfl (lv_at hl 0 rfl) ?_
        refine oa_get (ci := 4) (C := RX4) (T := TX4) (N := 9) (v := .ref (ad 4 0)) hx hb hts inX4 hown hE hH 0 0 (by decide) rfl rfl 3 (by decide) (hts _ tw_179) rfl dX4_operand_28 ?_
        refine lv_iload_n hx hb dX4_operand_31 rfl (lv_at hl 1 rfl) ?_
        obtain ⟨hk4, hf⟩ := oa_ck hf
        refine oa_ald (g := fun j => ad 5 j) hx hb hE hH 4 0 (by decide) 13 3 rfl rfl (oa_in_vp hk4) dX4_operand_32 ?_
        refine oa_get (ci := 0) (C := RX0) (T := TX0) (N := 6) (v := .int (M 5 x1.toNatClampNeg 5)) hx hb hts inX0 hown hE hH 5 x1.toNatClampNeg (oa_lt (oa_in_vp hk4)) rfl rfl 5 (by decide) (hts _ tw_131) rfl dX4_operand_33 ?_
        refine lv_icmp_lt (tgt := 49) hx hb dX4_operand_36 (by decide) (fun hq5 => ?_) (fun hq5 => ?_)
        · rw [if_pos hq5] at hf
          refine lv_iload_n hx hb dX4_operand_49 rfl (lv_at hl 3 rfl) ?_
          refine lv_if_lt (tgt := 58) hx hb dX4_operand_50 (by decide) (fun hq6 => ?_) (fun hq6 => ?_)
          · rw [if_pos hq6] at hf
            exact bX4_operand_58 C n x1 x2 x3 x4 x5 _ hf _ _ hH hS _ (lv_sub hl [0, 1, 2, 3, 4, 5] rfl)
          · rw [if_neg hq6] at hf
            refine lv_iload_n hx hb dX4_operand_53 rfl (lv_at hl 3 rfl) ?_
            refine lv_iconst (v := (2 : Int32)) hx hb dX4_operand_54 (by decide) ?_
            refine lv_icmp_le (tgt := 68) hx hb dX4_operand_55 (by decide) (fun hq7 => ?_) (fun hq7 => ?_)
            · rw [if_pos hq7] at hf
              refine lv_iload hx hb dX4_operand_68 (lv_at hl 4 rfl) ?_
              refine lv_iconst (v := (1 : Int32)) hx hb dX4_operand_70 (by decide) ?_
              refine lv_icmp_lt (tgt := 81) hx hb dX4_operand_71 (by decide) (fun hq8 => ?_) (fun hq8 => ?_)
              · rw [if_pos hq8] at hf
                exact bX4_operand_81 C n x1 x2 x3 x4 x5 _ hf _ _ hH hS _ (lv_sub hl [0, 1, 2, 3, 4, 5] rfl)
              · rw [if_neg hq8] at hf
                refine lv_iload hx hb dX4_operand_74 (lv_at hl 4 rfl) ?_
                refine lv_bipush (v := (8 : Int32)) hx hb dX4_operand_76 (by decide) ?_
                refine lv_icmp_le (tgt := 91) hx hb dX4_operand_78 (by decide) (fun hq9 => ?_) (fun hq9 => ?_)
                · rw [if_pos hq9] at hf
                  refine lv_iload hx hb dX4_operand_91 (lv_at hl 5 rfl) ?_
                  refine lv_bipush (v := (-100 : Int32)) hx hb dX4_operand_93 (by decide) ?_
                  refine lv_icmp_lt (tgt := 105) hx hb dX4_operand_95 (by decide) (fun hq10 => ?_) (fun hq10 => ?_)
                  · rw [if_pos hq10] at hf
                    exact bX4_operand_105 C n x1 x2 x3 x4 x5 _ hf _ _ hH hS _ (lv_sub hl [0, 1, 2, 3, 4, 5] rfl)
                  · rw [if_neg hq10] at hf
                    refine lv_iload hx hb dX4_operand_98 (lv_at hl 5 rfl) ?_
                    refine lv_bipush (v := (100 : Int32)) hx hb dX4_operand_100 (by decide) ?_
                    refine lv_icmp_le (tgt := 115) hx hb dX4_operand_102 (by decide) (fun hq11 => ?_) (fun hq11 => ?_)
                    · rw [if_pos hq11] at hf
                      refine lv_aload_n hx hb dX4_operand_115 rfl (lv_at hl 0 rfl) ?_
                      refine oa_get (ci := 4) (C := RX4) (T := TX4) (N := 9) (v := .ref (ad 4 0)) hx hb hts inX4 hown hE hH 0 0 (by decide) rfl rfl 3 (by decide) (hts _ tw_179) rfl dX4_operand_116 ?_
                      refine lv_iload_n hx hb dX4_operand_119 rfl (lv_at hl 1 rfl) ?_
                      obtain ⟨hk12, hf⟩ := oa_ck hf
                      refine oa_ald (g := fun j => ad 5 j) hx hb hE hH 4 0 (by decide) 13 3 rfl rfl (oa_in_vp hk12) dX4_operand_120 ?_
                      refine oa_get (ci := 0) (C := RX0) (T := TX0) (N := 6) (v := .ref (ad 6 x1.toNatClampNeg)) hx hb hts inX0 hown hE hH 5 x1.toNatClampNeg (oa_lt (oa_in_vp hk12)) rfl rfl 0 (by decide) (hts _ tw_122) rfl dX4_operand_121 ?_
                      refine lv_iload_n hx hb dX4_operand_124 rfl (lv_at hl 2 rfl) ?_
                      obtain ⟨hk13, hf⟩ := oa_ck hf
                      refine oa_ald (g := fun j => ad 7 (3 * x1.toNatClampNeg + j)) hx hb hE hH 6 x1.toNatClampNeg (oa_lt (oa_in_vp hk12)) 3 5 rfl rfl (oa_in_vp hk13) dX4_operand_125 ?_
                      refine lv_astore (lv' := [(6, .ref (ad 7 (3 * x1.toNatClampNeg + x2.toNatClampNeg))), (0, .ref (ad 0 0)), (1, .int x1), (2, .int x2), (3, .int x3), (4, .int x4), (5, .int x5)]) hx hb dX4_operand_126 hl (by decide) rfl (fun ls hl => ?_)
                      refine lv_aload hx hb dX4_operand_128 (lv_at hl 0 rfl) ?_
                      refine lv_iload_n hx hb dX4_operand_130 rfl (lv_at hl 4 rfl) ?_
                      refine oa_put (ci := 2) (C := RX2) (T := TX2) (N := 5) (v := .int x3) (x := x3) hx hb hts inX2 tyX2 tyX2_ok nmX2 hown hE hw hH hS 7 (3 * x1.toNatClampNeg + x2.toNatClampNeg) (oa_lt7 (oa_lt (oa_in_vp hk12)) (oa_in_vp hk13)) rfl rfl 2 (by decide) (hts _ tw_104) rfl rfl rfl (Nat.le_of_ble_eq_true rfl) rfl dX4_operand_131 (fun H locs hH hS => ?_)
                      refine lv_aload hx hb dX4_operand_134 (lv_at hl 0 rfl) ?_
                      refine lv_iload hx hb dX4_operand_136 (lv_at hl 5 rfl) ?_
                      refine oa_put (ci := 2) (C := RX2) (T := TX2) (N := 5) (v := .int x4) (x := x4) hx hb hts inX2 tyX2 tyX2_ok nmX2 hown hE hw hH hS 7 (3 * x1.toNatClampNeg + x2.toNatClampNeg) (oa_lt7 (oa_lt (oa_in_vp hk12)) (oa_in_vp hk13)) rfl rfl 3 (by decide) (hts _ tw_106) rfl rfl rfl (Nat.le_of_ble_eq_true rfl) rfl dX4_operand_138 (fun H locs hH hS => ?_)
                      refine lv_aload hx hb dX4_operand_141 (lv_at hl 0 rfl) ?_
                      refine lv_iload hx hb dX4_operand_143 (lv_at hl 6 rfl) ?_
                      refine oa_put (ci := 2) (C := RX2) (T := TX2) (N := 5) (v := .int x5) (x := x5) hx hb hts inX2 tyX2 tyX2_ok nmX2 hown hE hw hH hS 7 (3 * x1.toNatClampNeg + x2.toNatClampNeg) (oa_lt7 (oa_lt (oa_in_vp hk12)) (oa_in_vp hk13)) rfl rfl 4 (by decide) (hts _ tw_108) rfl rfl rfl (Nat.le_of_ble_eq_true rfl) rfl dX4_operand_145 (fun H locs hH hS => ?_)
                      refine lv_aload hx hb dX4_operand_148 (lv_at hl 0 rfl) ?_
                      refine oa_get (ci := 2) (C := RX2) (T := TX2) (N := 5) (v := .int ((oa_up (oa_up (oa_up M 7 (3 * x1.toNatClampNeg + x2.toNatClampNeg) 2 x3) 7 (3 * x1.toNatClampNeg + x2.toNatClampNeg) 3 x4) 7 (3 * x1.toNatClampNeg + x2.toNatClampNeg) 4 x5) 7 (3 * x1.toNatClampNeg + x2.toNatClampNeg) 1)) hx hb hts inX2 hown hE hH 7 (3 * x1.toNatClampNeg + x2.toNatClampNeg) (oa_lt7 (oa_lt (oa_in_vp hk12)) (oa_in_vp hk13)) rfl rfl 1 (by decide) (hts _ tw_102) rfl dX4_operand_150 ?_
                      cases hf
                      refine vx_ret (W.widen (k := 1) (n := 6 * 1) (by decide) (by decide) ?_)
                      exact oa_rexi hx hb hr hlocks rfl rfl hS hH dX4_operand_153
                    · rw [if_neg hq11] at hf
                      exact bX4_operand_105 C n x1 x2 x3 x4 x5 _ hf _ _ hH hS _ (lv_sub hl [0, 1, 2, 3, 4, 5] rfl)
                · rw [if_neg hq9] at hf
                  exact bX4_operand_81 C n x1 x2 x3 x4 x5 _ hf _ _ hH hS _ (lv_sub hl [0, 1, 2, 3, 4, 5] rfl)
            · rw [if_neg hq7] at hf
              exact bX4_operand_58 C n x1 x2 x3 x4 x5 _ hf _ _ hH hS _ (lv_sub hl [0, 1, 2, 3, 4, 5] rfl)
        · rw [if_neg hq5] at hf
          exact bX4_operand_39 C n x1 x2 x3 x4 x5 _ hf _ _ hH hS _ (lv_sub hl [0, 1, 2, 3, 4, 5] rfl)
    · rw [if_neg hq2] at hf
      exact bX4_operand_12 C n x1 x2 x3 x4 x5 _ hf _ _ hH hS _ (lv_sub hl [0, 1, 2, 3, 4, 5] rfl)
theorem cX4_operand_ok (l : Launch) (hl0 : l.stackTraces = false) (D : va_G) (ca : Nat → ClassId) (ad : Nat → Nat → Nat) (b0 : Nat) (hw : oa_W ad b0) (n : Nat) (x1 : Int32) (x2 : Int32) (x3 : Int32) (x4 : Int32) (x5 : Int32) (M : oa_M) (o : Nat × Int32 × oa_M) (hf : FX4_operand n x1 x2 x3 x4 x5 M = some o) : oa_Xi l yX4_operand (oa_w yX4_operand cX4_operand 7 (some .int)) ({ frames := 6, cells := 1, slots := 6, locals := 83 } : Room) 1 D ca ad b0 [.ref (ad 0 0), .int x1, .int x2, .int x3, .int x4, .int x5] M o := cX4_operand_k l hl0 D ca ad b0 hw n x1 x2 x3 x4 x5 M o hf
def BX4_test_19 (rec7 : Int32 → oa_M → Option (Int32 × oa_M)) : Nat → Int32 → Int32 → oa_M → Option (Int32 × oa_M)
  | 0, _, _, _ => none
  | n + 1, x1, x2, M => (if (M 0 0 5) ≤ x2 then (rec7 (x1 + (1 : Int32)) M) else (if oa_in x1 13 = true then (if oa_in x2 13 = true then (oa_bd (FX0_clashesWith n x1.toNatClampNeg x2.toNatClampNeg M) (fun r4 M5 => (if r4 = 0 then (BX4_test_19 rec7 n x1 (x2 + (1 : Int32)) M5) else (some ((((1 : Int32) + ((16 : Int32) * x1)) + x2), M5))))) else none) else none))
def BX4_test_7 : Nat → Int32 → oa_M → Option (Int32 × oa_M)
  | 0, _, _ => none
  | n + 1, x1, M => (if (M 0 0 5) ≤ x1 then (some ((0 : Int32), (oa_up M 0 0 8 (1 : Int32)))) else (BX4_test_19 (BX4_test_7 n) n x1 (x1 + (1 : Int32)) M))
def FX4_test (n : Nat)  (M : oa_M) : Option (Int32 × oa_M) := (BX4_test_7 n (0 : Int32) (oa_up M 0 0 8 (0 : Int32)))
set_option maxHeartbeats 4000000 in
set_option maxRecDepth 100000 in
theorem bX4_test_19 {p : Program} {l : Launch} {e : Env} {s : State} {m : MethodId} {args : Array Value} {below : List Frame} {meth : Method} {c : Code} {D : va_G} {ca : Nat → ClassId} {ad : Nat → Nat → Nat} {b0 : Nat} {o : Int32 × oa_M} (C : oa_Cx p s m args meth c cX4_test 3 (some .int) RX4 D ca b0 ad) (rec7 : Int32 → oa_M → Option (Int32 × oa_M)) (hrec7 : ∀ (x1 : Int32) (M : oa_M), rec7 x1 M = some o → ∀ (H : Heap) (locs : List Loc), oa_H D ca ad M H → va_S (fun q => b0 ≤ q) s.heap H locs → ∀ (ls : Array Slot), lv_has ls 3 [(0, .ref (ad 0 0)), (1, .int x1)] → W p l e ({ frames := 3, cells := 0, slots := 0, locals := 65 } : Room) s m args below meth c H locs 0 0 (MQ below (va_Qi (fun (r' : Int32) (u : oa_M) => r' = o.1 ∧ u = o.2) (fun u t => oa_H D ca ad u t.heap) (fun q => b0 ≤ q)) args s 0 0 (fun q => b0 ≤ q)) (F0 m 7 ls [])) : ∀ (n : Nat), ∀ (x1 : Int32) (x2 : Int32) (M : oa_M), BX4_test_19 rec7 n x1 x2 M = some o → ∀ (H : Heap) (locs : List Loc), oa_H D ca ad M H → va_S (fun q => b0 ≤ q) s.heap H locs → ∀ (ls : Array Slot), lv_has ls 3 [(0, .ref (ad 0 0)), (1, .int x1), (2, .int x2)] → W p l e ({ frames := 3, cells := 0, slots := 0, locals := 65 } : Room) s m args below meth c H locs 0 0 (MQ below (va_Qi (fun (r' : Int32) (u : oa_M) => r' = o.1 ∧ u = o.2) (fun u t => oa_H D ca ad u t.heap) (fun q => b0 ≤ q)) args s 0 0 (fun q => b0 ≤ q)) (F0 m 19 ls []) := by
  obtain ⟨hx, hb, hml, hr, hlocks, hown, hts, hE, hw⟩ := id C
  intro n
  induction n with
  | zero => intro x1 x2 M hf; cases hf
  | succ n ih =>
    intro x1 x2 M hf H locs hH hS ls hl
    have hrec19 := ih
    unfold BX4_test_19 at hf
    refine lv_iload_n hx hb dX4_test_19 rfl (lv_at hl 2 rfl) ?_
    refine lv_aload_n hx hb dX4_test_20 rfl (lv_at hl 0 rfl) ?_
    refine oa_get (ci := 4) (C := RX4) (T := TX4) (N := 9) (v := .int (M 0 0 5)) hx hb hts inX4 hown hE hH 0 0 (by decide) rfl rfl 5 (by decide) (hts _ tw_181) rfl dX4_test_21 ?_
    refine lv_icmp_ge (tgt := 60) hx hb dX4_test_24 (by decide) (fun hq1 => ?_) (fun hq1 => ?_)
    · rw [if_pos hq1] at hf
      refine lv_iinc (v := (x1 + (1 : Int32))) (lv' := [(1, .int (x1 + (1 : Int32))), (0, .ref (ad 0 0)), (2, .int x2)]) hx hb dX4_test_60 hl (k := 1) rfl rfl (by decide) rfl (fun ls hl => ?_)
      refine lv_goto (tgt := 7) hx hb dX4_test_63 (by decide) ?_
      exact hrec7 (x1 + (1 : Int32)) _ hf _ _ hH hS _ (lv_sub hl [1, 0] rfl)
    · rw [if_neg hq1] at hf
      refine lv_aload_n hx hb dX4_test_27 rfl (lv_at hl 0 rfl) ?_
      refine oa_get (ci := 4) (C := RX4) (T := TX4) (N := 9) (v := .ref (ad 4 0)) hx hb hts inX4 hown hE hH 0 0 (by decide) rfl rfl 3 (by decide) (hts _ tw_179) rfl dX4_test_28 ?_
      refine lv_iload_n hx hb dX4_test_31 rfl (lv_at hl 1 rfl) ?_
      obtain ⟨hk2, hf⟩ := oa_ck hf
      refine oa_ald (g := fun j => ad 5 j) hx hb hE hH 4 0 (by decide) 13 3 rfl rfl (oa_in_vp hk2) dX4_test_32 ?_
      refine lv_aload_n hx hb dX4_test_33 rfl (lv_at hl 0 rfl) ?_
      refine oa_get (ci := 4) (C := RX4) (T := TX4) (N := 9) (v := .ref (ad 4 0)) hx hb hts inX4 hown hE hH 0 0 (by decide) rfl rfl 3 (by decide) (hts _ tw_179) rfl dX4_test_34 ?_
      refine lv_iload_n hx hb dX4_test_37 rfl (lv_at hl 2 rfl) ?_
      obtain ⟨hk3, hf⟩ := oa_ck hf
      refine oa_ald (g := fun j => ad 5 j) hx hb hE hH 4 0 (by decide) 13 3 rfl rfl (oa_in_vp hk3) dX4_test_38 ?_
      obtain ⟨r4, M5, hc6, hf⟩ := oa_bdE hf
      refine oa_cvi (As := [.ref (ad 5 x2.toNatClampNeg)]) (rest := []) ⟨hx, hb, hml, hown, hts⟩ (cX0_clashesWith_ok l D ca ad b0 hw n x1.toNatClampNeg (oa_lt (oa_in_vp hk2)) x2.toNatClampNeg (oa_lt (oa_in_vp hk3)) _ _ _ hc6) (cwV 1 hts (oa_gV tw_216 tw_217 tw_218 tw_46 tw_219) rfl rfl rfl (by decide +kernel) ⟨Nat.le_of_ble_eq_true rfl, Nat.le_of_ble_eq_true rfl⟩) hE hH hS (oa_recv (k := 5) (ci := 0) hE hH (oa_lt (oa_in_vp hk2)) rfl rfl) rfl hl.1 rfl (Nat.le_of_ble_eq_true rfl) dX4_test_39 ⟨by decide, by decide⟩ (fun H locs hH hS => ?_)
      refine lv_if_eq (tgt := 54) hx hb dX4_test_42 (by decide) (fun hq7 => ?_) (fun hq7 => ?_)
      · rw [if_pos hq7] at hf
        refine lv_iinc (v := (x2 + (1 : Int32))) (lv' := [(2, .int (x2 + (1 : Int32))), (0, .ref (ad 0 0)), (1, .int x1)]) hx hb dX4_test_54 hl (k := 2) rfl rfl (by decide) rfl (fun ls hl => ?_)
        refine lv_goto (tgt := 19) hx hb dX4_test_57 (by decide) ?_
        exact hrec19 x1 (x2 + (1 : Int32)) _ hf _ _ hH hS _ (lv_sub hl [1, 2, 0] rfl)
      · rw [if_neg hq7] at hf
        refine lv_iconst (v := (1 : Int32)) hx hb dX4_test_45 (by decide) ?_
        refine lv_bipush (v := (16 : Int32)) hx hb dX4_test_46 (by decide) ?_
        refine lv_iload_n hx hb dX4_test_48 rfl (lv_at hl 1 rfl) ?_
        refine lv_imul hx hb dX4_test_49 ?_
        refine lv_iadd hx hb dX4_test_50 ?_
        refine lv_iload_n hx hb dX4_test_51 rfl (lv_at hl 2 rfl) ?_
        refine lv_iadd hx hb dX4_test_52 ?_
        cases hf
        exact oa_reti hx hb hr hlocks rfl hS hH dX4_test_53
set_option maxHeartbeats 4000000 in
set_option maxRecDepth 100000 in
theorem bX4_test_7 {p : Program} {l : Launch} {e : Env} {s : State} {m : MethodId} {args : Array Value} {below : List Frame} {meth : Method} {c : Code} {D : va_G} {ca : Nat → ClassId} {ad : Nat → Nat → Nat} {b0 : Nat} {o : Int32 × oa_M} (C : oa_Cx p s m args meth c cX4_test 3 (some .int) RX4 D ca b0 ad) : ∀ (n : Nat), ∀ (x1 : Int32) (M : oa_M), BX4_test_7 n x1 M = some o → ∀ (H : Heap) (locs : List Loc), oa_H D ca ad M H → va_S (fun q => b0 ≤ q) s.heap H locs → ∀ (ls : Array Slot), lv_has ls 3 [(0, .ref (ad 0 0)), (1, .int x1)] → W p l e ({ frames := 3, cells := 0, slots := 0, locals := 65 } : Room) s m args below meth c H locs 0 0 (MQ below (va_Qi (fun (r' : Int32) (u : oa_M) => r' = o.1 ∧ u = o.2) (fun u t => oa_H D ca ad u t.heap) (fun q => b0 ≤ q)) args s 0 0 (fun q => b0 ≤ q)) (F0 m 7 ls []) := by
  obtain ⟨hx, hb, hml, hr, hlocks, hown, hts, hE, hw⟩ := id C
  intro n
  induction n with
  | zero => intro x1 M hf; cases hf
  | succ n ih =>
    intro x1 M hf H locs hH hS ls hl
    have hrec7 := ih
    unfold BX4_test_7 at hf
    refine lv_iload_n hx hb dX4_test_7 rfl (lv_at hl 1 rfl) ?_
    refine lv_aload_n hx hb dX4_test_8 rfl (lv_at hl 0 rfl) ?_
    refine oa_get (ci := 4) (C := RX4) (T := TX4) (N := 9) (v := .int (M 0 0 5)) hx hb hts inX4 hown hE hH 0 0 (by decide) rfl rfl 5 (by decide) (hts _ tw_181) rfl dX4_test_9 ?_
    refine lv_icmp_ge (tgt := 66) hx hb dX4_test_12 (by decide) (fun hq1 => ?_) (fun hq1 => ?_)
    · rw [if_pos hq1] at hf
      refine lv_aload_n hx hb dX4_test_66 rfl (lv_at hl 0 rfl) ?_
      refine lv_iconst (v := (1 : Int32)) hx hb dX4_test_67 (by decide) ?_
      refine oa_put (ci := 4) (C := RX4) (T := TX4) (N := 9) (v := .int (1 : Int32)) (x := (1 : Int32)) hx hb hts inX4 tyX4 tyX4_ok nmX4 hown hE hw hH hS 0 0 (by decide) rfl rfl 8 (by decide) (hts _ tw_184) rfl rfl (by decide) (Nat.le_of_ble_eq_true rfl) rfl dX4_test_68 (fun H locs hH hS => ?_)
      refine lv_iconst (v := (0 : Int32)) hx hb dX4_test_71 (by decide) ?_
      cases hf
      exact oa_reti hx hb hr hlocks rfl hS hH dX4_test_72
    · rw [if_neg hq1] at hf
      refine lv_iload_n hx hb dX4_test_15 rfl (lv_at hl 1 rfl) ?_
      refine lv_iconst (v := (1 : Int32)) hx hb dX4_test_16 (by decide) ?_
      refine lv_iadd hx hb dX4_test_17 ?_
      refine lv_istore_n (lv' := [(2, .int (x1 + (1 : Int32))), (0, .ref (ad 0 0)), (1, .int x1)]) hx hb dX4_test_18 rfl hl (by decide) rfl (fun ls hl => ?_)
      exact bX4_test_19 C _ hrec7 n x1 (x1 + (1 : Int32)) _ hf _ _ hH hS _ (lv_sub hl [1, 2, 0] rfl)
set_option maxHeartbeats 4000000 in
set_option maxRecDepth 100000 in
theorem cX4_test_k (l : Launch) (D : va_G) (ca : Nat → ClassId) (ad : Nat → Nat → Nat) (b0 : Nat) (hw : oa_W ad b0) (n : Nat)  (M : oa_M) (o : Int32 × oa_M) (hf : FX4_test n  M = some o) : oa_Mi l yX4_test (oa_w yX4_test cX4_test 3 (some .int)) ({ frames := 3, cells := 0, slots := 0, locals := 65 } : Room) D ca ad b0 [.ref (ad 0 0)] M o.1 o.2 := by
  refine oa_ofW (cc := cX4_test) (maxL := 3) (ret := some .int) (by decide) rfl (Nat.le_of_ble_eq_true rfl) ?_
  intro p e s m below meth c hx hb hml hr hlocks hown hts0 hP ls hl
  obtain ⟨hH, hE⟩ := hP
  have hts : ∀ w ∈ oa_T, w.before _ s = true := fun w h => hts0 w (List.mem_cons_of_mem _ h)
  have hS : va_S (fun q => b0 ≤ q) s.heap s.heap [] := va_S.rf
  have C : oa_Cx p s m _ meth c cX4_test 3 (some .int) RX4 D ca b0 ad := ⟨hx, hb, hml, hr, hlocks, hown, hts, hE, hw⟩
  have hl : lv_has ls 3 [(0, .ref (ad 0 0))] := hl
  unfold FX4_test at hf
  refine lv_aload_n hx hb dX4_test_0 rfl (lv_at hl 0 rfl) ?_
  refine lv_iconst (v := (0 : Int32)) hx hb dX4_test_1 (by decide) ?_
  refine oa_put (ci := 4) (C := RX4) (T := TX4) (N := 9) (v := .int (0 : Int32)) (x := (0 : Int32)) hx hb hts inX4 tyX4 tyX4_ok nmX4 hown hE hw hH hS 0 0 (by decide) rfl rfl 8 (by decide) (hts _ tw_184) rfl rfl (by decide) (Nat.le_of_ble_eq_true rfl) rfl dX4_test_2 (fun H locs hH hS => ?_)
  refine lv_iconst (v := (0 : Int32)) hx hb dX4_test_5 (by decide) ?_
  refine lv_istore_n (lv' := [(1, .int (0 : Int32)), (0, .ref (ad 0 0))]) hx hb dX4_test_6 rfl hl (by decide) rfl (fun ls hl => ?_)
  exact bX4_test_7 C n (0 : Int32) _ hf _ _ hH hS _ (lv_sub hl [1, 0] rfl)
theorem cX4_test_ok (l : Launch) (D : va_G) (ca : Nat → ClassId) (ad : Nat → Nat → Nat) (b0 : Nat) (hw : oa_W ad b0) (n : Nat)  (M : oa_M) (r : Int32) (M' : oa_M) (hf : FX4_test n  M = some (r, M')) : oa_Mi l yX4_test (oa_w yX4_test cX4_test 3 (some .int)) ({ frames := 3, cells := 0, slots := 0, locals := 65 } : Room) D ca ad b0 [.ref (ad 0 0)] M r M' := cX4_test_k l D ca ad b0 hw n  M (r, M') hf
def BX4_requireAddress_10 (n : Nat) (x1 : Int32) (M : oa_M) : Option (Nat × oa_M) := (some (3, M))
def FX4_requireAddress (n : Nat) (x1 : Int32) (M : oa_M) : Option (Nat × oa_M) := (if x1 < 0 then (BX4_requireAddress_10 n x1 M) else (if x1 < (64 : Int32) then (some (0, M)) else (BX4_requireAddress_10 n x1 M)))
set_option maxHeartbeats 4000000 in
set_option maxRecDepth 100000 in
theorem bX4_requireAddress_10 {p : Program} {l : Launch} {e : Env} {s : State} {m : MethodId} {args : Array Value} {below : List Frame} {meth : Method} {c : Code} {D : va_G} {ca : Nat → ClassId} {ad : Nat → Nat → Nat} {b0 : Nat} {o : Nat × oa_M} (C : oa_Cy p l s m args meth c cX4_requireAddress 2 (none) RX4 D ca b0 ad) : ∀ (n : Nat), ∀ (x1 : Int32) (M : oa_M), BX4_requireAddress_10 n x1 M = some o → ∀ (H : Heap) (locs : List Loc), oa_H D ca ad M H → va_S (fun q => b0 ≤ q) s.heap H locs → ∀ (ls : Array Slot), lv_has ls 2 [(0, .ref (ad 0 0)), (1, .int x1)] → W p l e ({ frames := 6, cells := 1, slots := 6, locals := 83 } : Room) s m args below meth c H locs 0 0 (vx_MQ below (va_Qv (fun (u : oa_M) => o.1 = 0 ∧ u = o.2) (fun u t => oa_H D ca ad u t.heap) (fun q => b0 ≤ q)) (vx_X (fun u : oa_M => o.1 ≠ 0 ∧ u = o.2) (fun E u t => E = oa_x o.1 ∧ oa_H D ca ad u t.heap) (fun q => b0 ≤ q)) args s 1 (6 * 1) (fun q => b0 ≤ q)) (F0 m 10 ls []) := by
  obtain ⟨hx, hb, hml, hr, hlocks, hown, hts, hE, hw, hl0, hnt⟩ := id C
  intro n x1 M hf H locs hH hS ls hl
  unfold BX4_requireAddress_10 at hf
  cases hf
  exact oa_thr (own := RX4) (text := "no such address") (names := oa_nm) hx hb hl0 hown (by decide +kernel) (by decide +kernel) (hts _ tw_419) (hts _ tw_56) (hE.2.2.2.2.1 ("OpcodeAtlas", 191, "no such address") (by decide +kernel)) (oa_at132 hts hE) (by decide +kernel) hE hS hH (hl.1.trans hml.symm) dX4_requireAddress_10 dX4_requireAddress_13 dX4_requireAddress_14 dX4_requireAddress_16 dX4_requireAddress_19 hnt (by decide) (by decide) (by decide) (by decide) hlocks ⟨Nat.succ_ne_zero _, rfl⟩ rfl (by decide) (by decide)
set_option maxHeartbeats 4000000 in
set_option maxRecDepth 100000 in
theorem cX4_requireAddress_k (l : Launch) (hl0 : l.stackTraces = false) (D : va_G) (ca : Nat → ClassId) (ad : Nat → Nat → Nat) (b0 : Nat) (hw : oa_W ad b0) (n : Nat) (x1 : Int32) (M : oa_M) (o : Nat × oa_M) (hf : FX4_requireAddress n x1 M = some o) : oa_Xv l yX4_requireAddress (oa_w yX4_requireAddress cX4_requireAddress 2 none) ({ frames := 6, cells := 1, slots := 6, locals := 83 } : Room) 1 D ca ad b0 [.ref (ad 0 0), .int x1] M o := by
  refine oa_ofX (cc := cX4_requireAddress) (maxL := 2) (ret := none) (by decide) rfl (Nat.le_of_ble_eq_true rfl) ?_
  intro p e s m below meth c hx hb hml hr hlocks hown hts0 hnt hP ls hl
  obtain ⟨hH, hE⟩ := hP
  have hts : ∀ w ∈ oa_T, w.before _ s = true := fun w h => hts0 w (List.mem_cons_of_mem _ h)
  have hS : va_S (fun q => b0 ≤ q) s.heap s.heap [] := va_S.rf
  have C : oa_Cy p l s m _ meth c cX4_requireAddress 2 (none) RX4 D ca b0 ad := ⟨hx, hb, hml, hr, hlocks, hown, hts, hE, hw, hl0, hnt⟩
  have hl : lv_has ls 2 [(0, .ref (ad 0 0)), (1, .int x1)] := hl
  unfold FX4_requireAddress at hf
  refine lv_iload_n hx hb dX4_requireAddress_0 rfl (lv_at hl 1 rfl) ?_
  refine lv_if_lt (tgt := 10) hx hb dX4_requireAddress_1 (by decide) (fun hq1 => ?_) (fun hq1 => ?_)
  · rw [if_pos hq1] at hf
    exact bX4_requireAddress_10 C n x1 _ hf _ _ hH hS _ (lv_sub hl [0, 1] rfl)
  · rw [if_neg hq1] at hf
    refine lv_iload_n hx hb dX4_requireAddress_4 rfl (lv_at hl 1 rfl) ?_
    refine lv_bipush (v := (64 : Int32)) hx hb dX4_requireAddress_5 (by decide) ?_
    refine lv_icmp_lt (tgt := 20) hx hb dX4_requireAddress_7 (by decide) (fun hq2 => ?_) (fun hq2 => ?_)
    · rw [if_pos hq2] at hf
      cases hf
      refine vx_ret (W.widen (k := 1) (n := 6 * 1) (by decide) (by decide) ?_)
      exact oa_rexv hx hb hr hlocks rfl hS hH dX4_requireAddress_20
    · rw [if_neg hq2] at hf
      exact bX4_requireAddress_10 C n x1 _ hf _ _ hH hS _ (lv_sub hl [0, 1] rfl)
theorem cX4_requireAddress_ok (l : Launch) (hl0 : l.stackTraces = false) (D : va_G) (ca : Nat → ClassId) (ad : Nat → Nat → Nat) (b0 : Nat) (hw : oa_W ad b0) (n : Nat) (x1 : Int32) (M : oa_M) (o : Nat × oa_M) (hf : FX4_requireAddress n x1 M = some o) : oa_Xv l yX4_requireAddress (oa_w yX4_requireAddress cX4_requireAddress 2 none) ({ frames := 6, cells := 1, slots := 6, locals := 83 } : Room) 1 D ca ad b0 [.ref (ad 0 0), .int x1] M o := cX4_requireAddress_k l hl0 D ca ad b0 hw n x1 M o hf
def FX4_poke (n : Nat) (x1 : Int32) (x2 : Int32) (M : oa_M) : Option (Nat × Int32 × oa_M) := (oa_bx (FX4_requireAddress n x1 M) (fun M2 => (if oa_in x1 64 = true then (if oa_in x1 64 = true then (some (0, (M2 3 0 x1.toNatClampNeg), (oa_up M2 3 0 x1.toNatClampNeg (x2 &&& (255 : Int32))))) else none) else none)))
set_option maxHeartbeats 4000000 in
set_option maxRecDepth 100000 in
theorem cX4_poke_k (l : Launch) (hl0 : l.stackTraces = false) (D : va_G) (ca : Nat → ClassId) (ad : Nat → Nat → Nat) (b0 : Nat) (hw : oa_W ad b0) (n : Nat) (x1 : Int32) (x2 : Int32) (M : oa_M) (o : Nat × Int32 × oa_M) (hf : FX4_poke n x1 x2 M = some o) : oa_Xi l yX4_poke (oa_w yX4_poke cX4_poke 4 (some .int)) ({ frames := 7, cells := 1, slots := 6, locals := 104 } : Room) 1 D ca ad b0 [.ref (ad 0 0), .int x1, .int x2] M o := by
  refine oa_ofX (cc := cX4_poke) (maxL := 4) (ret := some .int) (by decide) rfl (Nat.le_of_ble_eq_true rfl) ?_
  intro p e s m below meth c hx hb hml hr hlocks hown hts0 hnt hP ls hl
  obtain ⟨hH, hE⟩ := hP
  have hts : ∀ w ∈ oa_T, w.before _ s = true := fun w h => hts0 w (List.mem_cons_of_mem _ h)
  have hS : va_S (fun q => b0 ≤ q) s.heap s.heap [] := va_S.rf
  have C : oa_Cy p l s m _ meth c cX4_poke 4 (some .int) RX4 D ca b0 ad := ⟨hx, hb, hml, hr, hlocks, hown, hts, hE, hw, hl0, hnt⟩
  have hl : lv_has ls 4 [(0, .ref (ad 0 0)), (1, .int x1), (2, .int x2)] := hl
  unfold FX4_poke at hf
  refine lv_aload_n hx hb dX4_poke_0 rfl (lv_at hl 0 rfl) ?_
  refine lv_iload_n hx hb dX4_poke_1 rfl (lv_at hl 1 rfl) ?_
  obtain ⟨cd4, M2, hc3, ha5, hb6⟩ := oa_bxE hf
  refine oa_cxv (mc := 1) (mc0 := 1) (As := [.int x1]) (rest := []) ⟨hx, hb, hml, hown, hts⟩ (cX4_requireAddress_ok l hl0 D ca ad b0 hw n x1 _ _ hc3) (cwV 1 hts (oa_gV tw_415 tw_417 tw_3 tw_44 tw_418) rfl rfl rfl (by decide +kernel) ⟨Nat.le_of_ble_eq_true rfl, Nat.le_of_ble_eq_true rfl⟩) hE hH hS (oa_recv (k := 0) (ci := 4) hE hH (by decide) rfl rfl) rfl hl.1 rfl (Nat.le_of_ble_eq_true rfl) dX4_poke_2 ⟨by decide, by decide⟩ hnt hlocks (by decide) (by decide) hb6 (fun hz7 H locs hH hS => ?_)
  have hf := ha5 hz7
  refine lv_aload_n hx hb dX4_poke_5 rfl (lv_at hl 0 rfl) ?_
  refine oa_get (ci := 4) (C := RX4) (T := TX4) (N := 9) (v := .ref (ad 3 0)) hx hb hts inX4 hown hE hH 0 0 (by decide) rfl rfl 2 (by decide) (hts _ tw_178) rfl dX4_poke_6 ?_
  refine lv_iload_n hx hb dX4_poke_9 rfl (lv_at hl 1 rfl) ?_
  obtain ⟨hk8, hf⟩ := oa_ck hf
  refine oa_ild (v := (M2 3 0 x1.toNatClampNeg)) hx hb hE hH 3 0 (by decide) 64 rfl rfl (oa_in_vp hk8) dX4_poke_10 ?_
  refine lv_istore_n (lv' := [(3, .int (M2 3 0 x1.toNatClampNeg)), (0, .ref (ad 0 0)), (1, .int x1), (2, .int x2)]) hx hb dX4_poke_11 rfl hl (by decide) rfl (fun ls hl => ?_)
  refine lv_aload_n hx hb dX4_poke_12 rfl (lv_at hl 1 rfl) ?_
  refine oa_get (ci := 4) (C := RX4) (T := TX4) (N := 9) (v := .ref (ad 3 0)) hx hb hts inX4 hown hE hH 0 0 (by decide) rfl rfl 2 (by decide) (hts _ tw_178) rfl dX4_poke_13 ?_
  refine lv_iload_n hx hb dX4_poke_16 rfl (lv_at hl 2 rfl) ?_
  refine lv_iload_n hx hb dX4_poke_17 rfl (lv_at hl 3 rfl) ?_
  refine lv_sipush (v := (255 : Int32)) hx hb dX4_poke_18 (by decide) ?_
  refine lv_iand hx hb dX4_poke_21 ?_
  obtain ⟨hk9, hf⟩ := oa_ck hf
  refine oa_ist hx hb hE hw hH hS 3 0 (by decide) 64 (fun _ => rfl) (oa_in_vp hk9) dX4_poke_22 (fun H locs hH hS => ?_)
  refine lv_iload_n hx hb dX4_poke_23 rfl (lv_at hl 0 rfl) ?_
  cases hf
  refine vx_ret (W.widen (k := 1) (n := 6 * 1) (by decide) (by decide) ?_)
  exact oa_rexi hx hb hr hlocks rfl rfl hS hH dX4_poke_24
theorem cX4_poke_ok (l : Launch) (hl0 : l.stackTraces = false) (D : va_G) (ca : Nat → ClassId) (ad : Nat → Nat → Nat) (b0 : Nat) (hw : oa_W ad b0) (n : Nat) (x1 : Int32) (x2 : Int32) (M : oa_M) (o : Nat × Int32 × oa_M) (hf : FX4_poke n x1 x2 M = some o) : oa_Xi l yX4_poke (oa_w yX4_poke cX4_poke 4 (some .int)) ({ frames := 7, cells := 1, slots := 6, locals := 104 } : Room) 1 D ca ad b0 [.ref (ad 0 0), .int x1, .int x2] M o := cX4_poke_k l hl0 D ca ad b0 hw n x1 x2 M o hf
def FX4_peek (n : Nat) (x1 : Int32) (M : oa_M) : Option (Nat × Int32 × oa_M) := (oa_bx (FX4_requireAddress n x1 M) (fun M2 => (if oa_in x1 64 = true then (some (0, (M2 3 0 x1.toNatClampNeg), M2)) else none)))
set_option maxHeartbeats 4000000 in
set_option maxRecDepth 100000 in
theorem cX4_peek_k (l : Launch) (hl0 : l.stackTraces = false) (D : va_G) (ca : Nat → ClassId) (ad : Nat → Nat → Nat) (b0 : Nat) (hw : oa_W ad b0) (n : Nat) (x1 : Int32) (M : oa_M) (o : Nat × Int32 × oa_M) (hf : FX4_peek n x1 M = some o) : oa_Xi l yX4_peek (oa_w yX4_peek cX4_peek 2 (some .int)) ({ frames := 7, cells := 1, slots := 6, locals := 104 } : Room) 1 D ca ad b0 [.ref (ad 0 0), .int x1] M o := by
  refine oa_ofX (cc := cX4_peek) (maxL := 2) (ret := some .int) (by decide) rfl (Nat.le_of_ble_eq_true rfl) ?_
  intro p e s m below meth c hx hb hml hr hlocks hown hts0 hnt hP ls hl
  obtain ⟨hH, hE⟩ := hP
  have hts : ∀ w ∈ oa_T, w.before _ s = true := fun w h => hts0 w (List.mem_cons_of_mem _ h)
  have hS : va_S (fun q => b0 ≤ q) s.heap s.heap [] := va_S.rf
  have C : oa_Cy p l s m _ meth c cX4_peek 2 (some .int) RX4 D ca b0 ad := ⟨hx, hb, hml, hr, hlocks, hown, hts, hE, hw, hl0, hnt⟩
  have hl : lv_has ls 2 [(0, .ref (ad 0 0)), (1, .int x1)] := hl
  unfold FX4_peek at hf
  refine lv_aload_n hx hb dX4_peek_0 rfl (lv_at hl 0 rfl) ?_
  refine lv_iload_n hx hb dX4_peek_1 rfl (lv_at hl 1 rfl) ?_
  obtain ⟨cd4, M2, hc3, ha5, hb6⟩ := oa_bxE hf
  refine oa_cxv (mc := 1) (mc0 := 1) (As := [.int x1]) (rest := []) ⟨hx, hb, hml, hown, hts⟩ (cX4_requireAddress_ok l hl0 D ca ad b0 hw n x1 _ _ hc3) (cwV 1 hts (oa_gV tw_415 tw_417 tw_3 tw_44 tw_418) rfl rfl rfl (by decide +kernel) ⟨Nat.le_of_ble_eq_true rfl, Nat.le_of_ble_eq_true rfl⟩) hE hH hS (oa_recv (k := 0) (ci := 4) hE hH (by decide) rfl rfl) rfl hl.1 rfl (Nat.le_of_ble_eq_true rfl) dX4_peek_2 ⟨by decide, by decide⟩ hnt hlocks (by decide) (by decide) hb6 (fun hz7 H locs hH hS => ?_)
  have hf := ha5 hz7
  refine lv_aload_n hx hb dX4_peek_5 rfl (lv_at hl 0 rfl) ?_
  refine oa_get (ci := 4) (C := RX4) (T := TX4) (N := 9) (v := .ref (ad 3 0)) hx hb hts inX4 hown hE hH 0 0 (by decide) rfl rfl 2 (by decide) (hts _ tw_178) rfl dX4_peek_6 ?_
  refine lv_iload_n hx hb dX4_peek_9 rfl (lv_at hl 1 rfl) ?_
  obtain ⟨hk8, hf⟩ := oa_ck hf
  refine oa_ild (v := (M2 3 0 x1.toNatClampNeg)) hx hb hE hH 3 0 (by decide) 64 rfl rfl (oa_in_vp hk8) dX4_peek_10 ?_
  cases hf
  refine vx_ret (W.widen (k := 1) (n := 6 * 1) (by decide) (by decide) ?_)
  exact oa_rexi hx hb hr hlocks rfl rfl hS hH dX4_peek_11
theorem cX4_peek_ok (l : Launch) (hl0 : l.stackTraces = false) (D : va_G) (ca : Nat → ClassId) (ad : Nat → Nat → Nat) (b0 : Nat) (hw : oa_W ad b0) (n : Nat) (x1 : Int32) (M : oa_M) (o : Nat × Int32 × oa_M) (hf : FX4_peek n x1 M = some o) : oa_Xi l yX4_peek (oa_w yX4_peek cX4_peek 2 (some .int)) ({ frames := 7, cells := 1, slots := 6, locals := 104 } : Room) 1 D ca ad b0 [.ref (ad 0 0), .int x1] M o := cX4_peek_k l hl0 D ca ad b0 hw n x1 M o hf
def FX4_requireReady (n : Nat)  (M : oa_M) : Option (Nat × oa_M) := (if (M 0 0 8) = 0 then (some (2, M)) else (some (0, M)))
set_option maxHeartbeats 4000000 in
set_option maxRecDepth 100000 in
theorem cX4_requireReady_k (l : Launch) (hl0 : l.stackTraces = false) (D : va_G) (ca : Nat → ClassId) (ad : Nat → Nat → Nat) (b0 : Nat) (hw : oa_W ad b0) (n : Nat)  (M : oa_M) (o : Nat × oa_M) (hf : FX4_requireReady n  M = some o) : oa_Xv l yX4_requireReady (oa_w yX4_requireReady cX4_requireReady 1 none) ({ frames := 6, cells := 1, slots := 6, locals := 83 } : Room) 1 D ca ad b0 [.ref (ad 0 0)] M o := by
  refine oa_ofX (cc := cX4_requireReady) (maxL := 1) (ret := none) (by decide) rfl (Nat.le_of_ble_eq_true rfl) ?_
  intro p e s m below meth c hx hb hml hr hlocks hown hts0 hnt hP ls hl
  obtain ⟨hH, hE⟩ := hP
  have hts : ∀ w ∈ oa_T, w.before _ s = true := fun w h => hts0 w (List.mem_cons_of_mem _ h)
  have hS : va_S (fun q => b0 ≤ q) s.heap s.heap [] := va_S.rf
  have C : oa_Cy p l s m _ meth c cX4_requireReady 1 (none) RX4 D ca b0 ad := ⟨hx, hb, hml, hr, hlocks, hown, hts, hE, hw, hl0, hnt⟩
  have hl : lv_has ls 1 [(0, .ref (ad 0 0))] := hl
  unfold FX4_requireReady at hf
  refine lv_aload_n hx hb dX4_requireReady_0 rfl (lv_at hl 0 rfl) ?_
  refine oa_get (ci := 4) (C := RX4) (T := TX4) (N := 9) (v := .int (M 0 0 8)) hx hb hts inX4 hown hE hH 0 0 (by decide) rfl rfl 8 (by decide) (hts _ tw_184) rfl dX4_requireReady_1 ?_
  refine lv_if_ne (tgt := 17) hx hb dX4_requireReady_4 (by decide) (fun hq1 => ?_) (fun hq1 => ?_)
  · rw [if_neg hq1] at hf
    cases hf
    refine vx_ret (W.widen (k := 1) (n := 6 * 1) (by decide) (by decide) ?_)
    exact oa_rexv hx hb hr hlocks rfl hS hH dX4_requireReady_17
  · rw [if_pos hq1] at hf
    cases hf
    exact oa_thr (own := RX4) (text := "the atlas is not ready") (names := oa_nm) hx hb hl0 hown (by decide +kernel) (by decide +kernel) (hts _ tw_374) (hts _ tw_54) (hE.2.2.2.2.1 ("OpcodeAtlas", 189, "the atlas is not ready") (by decide +kernel)) (oa_at69 hts hE) (by decide +kernel) hE hS hH (hl.1.trans hml.symm) dX4_requireReady_7 dX4_requireReady_10 dX4_requireReady_11 dX4_requireReady_13 dX4_requireReady_16 hnt (by decide) (by decide) (by decide) (by decide) hlocks ⟨Nat.succ_ne_zero _, rfl⟩ rfl (by decide) (by decide)
theorem cX4_requireReady_ok (l : Launch) (hl0 : l.stackTraces = false) (D : va_G) (ca : Nat → ClassId) (ad : Nat → Nat → Nat) (b0 : Nat) (hw : oa_W ad b0) (n : Nat)  (M : oa_M) (o : Nat × oa_M) (hf : FX4_requireReady n  M = some o) : oa_Xv l yX4_requireReady (oa_w yX4_requireReady cX4_requireReady 1 none) ({ frames := 6, cells := 1, slots := 6, locals := 83 } : Room) 1 D ca ad b0 [.ref (ad 0 0)] M o := cX4_requireReady_k l hl0 D ca ad b0 hw n  M o hf
def BX4_wordAt_41 (rec4 : Int32 → Int32 → Int32 → oa_M → Option (Int32 × oa_M)) (n : Nat) (x1 : Int32) (x2 : Int32) (x3 : Int32) (x4 : Int32) (z0 : Int32) (z1 : Int32) (M : oa_M) : Option (Int32 × oa_M) := (rec4 x1 (z0 ||| z1) (x3 + (1 : Int32)) M)
def BX4_wordAt_40 (rec4 : Int32 → Int32 → Int32 → oa_M → Option (Int32 × oa_M)) (n : Nat) (x1 : Int32) (x2 : Int32) (x3 : Int32) (x4 : Int32) (z0 : Int32) (M : oa_M) : Option (Int32 × oa_M) := (BX4_wordAt_41 rec4 n x1 x2 x3 x4 z0 (0 : Int32) M)
def BX4_wordAt_4 : Nat → Int32 → Int32 → Int32 → oa_M → Option (Int32 × oa_M)
  | 0, _, _, _, _ => none
  | n + 1, x1, x2, x3, M => (if (3 : Int32) ≤ x3 then (some (x2, M)) else (if (x1 + x3) < 0 then (BX4_wordAt_40 (BX4_wordAt_4 n) n x1 x2 x3 (x1 + x3) (x2 <<< ((8 : Int32) &&& 31)) M) else (if (64 : Int32) ≤ (x1 + x3) then (BX4_wordAt_40 (BX4_wordAt_4 n) n x1 x2 x3 (x1 + x3) (x2 <<< ((8 : Int32) &&& 31)) M) else (if oa_in (x1 + x3) 64 = true then (BX4_wordAt_41 (BX4_wordAt_4 n) n x1 x2 x3 (x1 + x3) (x2 <<< ((8 : Int32) &&& 31)) (M 3 0 (x1 + x3).toNatClampNeg) M) else none))))
def FX4_wordAt (n : Nat) (x1 : Int32) (M : oa_M) : Option (Int32 × oa_M) := (BX4_wordAt_4 n x1 (0 : Int32) (0 : Int32) M)
set_option maxHeartbeats 4000000 in
set_option maxRecDepth 100000 in
theorem bX4_wordAt_41 {p : Program} {l : Launch} {e : Env} {s : State} {m : MethodId} {args : Array Value} {below : List Frame} {meth : Method} {c : Code} {D : va_G} {ca : Nat → ClassId} {ad : Nat → Nat → Nat} {b0 : Nat} {o : Int32 × oa_M} (C : oa_Cx p s m args meth c cX4_wordAt 5 (some .int) RX4 D ca b0 ad) (rec4 : Int32 → Int32 → Int32 → oa_M → Option (Int32 × oa_M)) (hrec4 : ∀ (x1 : Int32) (x2 : Int32) (x3 : Int32) (M : oa_M), rec4 x1 x2 x3 M = some o → ∀ (H : Heap) (locs : List Loc), oa_H D ca ad M H → va_S (fun q => b0 ≤ q) s.heap H locs → ∀ (ls : Array Slot), lv_has ls 5 [(0, .ref (ad 0 0)), (1, .int x1), (2, .int x2), (3, .int x3)] → W p l e ({ frames := 0, cells := 0, slots := 0, locals := 0 } : Room) s m args below meth c H locs 0 0 (MQ below (va_Qi (fun (r' : Int32) (u : oa_M) => r' = o.1 ∧ u = o.2) (fun u t => oa_H D ca ad u t.heap) (fun q => b0 ≤ q)) args s 0 0 (fun q => b0 ≤ q)) (F0 m 4 ls [])) : ∀ (n : Nat), ∀ (x1 : Int32) (x2 : Int32) (x3 : Int32) (x4 : Int32) (z0 : Int32) (z1 : Int32) (M : oa_M), BX4_wordAt_41 rec4 n x1 x2 x3 x4 z0 z1 M = some o → ∀ (H : Heap) (locs : List Loc), oa_H D ca ad M H → va_S (fun q => b0 ≤ q) s.heap H locs → ∀ (ls : Array Slot), lv_has ls 5 [(0, .ref (ad 0 0)), (1, .int x1), (2, .int x2), (3, .int x3), (4, .int x4)] → W p l e ({ frames := 0, cells := 0, slots := 0, locals := 0 } : Room) s m args below meth c H locs 0 0 (MQ below (va_Qi (fun (r' : Int32) (u : oa_M) => r' = o.1 ∧ u = o.2) (fun u t => oa_H D ca ad u t.heap) (fun q => b0 ≤ q)) args s 0 0 (fun q => b0 ≤ q)) (F0 m 41 ls [.int z1, .int z0]) := by
  obtain ⟨hx, hb, hml, hr, hlocks, hown, hts, hE, hw⟩ := id C
  intro n x1 x2 x3 x4 z0 z1 M hf H locs hH hS ls hl
  unfold BX4_wordAt_41 at hf
  refine lv_ior hx hb dX4_wordAt_41 ?_
  refine lv_istore_n (lv' := [(2, .int (z0 ||| z1)), (0, .ref (ad 0 0)), (1, .int x1), (3, .int x3), (4, .int x4)]) hx hb dX4_wordAt_42 rfl hl (by decide) rfl (fun ls hl => ?_)
  refine lv_iinc (v := (x3 + (1 : Int32))) (lv' := [(3, .int (x3 + (1 : Int32))), (2, .int (z0 ||| z1)), (0, .ref (ad 0 0)), (1, .int x1), (4, .int x4)]) hx hb dX4_wordAt_43 hl (k := 3) rfl rfl (by decide) rfl (fun ls hl => ?_)
  refine lv_goto (tgt := 4) hx hb dX4_wordAt_46 (by decide) ?_
  exact hrec4 x1 (z0 ||| z1) (x3 + (1 : Int32)) _ hf _ _ hH hS _ (lv_sub hl [2, 3, 1, 0] rfl)
set_option maxHeartbeats 4000000 in
set_option maxRecDepth 100000 in
theorem bX4_wordAt_40 {p : Program} {l : Launch} {e : Env} {s : State} {m : MethodId} {args : Array Value} {below : List Frame} {meth : Method} {c : Code} {D : va_G} {ca : Nat → ClassId} {ad : Nat → Nat → Nat} {b0 : Nat} {o : Int32 × oa_M} (C : oa_Cx p s m args meth c cX4_wordAt 5 (some .int) RX4 D ca b0 ad) (rec4 : Int32 → Int32 → Int32 → oa_M → Option (Int32 × oa_M)) (hrec4 : ∀ (x1 : Int32) (x2 : Int32) (x3 : Int32) (M : oa_M), rec4 x1 x2 x3 M = some o → ∀ (H : Heap) (locs : List Loc), oa_H D ca ad M H → va_S (fun q => b0 ≤ q) s.heap H locs → ∀ (ls : Array Slot), lv_has ls 5 [(0, .ref (ad 0 0)), (1, .int x1), (2, .int x2), (3, .int x3)] → W p l e ({ frames := 0, cells := 0, slots := 0, locals := 0 } : Room) s m args below meth c H locs 0 0 (MQ below (va_Qi (fun (r' : Int32) (u : oa_M) => r' = o.1 ∧ u = o.2) (fun u t => oa_H D ca ad u t.heap) (fun q => b0 ≤ q)) args s 0 0 (fun q => b0 ≤ q)) (F0 m 4 ls [])) : ∀ (n : Nat), ∀ (x1 : Int32) (x2 : Int32) (x3 : Int32) (x4 : Int32) (z0 : Int32) (M : oa_M), BX4_wordAt_40 rec4 n x1 x2 x3 x4 z0 M = some o → ∀ (H : Heap) (locs : List Loc), oa_H D ca ad M H → va_S (fun q => b0 ≤ q) s.heap H locs → ∀ (ls : Array Slot), lv_has ls 5 [(0, .ref (ad 0 0)), (1, .int x1), (2, .int x2), (3, .int x3), (4, .int x4)] → W p l e ({ frames := 0, cells := 0, slots := 0, locals := 0 } : Room) s m args below meth c H locs 0 0 (MQ below (va_Qi (fun (r' : Int32) (u : oa_M) => r' = o.1 ∧ u = o.2) (fun u t => oa_H D ca ad u t.heap) (fun q => b0 ≤ q)) args s 0 0 (fun q => b0 ≤ q)) (F0 m 40 ls [.int z0]) := by
  obtain ⟨hx, hb, hml, hr, hlocks, hown, hts, hE, hw⟩ := id C
  intro n x1 x2 x3 x4 z0 M hf H locs hH hS ls hl
  unfold BX4_wordAt_40 at hf
  refine lv_iconst (v := (0 : Int32)) hx hb dX4_wordAt_40 (by decide) ?_
  exact bX4_wordAt_41 C _ hrec4 n x1 x2 x3 x4 z0 (0 : Int32) _ hf _ _ hH hS _ (lv_sub hl [0, 1, 2, 3, 4] rfl)
set_option maxHeartbeats 4000000 in
set_option maxRecDepth 100000 in
theorem bX4_wordAt_4 {p : Program} {l : Launch} {e : Env} {s : State} {m : MethodId} {args : Array Value} {below : List Frame} {meth : Method} {c : Code} {D : va_G} {ca : Nat → ClassId} {ad : Nat → Nat → Nat} {b0 : Nat} {o : Int32 × oa_M} (C : oa_Cx p s m args meth c cX4_wordAt 5 (some .int) RX4 D ca b0 ad) : ∀ (n : Nat), ∀ (x1 : Int32) (x2 : Int32) (x3 : Int32) (M : oa_M), BX4_wordAt_4 n x1 x2 x3 M = some o → ∀ (H : Heap) (locs : List Loc), oa_H D ca ad M H → va_S (fun q => b0 ≤ q) s.heap H locs → ∀ (ls : Array Slot), lv_has ls 5 [(0, .ref (ad 0 0)), (1, .int x1), (2, .int x2), (3, .int x3)] → W p l e ({ frames := 0, cells := 0, slots := 0, locals := 0 } : Room) s m args below meth c H locs 0 0 (MQ below (va_Qi (fun (r' : Int32) (u : oa_M) => r' = o.1 ∧ u = o.2) (fun u t => oa_H D ca ad u t.heap) (fun q => b0 ≤ q)) args s 0 0 (fun q => b0 ≤ q)) (F0 m 4 ls []) := by
  obtain ⟨hx, hb, hml, hr, hlocks, hown, hts, hE, hw⟩ := id C
  intro n
  induction n with
  | zero => intro x1 x2 x3 M hf; cases hf
  | succ n ih =>
    intro x1 x2 x3 M hf H locs hH hS ls hl
    have hrec4 := ih
    unfold BX4_wordAt_4 at hf
    refine lv_iload_n hx hb dX4_wordAt_4 rfl (lv_at hl 3 rfl) ?_
    refine lv_iconst (v := (3 : Int32)) hx hb dX4_wordAt_5 (by decide) ?_
    refine lv_icmp_ge (tgt := 49) hx hb dX4_wordAt_6 (by decide) (fun hq1 => ?_) (fun hq1 => ?_)
    · rw [if_pos hq1] at hf
      refine lv_iload_n hx hb dX4_wordAt_49 rfl (lv_at hl 2 rfl) ?_
      cases hf
      exact oa_reti hx hb hr hlocks rfl hS hH dX4_wordAt_50
    · rw [if_neg hq1] at hf
      refine lv_iload_n hx hb dX4_wordAt_9 rfl (lv_at hl 1 rfl) ?_
      refine lv_iload_n hx hb dX4_wordAt_10 rfl (lv_at hl 3 rfl) ?_
      refine lv_iadd hx hb dX4_wordAt_11 ?_
      refine lv_istore (lv' := [(4, .int (x1 + x3)), (0, .ref (ad 0 0)), (1, .int x1), (2, .int x2), (3, .int x3)]) hx hb dX4_wordAt_12 hl (by decide) rfl (fun ls hl => ?_)
      refine lv_iload_n hx hb dX4_wordAt_14 rfl (lv_at hl 3 rfl) ?_
      refine lv_bipush (v := (8 : Int32)) hx hb dX4_wordAt_15 (by decide) ?_
      refine lv_ishl hx hb dX4_wordAt_17 ?_
      refine lv_iload hx hb dX4_wordAt_18 (lv_at hl 0 rfl) ?_
      refine lv_if_lt (tgt := 40) hx hb dX4_wordAt_20 (by decide) (fun hq2 => ?_) (fun hq2 => ?_)
      · rw [if_pos hq2] at hf
        exact bX4_wordAt_40 C _ hrec4 n x1 x2 x3 (x1 + x3) (x2 <<< ((8 : Int32) &&& 31)) _ hf _ _ hH hS _ (lv_sub hl [1, 2, 3, 4, 0] rfl)
      · rw [if_neg hq2] at hf
        refine lv_iload hx hb dX4_wordAt_23 (lv_at hl 0 rfl) ?_
        refine lv_bipush (v := (64 : Int32)) hx hb dX4_wordAt_25 (by decide) ?_
        refine lv_icmp_ge (tgt := 40) hx hb dX4_wordAt_27 (by decide) (fun hq3 => ?_) (fun hq3 => ?_)
        · rw [if_pos hq3] at hf
          exact bX4_wordAt_40 C _ hrec4 n x1 x2 x3 (x1 + x3) (x2 <<< ((8 : Int32) &&& 31)) _ hf _ _ hH hS _ (lv_sub hl [1, 2, 3, 4, 0] rfl)
        · rw [if_neg hq3] at hf
          refine lv_aload_n hx hb dX4_wordAt_30 rfl (lv_at hl 1 rfl) ?_
          refine oa_get (ci := 4) (C := RX4) (T := TX4) (N := 9) (v := .ref (ad 3 0)) hx hb hts inX4 hown hE hH 0 0 (by decide) rfl rfl 2 (by decide) (hts _ tw_178) rfl dX4_wordAt_31 ?_
          refine lv_iload hx hb dX4_wordAt_34 (lv_at hl 0 rfl) ?_
          obtain ⟨hk4, hf⟩ := oa_ck hf
          refine oa_ild (v := (M 3 0 (x1 + x3).toNatClampNeg)) hx hb hE hH 3 0 (by decide) 64 rfl rfl (oa_in_vp hk4) dX4_wordAt_36 ?_
          refine lv_goto (tgt := 41) hx hb dX4_wordAt_37 (by decide) ?_
          exact bX4_wordAt_41 C _ hrec4 n x1 x2 x3 (x1 + x3) (x2 <<< ((8 : Int32) &&& 31)) (M 3 0 (x1 + x3).toNatClampNeg) _ hf _ _ hH hS _ (lv_sub hl [1, 2, 3, 4, 0] rfl)
set_option maxHeartbeats 4000000 in
set_option maxRecDepth 100000 in
theorem cX4_wordAt_k (l : Launch) (D : va_G) (ca : Nat → ClassId) (ad : Nat → Nat → Nat) (b0 : Nat) (hw : oa_W ad b0) (n : Nat) (x1 : Int32) (M : oa_M) (o : Int32 × oa_M) (hf : FX4_wordAt n x1 M = some o) : oa_Mi l yX4_wordAt (oa_w yX4_wordAt cX4_wordAt 5 (some .int)) ({ frames := 0, cells := 0, slots := 0, locals := 0 } : Room) D ca ad b0 [.ref (ad 0 0), .int x1] M o.1 o.2 := by
  refine oa_ofW (cc := cX4_wordAt) (maxL := 5) (ret := some .int) (by decide) rfl (Nat.le_of_ble_eq_true rfl) ?_
  intro p e s m below meth c hx hb hml hr hlocks hown hts0 hP ls hl
  obtain ⟨hH, hE⟩ := hP
  have hts : ∀ w ∈ oa_T, w.before _ s = true := fun w h => hts0 w (List.mem_cons_of_mem _ h)
  have hS : va_S (fun q => b0 ≤ q) s.heap s.heap [] := va_S.rf
  have C : oa_Cx p s m _ meth c cX4_wordAt 5 (some .int) RX4 D ca b0 ad := ⟨hx, hb, hml, hr, hlocks, hown, hts, hE, hw⟩
  have hl : lv_has ls 5 [(0, .ref (ad 0 0)), (1, .int x1)] := hl
  unfold FX4_wordAt at hf
  refine lv_iconst (v := (0 : Int32)) hx hb dX4_wordAt_0 (by decide) ?_
  refine lv_istore_n (lv' := [(2, .int (0 : Int32)), (0, .ref (ad 0 0)), (1, .int x1)]) hx hb dX4_wordAt_1 rfl hl (by decide) rfl (fun ls hl => ?_)
  refine lv_iconst (v := (0 : Int32)) hx hb dX4_wordAt_2 (by decide) ?_
  refine lv_istore_n (lv' := [(3, .int (0 : Int32)), (2, .int (0 : Int32)), (0, .ref (ad 0 0)), (1, .int x1)]) hx hb dX4_wordAt_3 rfl hl (by decide) rfl (fun ls hl => ?_)
  exact bX4_wordAt_4 C n x1 (0 : Int32) (0 : Int32) _ hf _ _ hH hS _ (lv_sub hl [2, 3, 1, 0] rfl)
theorem cX4_wordAt_ok (l : Launch) (D : va_G) (ca : Nat → ClassId) (ad : Nat → Nat → Nat) (b0 : Nat) (hw : oa_W ad b0) (n : Nat) (x1 : Int32) (M : oa_M) (r : Int32) (M' : oa_M) (hf : FX4_wordAt n x1 M = some (r, M')) : oa_Mi l yX4_wordAt (oa_w yX4_wordAt cX4_wordAt 5 (some .int)) ({ frames := 0, cells := 0, slots := 0, locals := 0 } : Room) D ca ad b0 [.ref (ad 0 0), .int x1] M r M' := cX4_wordAt_k l D ca ad b0 hw n x1 M (r, M') hf
def BX4_narrowestAt_90 (rec11 : Int32 → Int32 → Int32 → Int32 → oa_M → Option (Int32 × oa_M)) (n : Nat) (x1 : Int32) (x2 : Int32) (x3 : Int32) (x4 : Int32) (x5 : Int32) (M : oa_M) : Option (Int32 × oa_M) := (rec11 x1 x2 x3 (x4 + (1 : Int32)) M)
def BX4_narrowestAt_87 (rec11 : Int32 → Int32 → Int32 → Int32 → oa_M → Option (Int32 × oa_M)) (n : Nat) (x1 : Int32) (x2 : Int32) (x3 : Int32) (x4 : Int32) (x5 : Int32) (M : oa_M) : Option (Int32 × oa_M) := (BX4_narrowestAt_90 rec11 n x1 x2 x4 x4 x5 M)
def BX4_narrowestAt_56 (rec11 : Int32 → Int32 → Int32 → Int32 → oa_M → Option (Int32 × oa_M)) (n : Nat) (x1 : Int32) (x2 : Int32) (x3 : Int32) (x4 : Int32) (z0 : Int32) (M : oa_M) : Option (Int32 × oa_M) := (if z0 = 0 then (BX4_narrowestAt_90 rec11 n x1 x2 x3 x4 z0 M) else (if x3 = (-1 : Int32) then (BX4_narrowestAt_87 rec11 n x1 x2 x3 x4 z0 M) else (if oa_in x4 13 = true then (if oa_in x3 13 = true then (oa_bd (FX0_isNarrowerThan n x4.toNatClampNeg x3.toNatClampNeg M) (fun r5 M6 => (if r5 = 0 then (BX4_narrowestAt_90 rec11 n x1 x2 x3 x4 z0 M6) else (BX4_narrowestAt_87 rec11 n x1 x2 x3 x4 z0 M6)))) else none) else none)))
def BX4_narrowestAt_55 (rec11 : Int32 → Int32 → Int32 → Int32 → oa_M → Option (Int32 × oa_M)) (n : Nat) (x1 : Int32) (x2 : Int32) (x3 : Int32) (x4 : Int32) (M : oa_M) : Option (Int32 × oa_M) := (BX4_narrowestAt_56 rec11 n x1 x2 x3 x4 (0 : Int32) M)
def BX4_narrowestAt_11 : Nat → Int32 → Int32 → Int32 → Int32 → oa_M → Option (Int32 × oa_M)
  | 0, _, _, _, _, _ => none
  | n + 1, x1, x2, x3, x4, M => (if (M 0 0 5) ≤ x4 then (some (x3, M)) else (if oa_in x4 13 = true then (if (64 : Int32) < (x1 + (M 5 x4.toNatClampNeg 2)) then (BX4_narrowestAt_55 (BX4_narrowestAt_11 n) n x1 x2 x3 x4 M) else (if oa_in x4 13 = true then (oa_bd (FX0_agreesWith n x4.toNatClampNeg x2 M) (fun r5 M6 => (if r5 = 0 then (BX4_narrowestAt_55 (BX4_narrowestAt_11 n) n x1 x2 x3 x4 M6) else (BX4_narrowestAt_56 (BX4_narrowestAt_11 n) n x1 x2 x3 x4 (1 : Int32) M6)))) else none)) else none))
def FX4_narrowestAt (n : Nat) (x1 : Int32) (M : oa_M) : Option (Int32 × oa_M) := (oa_bd (FX4_wordAt n x1 M) (fun r1 M2 => (BX4_narrowestAt_11 n x1 r1 (-1 : Int32) (0 : Int32) M2)))
set_option maxHeartbeats 4000000 in
set_option maxRecDepth 100000 in
theorem bX4_narrowestAt_90 {p : Program} {l : Launch} {e : Env} {s : State} {m : MethodId} {args : Array Value} {below : List Frame} {meth : Method} {c : Code} {D : va_G} {ca : Nat → ClassId} {ad : Nat → Nat → Nat} {b0 : Nat} {o : Int32 × oa_M} (C : oa_Cx p s m args meth c cX4_narrowestAt 6 (some .int) RX4 D ca b0 ad) (rec11 : Int32 → Int32 → Int32 → Int32 → oa_M → Option (Int32 × oa_M)) (hrec11 : ∀ (x1 : Int32) (x2 : Int32) (x3 : Int32) (x4 : Int32) (M : oa_M), rec11 x1 x2 x3 x4 M = some o → ∀ (H : Heap) (locs : List Loc), oa_H D ca ad M H → va_S (fun q => b0 ≤ q) s.heap H locs → ∀ (ls : Array Slot), lv_has ls 6 [(0, .ref (ad 0 0)), (1, .int x1), (2, .int x2), (3, .int x3), (4, .int x4)] → W p l e ({ frames := 2, cells := 0, slots := 0, locals := 43 } : Room) s m args below meth c H locs 0 0 (MQ below (va_Qi (fun (r' : Int32) (u : oa_M) => r' = o.1 ∧ u = o.2) (fun u t => oa_H D ca ad u t.heap) (fun q => b0 ≤ q)) args s 0 0 (fun q => b0 ≤ q)) (F0 m 11 ls [])) : ∀ (n : Nat), ∀ (x1 : Int32) (x2 : Int32) (x3 : Int32) (x4 : Int32) (x5 : Int32) (M : oa_M), BX4_narrowestAt_90 rec11 n x1 x2 x3 x4 x5 M = some o → ∀ (H : Heap) (locs : List Loc), oa_H D ca ad M H → va_S (fun q => b0 ≤ q) s.heap H locs → ∀ (ls : Array Slot), lv_has ls 6 [(0, .ref (ad 0 0)), (1, .int x1), (2, .int x2), (3, .int x3), (4, .int x4), (5, .int x5)] → W p l e ({ frames := 2, cells := 0, slots := 0, locals := 43 } : Room) s m args below meth c H locs 0 0 (MQ below (va_Qi (fun (r' : Int32) (u : oa_M) => r' = o.1 ∧ u = o.2) (fun u t => oa_H D ca ad u t.heap) (fun q => b0 ≤ q)) args s 0 0 (fun q => b0 ≤ q)) (F0 m 90 ls []) := by
  obtain ⟨hx, hb, hml, hr, hlocks, hown, hts, hE, hw⟩ := id C
  intro n x1 x2 x3 x4 x5 M hf H locs hH hS ls hl
  unfold BX4_narrowestAt_90 at hf
  refine lv_iinc (v := (x4 + (1 : Int32))) (lv' := [(4, .int (x4 + (1 : Int32))), (0, .ref (ad 0 0)), (1, .int x1), (2, .int x2), (3, .int x3), (5, .int x5)]) hx hb dX4_narrowestAt_90 hl (k := 4) rfl rfl (by decide) rfl (fun ls hl => ?_)
  refine lv_goto (tgt := 11) hx hb dX4_narrowestAt_93 (by decide) ?_
  exact hrec11 x1 x2 x3 (x4 + (1 : Int32)) _ hf _ _ hH hS _ (lv_sub hl [1, 2, 3, 4, 0] rfl)
set_option maxHeartbeats 4000000 in
set_option maxRecDepth 100000 in
theorem bX4_narrowestAt_87 {p : Program} {l : Launch} {e : Env} {s : State} {m : MethodId} {args : Array Value} {below : List Frame} {meth : Method} {c : Code} {D : va_G} {ca : Nat → ClassId} {ad : Nat → Nat → Nat} {b0 : Nat} {o : Int32 × oa_M} (C : oa_Cx p s m args meth c cX4_narrowestAt 6 (some .int) RX4 D ca b0 ad) (rec11 : Int32 → Int32 → Int32 → Int32 → oa_M → Option (Int32 × oa_M)) (hrec11 : ∀ (x1 : Int32) (x2 : Int32) (x3 : Int32) (x4 : Int32) (M : oa_M), rec11 x1 x2 x3 x4 M = some o → ∀ (H : Heap) (locs : List Loc), oa_H D ca ad M H → va_S (fun q => b0 ≤ q) s.heap H locs → ∀ (ls : Array Slot), lv_has ls 6 [(0, .ref (ad 0 0)), (1, .int x1), (2, .int x2), (3, .int x3), (4, .int x4)] → W p l e ({ frames := 2, cells := 0, slots := 0, locals := 43 } : Room) s m args below meth c H locs 0 0 (MQ below (va_Qi (fun (r' : Int32) (u : oa_M) => r' = o.1 ∧ u = o.2) (fun u t => oa_H D ca ad u t.heap) (fun q => b0 ≤ q)) args s 0 0 (fun q => b0 ≤ q)) (F0 m 11 ls [])) : ∀ (n : Nat), ∀ (x1 : Int32) (x2 : Int32) (x3 : Int32) (x4 : Int32) (x5 : Int32) (M : oa_M), BX4_narrowestAt_87 rec11 n x1 x2 x3 x4 x5 M = some o → ∀ (H : Heap) (locs : List Loc), oa_H D ca ad M H → va_S (fun q => b0 ≤ q) s.heap H locs → ∀ (ls : Array Slot), lv_has ls 6 [(0, .ref (ad 0 0)), (1, .int x1), (2, .int x2), (3, .int x3), (4, .int x4), (5, .int x5)] → W p l e ({ frames := 2, cells := 0, slots := 0, locals := 43 } : Room) s m args below meth c H locs 0 0 (MQ below (va_Qi (fun (r' : Int32) (u : oa_M) => r' = o.1 ∧ u = o.2) (fun u t => oa_H D ca ad u t.heap) (fun q => b0 ≤ q)) args s 0 0 (fun q => b0 ≤ q)) (F0 m 87 ls []) := by
  obtain ⟨hx, hb, hml, hr, hlocks, hown, hts, hE, hw⟩ := id C
  intro n x1 x2 x3 x4 x5 M hf H locs hH hS ls hl
  unfold BX4_narrowestAt_87 at hf
  refine lv_iload hx hb dX4_narrowestAt_87 (lv_at hl 4 rfl) ?_
  refine lv_istore_n (lv' := [(3, .int x4), (0, .ref (ad 0 0)), (1, .int x1), (2, .int x2), (4, .int x4), (5, .int x5)]) hx hb dX4_narrowestAt_89 rfl hl (by decide) rfl (fun ls hl => ?_)
  exact bX4_narrowestAt_90 C _ hrec11 n x1 x2 x4 x4 x5 _ hf _ _ hH hS _ (lv_sub hl [1, 2, 3, 0, 4, 5] rfl)
set_option maxHeartbeats 4000000 in
set_option maxRecDepth 100000 in
theorem bX4_narrowestAt_56 {p : Program} {l : Launch} {e : Env} {s : State} {m : MethodId} {args : Array Value} {below : List Frame} {meth : Method} {c : Code} {D : va_G} {ca : Nat → ClassId} {ad : Nat → Nat → Nat} {b0 : Nat} {o : Int32 × oa_M} (C : oa_Cx p s m args meth c cX4_narrowestAt 6 (some .int) RX4 D ca b0 ad) (rec11 : Int32 → Int32 → Int32 → Int32 → oa_M → Option (Int32 × oa_M)) (hrec11 : ∀ (x1 : Int32) (x2 : Int32) (x3 : Int32) (x4 : Int32) (M : oa_M), rec11 x1 x2 x3 x4 M = some o → ∀ (H : Heap) (locs : List Loc), oa_H D ca ad M H → va_S (fun q => b0 ≤ q) s.heap H locs → ∀ (ls : Array Slot), lv_has ls 6 [(0, .ref (ad 0 0)), (1, .int x1), (2, .int x2), (3, .int x3), (4, .int x4)] → W p l e ({ frames := 2, cells := 0, slots := 0, locals := 43 } : Room) s m args below meth c H locs 0 0 (MQ below (va_Qi (fun (r' : Int32) (u : oa_M) => r' = o.1 ∧ u = o.2) (fun u t => oa_H D ca ad u t.heap) (fun q => b0 ≤ q)) args s 0 0 (fun q => b0 ≤ q)) (F0 m 11 ls [])) : ∀ (n : Nat), ∀ (x1 : Int32) (x2 : Int32) (x3 : Int32) (x4 : Int32) (z0 : Int32) (M : oa_M), BX4_narrowestAt_56 rec11 n x1 x2 x3 x4 z0 M = some o → ∀ (H : Heap) (locs : List Loc), oa_H D ca ad M H → va_S (fun q => b0 ≤ q) s.heap H locs → ∀ (ls : Array Slot), lv_has ls 6 [(0, .ref (ad 0 0)), (1, .int x1), (2, .int x2), (3, .int x3), (4, .int x4)] → W p l e ({ frames := 2, cells := 0, slots := 0, locals := 43 } : Room) s m args below meth c H locs 0 0 (MQ below (va_Qi (fun (r' : Int32) (u : oa_M) => r' = o.1 ∧ u = o.2) (fun u t => oa_H D ca ad u t.heap) (fun q => b0 ≤ q)) args s 0 0 (fun q => b0 ≤ q)) (F0 m 56 ls [.int z0]) := by
  obtain ⟨hx, hb, hml, hr, hlocks, hown, hts, hE, hw⟩ := id C
  intro n x1 x2 x3 x4 z0 M hf H locs hH hS ls hl
  unfold BX4_narrowestAt_56 at hf
  refine lv_istore (lv' := [(5, .int z0), (0, .ref (ad 0 0)), (1, .int x1), (2, .int x2), (3, .int x3), (4, .int x4)]) hx hb dX4_narrowestAt_56 hl (by decide) rfl (fun ls hl => ?_)
  refine lv_iload hx hb dX4_narrowestAt_58 (lv_at hl 0 rfl) ?_
  refine lv_if_eq (tgt := 90) hx hb dX4_narrowestAt_60 (by decide) (fun hq1 => ?_) (fun hq1 => ?_)
  · rw [if_pos hq1] at hf
    exact bX4_narrowestAt_90 C _ hrec11 n x1 x2 x3 x4 z0 _ hf _ _ hH hS _ (lv_sub hl [1, 2, 3, 4, 5, 0] rfl)
  · rw [if_neg hq1] at hf
    refine lv_iload_n hx hb dX4_narrowestAt_63 rfl (lv_at hl 4 rfl) ?_
    refine lv_iconst (v := (-1 : Int32)) hx hb dX4_narrowestAt_64 (by decide) ?_
    refine lv_icmp_eq (tgt := 87) hx hb dX4_narrowestAt_65 (by decide) (fun hq2 => ?_) (fun hq2 => ?_)
    · rw [if_pos hq2] at hf
      exact bX4_narrowestAt_87 C _ hrec11 n x1 x2 x3 x4 z0 _ hf _ _ hH hS _ (lv_sub hl [1, 2, 3, 4, 5, 0] rfl)
    · rw [if_neg hq2] at hf
      refine lv_aload_n hx hb dX4_narrowestAt_68 rfl (lv_at hl 1 rfl) ?_
      refine oa_get (ci := 4) (C := RX4) (T := TX4) (N := 9) (v := .ref (ad 4 0)) hx hb hts inX4 hown hE hH 0 0 (by decide) rfl rfl 3 (by decide) (hts _ tw_179) rfl dX4_narrowestAt_69 ?_
      refine lv_iload hx hb dX4_narrowestAt_72 (lv_at hl 5 rfl) ?_
      obtain ⟨hk3, hf⟩ := oa_ck hf
      refine oa_ald (g := fun j => ad 5 j) hx hb hE hH 4 0 (by decide) 13 3 rfl rfl (oa_in_vp hk3) dX4_narrowestAt_74 ?_
      refine lv_aload_n hx hb dX4_narrowestAt_75 rfl (lv_at hl 1 rfl) ?_
      refine oa_get (ci := 4) (C := RX4) (T := TX4) (N := 9) (v := .ref (ad 4 0)) hx hb hts inX4 hown hE hH 0 0 (by decide) rfl rfl 3 (by decide) (hts _ tw_179) rfl dX4_narrowestAt_76 ?_
      refine lv_iload_n hx hb dX4_narrowestAt_79 rfl (lv_at hl 4 rfl) ?_
      obtain ⟨hk4, hf⟩ := oa_ck hf
      refine oa_ald (g := fun j => ad 5 j) hx hb hE hH 4 0 (by decide) 13 3 rfl rfl (oa_in_vp hk4) dX4_narrowestAt_80 ?_
      obtain ⟨r5, M6, hc7, hf⟩ := oa_bdE hf
      refine oa_cvi (As := [.ref (ad 5 x3.toNatClampNeg)]) (rest := []) ⟨hx, hb, hml, hown, hts⟩ (cX0_isNarrowerThan_ok l D ca ad b0 hw n x4.toNatClampNeg (oa_lt (oa_in_vp hk3)) x3.toNatClampNeg (oa_lt (oa_in_vp hk4)) _ _ _ hc7) (cwV 1 hts (oa_gV tw_463 tw_221 tw_222 tw_46 tw_223) rfl rfl rfl (by decide +kernel) ⟨Nat.le_of_ble_eq_true rfl, Nat.le_of_ble_eq_true rfl⟩) hE hH hS (oa_recv (k := 5) (ci := 0) hE hH (oa_lt (oa_in_vp hk3)) rfl rfl) rfl hl.1 rfl (Nat.le_of_ble_eq_true rfl) dX4_narrowestAt_81 ⟨by decide, by decide⟩ (fun H locs hH hS => ?_)
      refine lv_if_eq (tgt := 90) hx hb dX4_narrowestAt_84 (by decide) (fun hq8 => ?_) (fun hq8 => ?_)
      · rw [if_pos hq8] at hf
        exact bX4_narrowestAt_90 C _ hrec11 n x1 x2 x3 x4 z0 _ hf _ _ hH hS _ (lv_sub hl [1, 2, 3, 4, 5, 0] rfl)
      · rw [if_neg hq8] at hf
        exact bX4_narrowestAt_87 C _ hrec11 n x1 x2 x3 x4 z0 _ hf _ _ hH hS _ (lv_sub hl [1, 2, 3, 4, 5, 0] rfl)
set_option maxHeartbeats 4000000 in
set_option maxRecDepth 100000 in
theorem bX4_narrowestAt_55 {p : Program} {l : Launch} {e : Env} {s : State} {m : MethodId} {args : Array Value} {below : List Frame} {meth : Method} {c : Code} {D : va_G} {ca : Nat → ClassId} {ad : Nat → Nat → Nat} {b0 : Nat} {o : Int32 × oa_M} (C : oa_Cx p s m args meth c cX4_narrowestAt 6 (some .int) RX4 D ca b0 ad) (rec11 : Int32 → Int32 → Int32 → Int32 → oa_M → Option (Int32 × oa_M)) (hrec11 : ∀ (x1 : Int32) (x2 : Int32) (x3 : Int32) (x4 : Int32) (M : oa_M), rec11 x1 x2 x3 x4 M = some o → ∀ (H : Heap) (locs : List Loc), oa_H D ca ad M H → va_S (fun q => b0 ≤ q) s.heap H locs → ∀ (ls : Array Slot), lv_has ls 6 [(0, .ref (ad 0 0)), (1, .int x1), (2, .int x2), (3, .int x3), (4, .int x4)] → W p l e ({ frames := 2, cells := 0, slots := 0, locals := 43 } : Room) s m args below meth c H locs 0 0 (MQ below (va_Qi (fun (r' : Int32) (u : oa_M) => r' = o.1 ∧ u = o.2) (fun u t => oa_H D ca ad u t.heap) (fun q => b0 ≤ q)) args s 0 0 (fun q => b0 ≤ q)) (F0 m 11 ls [])) : ∀ (n : Nat), ∀ (x1 : Int32) (x2 : Int32) (x3 : Int32) (x4 : Int32) (M : oa_M), BX4_narrowestAt_55 rec11 n x1 x2 x3 x4 M = some o → ∀ (H : Heap) (locs : List Loc), oa_H D ca ad M H → va_S (fun q => b0 ≤ q) s.heap H locs → ∀ (ls : Array Slot), lv_has ls 6 [(0, .ref (ad 0 0)), (1, .int x1), (2, .int x2), (3, .int x3), (4, .int x4)] → W p l e ({ frames := 2, cells := 0, slots := 0, locals := 43 } : Room) s m args below meth c H locs 0 0 (MQ below (va_Qi (fun (r' : Int32) (u : oa_M) => r' = o.1 ∧ u = o.2) (fun u t => oa_H D ca ad u t.heap) (fun q => b0 ≤ q)) args s 0 0 (fun q => b0 ≤ q)) (F0 m 55 ls []) := by
  obtain ⟨hx, hb, hml, hr, hlocks, hown, hts, hE, hw⟩ := id C
  intro n x1 x2 x3 x4 M hf H locs hH hS ls hl
  unfold BX4_narrowestAt_55 at hf
  refine lv_iconst (v := (0 : Int32)) hx hb dX4_narrowestAt_55 (by decide) ?_
  exact bX4_narrowestAt_56 C _ hrec11 n x1 x2 x3 x4 (0 : Int32) _ hf _ _ hH hS _ (lv_sub hl [0, 1, 2, 3, 4] rfl)
set_option maxHeartbeats 4000000 in
set_option maxRecDepth 100000 in
theorem bX4_narrowestAt_11 {p : Program} {l : Launch} {e : Env} {s : State} {m : MethodId} {args : Array Value} {below : List Frame} {meth : Method} {c : Code} {D : va_G} {ca : Nat → ClassId} {ad : Nat → Nat → Nat} {b0 : Nat} {o : Int32 × oa_M} (C : oa_Cx p s m args meth c cX4_narrowestAt 6 (some .int) RX4 D ca b0 ad) : ∀ (n : Nat), ∀ (x1 : Int32) (x2 : Int32) (x3 : Int32) (x4 : Int32) (M : oa_M), BX4_narrowestAt_11 n x1 x2 x3 x4 M = some o → ∀ (H : Heap) (locs : List Loc), oa_H D ca ad M H → va_S (fun q => b0 ≤ q) s.heap H locs → ∀ (ls : Array Slot), lv_has ls 6 [(0, .ref (ad 0 0)), (1, .int x1), (2, .int x2), (3, .int x3), (4, .int x4)] → W p l e ({ frames := 2, cells := 0, slots := 0, locals := 43 } : Room) s m args below meth c H locs 0 0 (MQ below (va_Qi (fun (r' : Int32) (u : oa_M) => r' = o.1 ∧ u = o.2) (fun u t => oa_H D ca ad u t.heap) (fun q => b0 ≤ q)) args s 0 0 (fun q => b0 ≤ q)) (F0 m 11 ls []) := by
  obtain ⟨hx, hb, hml, hr, hlocks, hown, hts, hE, hw⟩ := id C
  intro n
  induction n with
  | zero => intro x1 x2 x3 x4 M hf; cases hf
  | succ n ih =>
    intro x1 x2 x3 x4 M hf H locs hH hS ls hl
    have hrec11 := ih
    unfold BX4_narrowestAt_11 at hf
    refine lv_iload hx hb dX4_narrowestAt_11 (lv_at hl 4 rfl) ?_
    refine lv_aload_n hx hb dX4_narrowestAt_13 rfl (lv_at hl 0 rfl) ?_
    refine oa_get (ci := 4) (C := RX4) (T := TX4) (N := 9) (v := .int (M 0 0 5)) hx hb hts inX4 hown hE hH 0 0 (by decide) rfl rfl 5 (by decide) (hts _ tw_181) rfl dX4_narrowestAt_14 ?_
    refine lv_icmp_ge (tgt := 96) hx hb dX4_narrowestAt_17 (by decide) (fun hq1 => ?_) (fun hq1 => ?_)
    · rw [if_pos hq1] at hf
      refine lv_iload_n hx hb dX4_narrowestAt_96 rfl (lv_at hl 3 rfl) ?_
      cases hf
      exact oa_reti hx hb hr hlocks rfl hS hH dX4_narrowestAt_97
    · rw [if_neg hq1] at hf
      refine lv_iload_n hx hb dX4_narrowestAt_20 rfl (lv_at hl 1 rfl) ?_
      refine lv_aload_n hx hb dX4_narrowestAt_21 rfl (lv_at hl 0 rfl) ?_
      refine oa_get (ci := 4) (C := RX4) (T := TX4) (N := 9) (v := .ref (ad 4 0)) hx hb hts inX4 hown hE hH 0 0 (by decide) rfl rfl 3 (by decide) (hts _ tw_179) rfl dX4_narrowestAt_22 ?_
      refine lv_iload hx hb dX4_narrowestAt_25 (lv_at hl 4 rfl) ?_
      obtain ⟨hk2, hf⟩ := oa_ck hf
      refine oa_ald (g := fun j => ad 5 j) hx hb hE hH 4 0 (by decide) 13 3 rfl rfl (oa_in_vp hk2) dX4_narrowestAt_27 ?_
      refine oa_get (ci := 0) (C := RX0) (T := TX0) (N := 6) (v := .int (M 5 x4.toNatClampNeg 2)) hx hb hts inX0 hown hE hH 5 x4.toNatClampNeg (oa_lt (oa_in_vp hk2)) rfl rfl 2 (by decide) (hts _ tw_126) rfl dX4_narrowestAt_28 ?_
      refine lv_iadd hx hb dX4_narrowestAt_31 ?_
      refine lv_bipush (v := (64 : Int32)) hx hb dX4_narrowestAt_32 (by decide) ?_
      refine lv_icmp_gt (tgt := 55) hx hb dX4_narrowestAt_34 (by decide) (fun hq3 => ?_) (fun hq3 => ?_)
      · rw [if_pos hq3] at hf
        exact bX4_narrowestAt_55 C _ hrec11 n x1 x2 x3 x4 _ hf _ _ hH hS _ (lv_sub hl [0, 1, 2, 3, 4] rfl)
      · rw [if_neg hq3] at hf
        refine lv_aload_n hx hb dX4_narrowestAt_37 rfl (lv_at hl 0 rfl) ?_
        refine oa_get (ci := 4) (C := RX4) (T := TX4) (N := 9) (v := .ref (ad 4 0)) hx hb hts inX4 hown hE hH 0 0 (by decide) rfl rfl 3 (by decide) (hts _ tw_179) rfl dX4_narrowestAt_38 ?_
        refine lv_iload hx hb dX4_narrowestAt_41 (lv_at hl 4 rfl) ?_
        obtain ⟨hk4, hf⟩ := oa_ck hf
        refine oa_ald (g := fun j => ad 5 j) hx hb hE hH 4 0 (by decide) 13 3 rfl rfl (oa_in_vp hk4) dX4_narrowestAt_43 ?_
        refine lv_iload_n hx hb dX4_narrowestAt_44 rfl (lv_at hl 2 rfl) ?_
        obtain ⟨r5, M6, hc7, hf⟩ := oa_bdE hf
        refine oa_cvi (As := [.int x2]) (rest := []) ⟨hx, hb, hml, hown, hts⟩ (cX0_agreesWith_ok l D ca ad b0 hw n x4.toNatClampNeg (oa_lt (oa_in_vp hk4)) x2 _ _ _ hc7) (cwV 1 hts (oa_gV tw_462 tw_225 tw_226 tw_46 tw_227) rfl rfl rfl (by decide +kernel) ⟨Nat.le_of_ble_eq_true rfl, Nat.le_of_ble_eq_true rfl⟩) hE hH hS (oa_recv (k := 5) (ci := 0) hE hH (oa_lt (oa_in_vp hk4)) rfl rfl) rfl hl.1 rfl (Nat.le_of_ble_eq_true rfl) dX4_narrowestAt_45 ⟨by decide, by decide⟩ (fun H locs hH hS => ?_)
        refine lv_if_eq (tgt := 55) hx hb dX4_narrowestAt_48 (by decide) (fun hq8 => ?_) (fun hq8 => ?_)
        · rw [if_pos hq8] at hf
          exact bX4_narrowestAt_55 C _ hrec11 n x1 x2 x3 x4 _ hf _ _ hH hS _ (lv_sub hl [0, 1, 2, 3, 4] rfl)
        · rw [if_neg hq8] at hf
          refine lv_iconst (v := (1 : Int32)) hx hb dX4_narrowestAt_51 (by decide) ?_
          refine lv_goto (tgt := 56) hx hb dX4_narrowestAt_52 (by decide) ?_
          exact bX4_narrowestAt_56 C _ hrec11 n x1 x2 x3 x4 (1 : Int32) _ hf _ _ hH hS _ (lv_sub hl [0, 1, 2, 3, 4] rfl)
set_option maxHeartbeats 4000000 in
set_option maxRecDepth 100000 in
theorem cX4_narrowestAt_k (l : Launch) (D : va_G) (ca : Nat → ClassId) (ad : Nat → Nat → Nat) (b0 : Nat) (hw : oa_W ad b0) (n : Nat) (x1 : Int32) (M : oa_M) (o : Int32 × oa_M) (hf : FX4_narrowestAt n x1 M = some o) : oa_Mi l yX4_narrowestAt (oa_w yX4_narrowestAt cX4_narrowestAt 6 (some .int)) ({ frames := 2, cells := 0, slots := 0, locals := 43 } : Room) D ca ad b0 [.ref (ad 0 0), .int x1] M o.1 o.2 := by
  refine oa_ofW (cc := cX4_narrowestAt) (maxL := 6) (ret := some .int) (by decide) rfl (Nat.le_of_ble_eq_true rfl) ?_
  intro p e s m below meth c hx hb hml hr hlocks hown hts0 hP ls hl
  obtain ⟨hH, hE⟩ := hP
  have hts : ∀ w ∈ oa_T, w.before _ s = true := fun w h => hts0 w (List.mem_cons_of_mem _ h)
  have hS : va_S (fun q => b0 ≤ q) s.heap s.heap [] := va_S.rf
  have C : oa_Cx p s m _ meth c cX4_narrowestAt 6 (some .int) RX4 D ca b0 ad := ⟨hx, hb, hml, hr, hlocks, hown, hts, hE, hw⟩
  have hl : lv_has ls 6 [(0, .ref (ad 0 0)), (1, .int x1)] := hl
  unfold FX4_narrowestAt at hf
  refine lv_aload_n hx hb dX4_narrowestAt_0 rfl (lv_at hl 0 rfl) ?_
  refine lv_iload_n hx hb dX4_narrowestAt_1 rfl (lv_at hl 1 rfl) ?_
  obtain ⟨r1, M2, hc3, hf⟩ := oa_bdE hf
  refine oa_cvi (As := [.int x1]) (rest := []) ⟨hx, hb, hml, hown, hts⟩ (cX4_wordAt_ok l D ca ad b0 hw n x1 _ _ _ hc3) (cwV 1 hts (oa_gV tw_458 tw_460 tw_6 tw_44 tw_461) rfl rfl rfl (by decide +kernel) ⟨Nat.le_of_ble_eq_true rfl, Nat.le_of_ble_eq_true rfl⟩) hE hH hS (oa_recv (k := 0) (ci := 4) hE hH (by decide) rfl rfl) rfl hl.1 rfl (Nat.le_of_ble_eq_true rfl) dX4_narrowestAt_2 ⟨by decide, by decide⟩ (fun H locs hH hS => ?_)
  refine lv_istore_n (lv' := [(2, .int r1), (0, .ref (ad 0 0)), (1, .int x1)]) hx hb dX4_narrowestAt_5 rfl hl (by decide) rfl (fun ls hl => ?_)
  refine lv_iconst (v := (-1 : Int32)) hx hb dX4_narrowestAt_6 (by decide) ?_
  refine lv_istore_n (lv' := [(3, .int (-1 : Int32)), (2, .int r1), (0, .ref (ad 0 0)), (1, .int x1)]) hx hb dX4_narrowestAt_7 rfl hl (by decide) rfl (fun ls hl => ?_)
  refine lv_iconst (v := (0 : Int32)) hx hb dX4_narrowestAt_8 (by decide) ?_
  refine lv_istore (lv' := [(4, .int (0 : Int32)), (3, .int (-1 : Int32)), (2, .int r1), (0, .ref (ad 0 0)), (1, .int x1)]) hx hb dX4_narrowestAt_9 hl (by decide) rfl (fun ls hl => ?_)
  exact bX4_narrowestAt_11 C n x1 r1 (-1 : Int32) (0 : Int32) _ hf _ _ hH hS _ (lv_sub hl [3, 4, 2, 1, 0] rfl)
theorem cX4_narrowestAt_ok (l : Launch) (D : va_G) (ca : Nat → ClassId) (ad : Nat → Nat → Nat) (b0 : Nat) (hw : oa_W ad b0) (n : Nat) (x1 : Int32) (M : oa_M) (r : Int32) (M' : oa_M) (hf : FX4_narrowestAt n x1 M = some (r, M')) : oa_Mi l yX4_narrowestAt (oa_w yX4_narrowestAt cX4_narrowestAt 6 (some .int)) ({ frames := 2, cells := 0, slots := 0, locals := 43 } : Room) D ca ad b0 [.ref (ad 0 0), .int x1] M r M' := cX4_narrowestAt_k l D ca ad b0 hw n x1 M (r, M') hf
def FX4_decode (n : Nat) (x1 : Int32) (M : oa_M) : Option (Nat × Int32 × oa_M) := (oa_bx (FX4_requireReady n  M) (fun M2 => (oa_bx (FX4_requireAddress n x1 M2) (fun M9 => (oa_bd (FX4_narrowestAt n x1 M9) (fun r15 M16 => (some (0, r15, M16))))))))
set_option maxHeartbeats 4000000 in
set_option maxRecDepth 100000 in
theorem cX4_decode_k (l : Launch) (hl0 : l.stackTraces = false) (D : va_G) (ca : Nat → ClassId) (ad : Nat → Nat → Nat) (b0 : Nat) (hw : oa_W ad b0) (n : Nat) (x1 : Int32) (M : oa_M) (o : Nat × Int32 × oa_M) (hf : FX4_decode n x1 M = some o) : oa_Xi l yX4_decode (oa_w yX4_decode cX4_decode 2 (some .int)) ({ frames := 7, cells := 2, slots := 12, locals := 104 } : Room) 2 D ca ad b0 [.ref (ad 0 0), .int x1] M o := by
  refine oa_ofX (cc := cX4_decode) (maxL := 2) (ret := some .int) (by decide) rfl (Nat.le_of_ble_eq_true rfl) ?_
  intro p e s m below meth c hx hb hml hr hlocks hown hts0 hnt hP ls hl
  obtain ⟨hH, hE⟩ := hP
  have hts : ∀ w ∈ oa_T, w.before _ s = true := fun w h => hts0 w (List.mem_cons_of_mem _ h)
  have hS : va_S (fun q => b0 ≤ q) s.heap s.heap [] := va_S.rf
  have C : oa_Cy p l s m _ meth c cX4_decode 2 (some .int) RX4 D ca b0 ad := ⟨hx, hb, hml, hr, hlocks, hown, hts, hE, hw, hl0, hnt⟩
  have hl : lv_has ls 2 [(0, .ref (ad 0 0)), (1, .int x1)] := hl
  unfold FX4_decode at hf
  refine lv_aload_n hx hb dX4_decode_0 rfl (lv_at hl 0 rfl) ?_
  obtain ⟨cd4, M2, hc3, ha5, hb6⟩ := oa_bxE hf
  refine oa_cxv (mc := 2) (mc0 := 1) (As := []) (rest := []) ⟨hx, hb, hml, hown, hts⟩ (cX4_requireReady_ok l hl0 D ca ad b0 hw n  _ _ hc3) (cwV 0 hts (oa_gV tw_449 tw_451 tw_4 tw_44 tw_452) rfl rfl rfl (by decide +kernel) ⟨Nat.le_of_ble_eq_true rfl, Nat.le_of_ble_eq_true rfl⟩) hE hH hS (oa_recv (k := 0) (ci := 4) hE hH (by decide) rfl rfl) rfl hl.1 rfl (Nat.le_of_ble_eq_true rfl) dX4_decode_1 ⟨by decide, by decide⟩ hnt hlocks (by decide) (by decide) hb6 (fun hz7 H locs hH hS => ?_)
  have hf := ha5 hz7
  refine lv_aload_n hx hb dX4_decode_4 rfl (lv_at hl 0 rfl) ?_
  refine lv_iload_n hx hb dX4_decode_5 rfl (lv_at hl 1 rfl) ?_
  obtain ⟨cd11, M9, hc10, ha12, hb13⟩ := oa_bxE hf
  refine oa_cxv (mc := 2) (mc0 := 1) (As := [.int x1]) (rest := []) ⟨hx, hb, hml, hown, hts⟩ (cX4_requireAddress_ok l hl0 D ca ad b0 hw n x1 _ _ hc10) (cwV 1 hts (oa_gV tw_415 tw_417 tw_3 tw_44 tw_418) rfl rfl rfl (by decide +kernel) ⟨Nat.le_of_ble_eq_true rfl, Nat.le_of_ble_eq_true rfl⟩) hE hH hS (oa_recv (k := 0) (ci := 4) hE hH (by decide) rfl rfl) rfl hl.1 rfl (Nat.le_of_ble_eq_true rfl) dX4_decode_6 ⟨by decide, by decide⟩ hnt hlocks (by decide) (by decide) hb13 (fun hz14 H locs hH hS => ?_)
  have hf := ha12 hz14
  refine lv_aload_n hx hb dX4_decode_9 rfl (lv_at hl 0 rfl) ?_
  refine lv_iload_n hx hb dX4_decode_10 rfl (lv_at hl 1 rfl) ?_
  obtain ⟨r15, M16, hc17, hf⟩ := oa_bdE hf
  refine oa_cvi (As := [.int x1]) (rest := []) ⟨hx, hb, hml, hown, hts⟩ (cX4_narrowestAt_ok l D ca ad b0 hw n x1 _ _ _ hc17) (cwV 1 hts (oa_gV tw_454 tw_456 tw_5 tw_44 tw_457) rfl rfl rfl (by decide +kernel) ⟨Nat.le_of_ble_eq_true rfl, Nat.le_of_ble_eq_true rfl⟩) hE hH hS (oa_recv (k := 0) (ci := 4) hE hH (by decide) rfl rfl) rfl hl.1 rfl (Nat.le_of_ble_eq_true rfl) dX4_decode_11 ⟨by decide, by decide⟩ (fun H locs hH hS => ?_)
  cases hf
  refine vx_ret (W.widen (k := 2) (n := 6 * 2) (by decide) (by decide) ?_)
  exact oa_rexi hx hb hr hlocks rfl rfl hS hH dX4_decode_14
theorem cX4_decode_ok (l : Launch) (hl0 : l.stackTraces = false) (D : va_G) (ca : Nat → ClassId) (ad : Nat → Nat → Nat) (b0 : Nat) (hw : oa_W ad b0) (n : Nat) (x1 : Int32) (M : oa_M) (o : Nat × Int32 × oa_M) (hf : FX4_decode n x1 M = some o) : oa_Xi l yX4_decode (oa_w yX4_decode cX4_decode 2 (some .int)) ({ frames := 7, cells := 2, slots := 12, locals := 104 } : Room) 2 D ca ad b0 [.ref (ad 0 0), .int x1] M o := cX4_decode_k l hl0 D ca ad b0 hw n x1 M o hf
def FX4_operandAt (n : Nat) (x1 : Int32) (n2 : Nat) (x3 : Int32) (M : oa_M) : Option (Int32 × oa_M) := (if oa_in x3 3 = true then (oa_bd (FX4_wordAt n x1 M) (fun r2 M3 => (oa_bd (FX2_valueIn n (3 * n2 + x3.toNatClampNeg) r2 (x1 + (M3 5 n2 2)) M3) (fun r5 M6 => (some (r5, M6)))))) else none)
set_option maxHeartbeats 4000000 in
set_option maxRecDepth 100000 in
theorem cX4_operandAt_k (l : Launch) (D : va_G) (ca : Nat → ClassId) (ad : Nat → Nat → Nat) (b0 : Nat) (hw : oa_W ad b0) (n : Nat) (x1 : Int32) (n2 : Nat) (hn2 : n2 < oa_n 5) (x3 : Int32) (M : oa_M) (o : Int32 × oa_M) (hf : FX4_operandAt n x1 n2 x3 M = some o) : oa_Mi l yX4_operandAt (oa_w yX4_operandAt cX4_operandAt 4 (some .int)) ({ frames := 3, cells := 0, slots := 0, locals := 64 } : Room) D ca ad b0 [.ref (ad 0 0), .int x1, .ref (ad 5 n2), .int x3] M o.1 o.2 := by
  refine oa_ofW (cc := cX4_operandAt) (maxL := 4) (ret := some .int) (by decide) rfl (Nat.le_of_ble_eq_true rfl) ?_
  intro p e s m below meth c hx hb hml hr hlocks hown hts0 hP ls hl
  obtain ⟨hH, hE⟩ := hP
  have hts : ∀ w ∈ oa_T, w.before _ s = true := fun w h => hts0 w (List.mem_cons_of_mem _ h)
  have hS : va_S (fun q => b0 ≤ q) s.heap s.heap [] := va_S.rf
  have C : oa_Cx p s m _ meth c cX4_operandAt 4 (some .int) RX4 D ca b0 ad := ⟨hx, hb, hml, hr, hlocks, hown, hts, hE, hw⟩
  have hl : lv_has ls 4 [(0, .ref (ad 0 0)), (1, .int x1), (2, .ref (ad 5 n2)), (3, .int x3)] := hl
  unfold FX4_operandAt at hf
  refine lv_aload_n hx hb dX4_operandAt_0 rfl (lv_at hl 2 rfl) ?_
  refine oa_get (ci := 0) (C := RX0) (T := TX0) (N := 6) (v := .ref (ad 6 n2)) hx hb hts inX0 hown hE hH 5 n2 hn2 rfl rfl 0 (by decide) (hts _ tw_122) rfl dX4_operandAt_1 ?_
  refine lv_iload_n hx hb dX4_operandAt_4 rfl (lv_at hl 3 rfl) ?_
  obtain ⟨hk1, hf⟩ := oa_ck hf
  refine oa_ald (g := fun j => ad 7 (3 * n2 + j)) hx hb hE hH 6 n2 hn2 3 5 rfl rfl (oa_in_vp hk1) dX4_operandAt_5 ?_
  refine lv_aload_n hx hb dX4_operandAt_6 rfl (lv_at hl 0 rfl) ?_
  refine lv_iload_n hx hb dX4_operandAt_7 rfl (lv_at hl 1 rfl) ?_
  obtain ⟨r2, M3, hc4, hf⟩ := oa_bdE hf
  refine oa_cvi (As := [.int x1]) (rest := [.ref (ad 7 (3 * n2 + x3.toNatClampNeg))]) ⟨hx, hb, hml, hown, hts⟩ (cX4_wordAt_ok l D ca ad b0 hw n x1 _ _ _ hc4) (cwV 1 hts (oa_gV tw_458 tw_460 tw_6 tw_44 tw_461) rfl rfl rfl (by decide +kernel) ⟨Nat.le_of_ble_eq_true rfl, Nat.le_of_ble_eq_true rfl⟩) hE hH hS (oa_recv (k := 0) (ci := 4) hE hH (by decide) rfl rfl) rfl hl.1 rfl (Nat.le_of_ble_eq_true rfl) dX4_operandAt_8 ⟨by decide, by decide⟩ (fun H locs hH hS => ?_)
  refine lv_iload_n hx hb dX4_operandAt_11 rfl (lv_at hl 1 rfl) ?_
  refine lv_aload_n hx hb dX4_operandAt_12 rfl (lv_at hl 2 rfl) ?_
  refine oa_get (ci := 0) (C := RX0) (T := TX0) (N := 6) (v := .int (M3 5 n2 2)) hx hb hts inX0 hown hE hH 5 n2 hn2 rfl rfl 2 (by decide) (hts _ tw_126) rfl dX4_operandAt_13 ?_
  refine lv_iadd hx hb dX4_operandAt_16 ?_
  obtain ⟨r5, M6, hc7, hf⟩ := oa_bdE hf
  refine oa_cvi (As := [.int r2, .int (x1 + (M3 5 n2 2))]) (rest := []) ⟨hx, hb, hml, hown, hts⟩ (cX2_valueIn_ok l D ca ad b0 hw n (3 * n2 + x3.toNatClampNeg) (oa_lt7 hn2 (oa_in_vp hk1)) r2 (x1 + (M3 5 n2 2)) _ _ _ hc7) (cwV 2 hts (oa_gV tw_476 tw_477 tw_478 tw_47 tw_479) rfl rfl rfl (by decide +kernel) ⟨Nat.le_of_ble_eq_true rfl, Nat.le_of_ble_eq_true rfl⟩) hE hH hS (oa_recv (k := 7) (ci := 2) hE hH (oa_lt7 hn2 (oa_in_vp hk1)) rfl rfl) rfl hl.1 rfl (Nat.le_of_ble_eq_true rfl) dX4_operandAt_17 ⟨by decide, by decide⟩ (fun H locs hH hS => ?_)
  cases hf
  exact oa_reti hx hb hr hlocks rfl hS hH dX4_operandAt_20
theorem cX4_operandAt_ok (l : Launch) (D : va_G) (ca : Nat → ClassId) (ad : Nat → Nat → Nat) (b0 : Nat) (hw : oa_W ad b0) (n : Nat) (x1 : Int32) (n2 : Nat) (hn2 : n2 < oa_n 5) (x3 : Int32) (M : oa_M) (r : Int32) (M' : oa_M) (hf : FX4_operandAt n x1 n2 x3 M = some (r, M')) : oa_Mi l yX4_operandAt (oa_w yX4_operandAt cX4_operandAt 4 (some .int)) ({ frames := 3, cells := 0, slots := 0, locals := 64 } : Room) D ca ad b0 [.ref (ad 0 0), .int x1, .ref (ad 5 n2), .int x3] M r M' := cX4_operandAt_k l D ca ad b0 hw n x1 n2 hn2 x3 M (r, M') hf
def BX4_value_47 (n : Nat) (x1 : Int32) (x2 : Int32) (x3 : Int32) (M : oa_M) : Option (Nat × Int32 × oa_M) := (some (3, 0, M))
def FX4_value (n : Nat) (x1 : Int32) (x2 : Int32) (M : oa_M) : Option (Nat × Int32 × oa_M) := (oa_bx (FX4_requireReady n  M) (fun M2 => (oa_bx (FX4_requireAddress n x1 M2) (fun M9 => (oa_bd (FX4_narrowestAt n x1 M9) (fun r15 M16 => (if r15 = (-1 : Int32) then (some (3, 0, M16)) else (if x2 < 0 then (BX4_value_47 n x1 x2 r15 M16) else (if oa_in r15 13 = true then (if x2 < (M16 5 r15.toNatClampNeg 5) then (if oa_in r15 13 = true then (oa_bd (FX4_operandAt n x1 r15.toNatClampNeg x2 M16) (fun r23 M24 => (some (0, r23, M24)))) else none) else (BX4_value_47 n x1 x2 r15 M16)) else none)))))))))
set_option maxHeartbeats 4000000 in
set_option maxRecDepth 100000 in
theorem bX4_value_47 {p : Program} {l : Launch} {e : Env} {s : State} {m : MethodId} {args : Array Value} {below : List Frame} {meth : Method} {c : Code} {D : va_G} {ca : Nat → ClassId} {ad : Nat → Nat → Nat} {b0 : Nat} {o : Nat × Int32 × oa_M} (C : oa_Cy p l s m args meth c cX4_value 4 (some .int) RX4 D ca b0 ad) : ∀ (n : Nat), ∀ (x1 : Int32) (x2 : Int32) (x3 : Int32) (M : oa_M), BX4_value_47 n x1 x2 x3 M = some o → ∀ (H : Heap) (locs : List Loc), oa_H D ca ad M H → va_S (fun q => b0 ≤ q) s.heap H locs → ∀ (ls : Array Slot), lv_has ls 4 [(0, .ref (ad 0 0)), (1, .int x1), (2, .int x2), (3, .int x3)] → W p l e ({ frames := 7, cells := 3, slots := 18, locals := 104 } : Room) s m args below meth c H locs 2 12 (vx_MQ below (va_Qi (fun (r' : Int32) (u : oa_M) => o.1 = 0 ∧ r' = o.2.1 ∧ u = o.2.2) (fun u t => oa_H D ca ad u t.heap) (fun q => b0 ≤ q)) (vx_X (fun u : oa_M => o.1 ≠ 0 ∧ u = o.2.2) (fun E u t => E = oa_x o.1 ∧ oa_H D ca ad u t.heap) (fun q => b0 ≤ q)) args s 3 (6 * 3) (fun q => b0 ≤ q)) (F0 m 47 ls []) := by
  obtain ⟨hx, hb, hml, hr, hlocks, hown, hts, hE, hw, hl0, hnt⟩ := id C
  intro n x1 x2 x3 M hf H locs hH hS ls hl
  unfold BX4_value_47 at hf
  cases hf
  exact oa_thr (own := RX4) (text := "no such operand") (names := oa_nm) hx hb hl0 hown (by decide +kernel) (by decide +kernel) (hts _ tw_419) (hts _ tw_56) (hE.2.2.2.2.1 ("OpcodeAtlas", 88, "no such operand") (by decide +kernel)) (oa_at132 hts hE) (by decide +kernel) hE hS hH (hl.1.trans hml.symm) dX4_value_47 dX4_value_50 dX4_value_51 dX4_value_53 dX4_value_56 hnt (by decide) (by decide) (by decide) (by decide) hlocks ⟨Nat.succ_ne_zero _, rfl⟩ rfl (by decide) (by decide)
set_option maxHeartbeats 4000000 in
set_option maxRecDepth 100000 in
theorem cX4_value_k (l : Launch) (hl0 : l.stackTraces = false) (D : va_G) (ca : Nat → ClassId) (ad : Nat → Nat → Nat) (b0 : Nat) (hw : oa_W ad b0) (n : Nat) (x1 : Int32) (x2 : Int32) (M : oa_M) (o : Nat × Int32 × oa_M) (hf : FX4_value n x1 x2 M = some o) : oa_Xi l yX4_value (oa_w yX4_value cX4_value 4 (some .int)) ({ frames := 7, cells := 3, slots := 18, locals := 104 } : Room) 3 D ca ad b0 [.ref (ad 0 0), .int x1, .int x2] M o := by
  refine oa_ofX (cc := cX4_value) (maxL := 4) (ret := some .int) (by decide) rfl (Nat.le_of_ble_eq_true rfl) ?_
  intro p e s m below meth c hx hb hml hr hlocks hown hts0 hnt hP ls hl
  obtain ⟨hH, hE⟩ := hP
  have hts : ∀ w ∈ oa_T, w.before _ s = true := fun w h => hts0 w (List.mem_cons_of_mem _ h)
  have hS : va_S (fun q => b0 ≤ q) s.heap s.heap [] := va_S.rf
  have C : oa_Cy p l s m _ meth c cX4_value 4 (some .int) RX4 D ca b0 ad := ⟨hx, hb, hml, hr, hlocks, hown, hts, hE, hw, hl0, hnt⟩
  have hl : lv_has ls 4 [(0, .ref (ad 0 0)), (1, .int x1), (2, .int x2)] := hl
  unfold FX4_value at hf
  refine lv_aload_n hx hb dX4_value_0 rfl (lv_at hl 0 rfl) ?_
  obtain ⟨cd4, M2, hc3, ha5, hb6⟩ := oa_bxE hf
  refine oa_cxv (mc := 3) (mc0 := 1) (As := []) (rest := []) ⟨hx, hb, hml, hown, hts⟩ (cX4_requireReady_ok l hl0 D ca ad b0 hw n  _ _ hc3) (cwV 0 hts (oa_gV tw_449 tw_451 tw_4 tw_44 tw_452) rfl rfl rfl (by decide +kernel) ⟨Nat.le_of_ble_eq_true rfl, Nat.le_of_ble_eq_true rfl⟩) hE hH hS (oa_recv (k := 0) (ci := 4) hE hH (by decide) rfl rfl) rfl hl.1 rfl (Nat.le_of_ble_eq_true rfl) dX4_value_1 ⟨by decide, by decide⟩ hnt hlocks (by decide) (by decide) hb6 (fun hz7 H locs hH hS => ?_)
  have hf := ha5 hz7
  refine lv_aload_n hx hb dX4_value_4 rfl (lv_at hl 0 rfl) ?_
  refine lv_iload_n hx hb dX4_value_5 rfl (lv_at hl 1 rfl) ?_
  obtain ⟨cd11, M9, hc10, ha12, hb13⟩ := oa_bxE hf
  refine oa_cxv (mc := 3) (mc0 := 1) (As := [.int x1]) (rest := []) ⟨hx, hb, hml, hown, hts⟩ (cX4_requireAddress_ok l hl0 D ca ad b0 hw n x1 _ _ hc10) (cwV 1 hts (oa_gV tw_415 tw_417 tw_3 tw_44 tw_418) rfl rfl rfl (by decide +kernel) ⟨Nat.le_of_ble_eq_true rfl, Nat.le_of_ble_eq_true rfl⟩) hE hH hS (oa_recv (k := 0) (ci := 4) hE hH (by decide) rfl rfl) rfl hl.1 rfl (Nat.le_of_ble_eq_true rfl) dX4_value_6 ⟨by decide, by decide⟩ hnt hlocks (by decide) (by decide) hb13 (fun hz14 H locs hH hS => ?_)
  have hf := ha12 hz14
  refine lv_aload_n hx hb dX4_value_9 rfl (lv_at hl 0 rfl) ?_
  refine lv_iload_n hx hb dX4_value_10 rfl (lv_at hl 1 rfl) ?_
  obtain ⟨r15, M16, hc17, hf⟩ := oa_bdE hf
  refine oa_cvi (As := [.int x1]) (rest := []) ⟨hx, hb, hml, hown, hts⟩ (cX4_narrowestAt_ok l D ca ad b0 hw n x1 _ _ _ hc17) (cwV 1 hts (oa_gV tw_454 tw_456 tw_5 tw_44 tw_457) rfl rfl rfl (by decide +kernel) ⟨Nat.le_of_ble_eq_true rfl, Nat.le_of_ble_eq_true rfl⟩) hE hH hS (oa_recv (k := 0) (ci := 4) hE hH (by decide) rfl rfl) rfl hl.1 rfl (Nat.le_of_ble_eq_true rfl) dX4_value_11 ⟨by decide, by decide⟩ (fun H locs hH hS => ?_)
  refine lv_istore_n (lv' := [(3, .int r15), (0, .ref (ad 0 0)), (1, .int x1), (2, .int x2)]) hx hb dX4_value_14 rfl hl (by decide) rfl (fun ls hl => ?_)
  refine lv_iload_n hx hb dX4_value_15 rfl (lv_at hl 0 rfl) ?_
  refine lv_iconst (v := (-1 : Int32)) hx hb dX4_value_16 (by decide) ?_
  refine lv_icmp_ne (tgt := 30) hx hb dX4_value_17 (by decide) (fun hq18 => ?_) (fun hq18 => ?_)
  · rw [if_neg hq18] at hf
    refine lv_iload_n hx hb dX4_value_30 rfl (lv_at hl 3 rfl) ?_
    refine lv_if_lt (tgt := 47) hx hb dX4_value_31 (by decide) (fun hq19 => ?_) (fun hq19 => ?_)
    · rw [if_pos hq19] at hf
      exact bX4_value_47 C n x1 x2 r15 _ hf _ _ hH hS _ (lv_sub hl [1, 2, 3, 0] rfl)
    · rw [if_neg hq19] at hf
      refine lv_iload_n hx hb dX4_value_34 rfl (lv_at hl 3 rfl) ?_
      refine lv_aload_n hx hb dX4_value_35 rfl (lv_at hl 1 rfl) ?_
      refine oa_get (ci := 4) (C := RX4) (T := TX4) (N := 9) (v := .ref (ad 4 0)) hx hb hts inX4 hown hE hH 0 0 (by decide) rfl rfl 3 (by decide) (hts _ tw_179) rfl dX4_value_36 ?_
      refine lv_iload_n hx hb dX4_value_39 rfl (lv_at hl 0 rfl) ?_
      obtain ⟨hk20, hf⟩ := oa_ck hf
      refine oa_ald (g := fun j => ad 5 j) hx hb hE hH 4 0 (by decide) 13 3 rfl rfl (oa_in_vp hk20) dX4_value_40 ?_
      refine oa_get (ci := 0) (C := RX0) (T := TX0) (N := 6) (v := .int (M16 5 r15.toNatClampNeg 5)) hx hb hts inX0 hown hE hH 5 r15.toNatClampNeg (oa_lt (oa_in_vp hk20)) rfl rfl 5 (by decide) (hts _ tw_131) rfl dX4_value_41 ?_
      refine lv_icmp_lt (tgt := 57) hx hb dX4_value_44 (by decide) (fun hq21 => ?_) (fun hq21 => ?_)
      · rw [if_pos hq21] at hf
        refine lv_aload_n hx hb dX4_value_57 rfl (lv_at hl 1 rfl) ?_
        refine lv_iload_n hx hb dX4_value_58 rfl (lv_at hl 2 rfl) ?_
        refine lv_aload_n hx hb dX4_value_59 rfl (lv_at hl 1 rfl) ?_
        refine oa_get (ci := 4) (C := RX4) (T := TX4) (N := 9) (v := .ref (ad 4 0)) hx hb hts inX4 hown hE hH 0 0 (by decide) rfl rfl 3 (by decide) (hts _ tw_179) rfl dX4_value_60 ?_
        refine lv_iload_n hx hb dX4_value_63 rfl (lv_at hl 0 rfl) ?_
        obtain ⟨hk22, hf⟩ := oa_ck hf
        refine oa_ald (g := fun j => ad 5 j) hx hb hE hH 4 0 (by decide) 13 3 rfl rfl (oa_in_vp hk22) dX4_value_64 ?_
        refine lv_iload_n hx hb dX4_value_65 rfl (lv_at hl 3 rfl) ?_
        obtain ⟨r23, M24, hc25, hf⟩ := oa_bdE hf
        refine oa_cvi (As := [.int x1, .ref (ad 5 r15.toNatClampNeg), .int x2]) (rest := []) ⟨hx, hb, hml, hown, hts⟩ (cX4_operandAt_ok l D ca ad b0 hw n x1 r15.toNatClampNeg (oa_lt (oa_in_vp hk22)) x2 _ _ _ hc25) (cwV 3 hts (oa_gV tw_472 tw_474 tw_7 tw_44 tw_475) rfl rfl rfl (by decide +kernel) ⟨Nat.le_of_ble_eq_true rfl, Nat.le_of_ble_eq_true rfl⟩) hE hH hS (oa_recv (k := 0) (ci := 4) hE hH (by decide) rfl rfl) rfl hl.1 rfl (Nat.le_of_ble_eq_true rfl) dX4_value_66 ⟨by decide, by decide⟩ (fun H locs hH hS => ?_)
        cases hf
        refine vx_ret (W.widen (k := 3) (n := 6 * 3) (by decide) (by decide) ?_)
        exact oa_rexi hx hb hr hlocks rfl rfl hS hH dX4_value_69
      · rw [if_neg hq21] at hf
        exact bX4_value_47 C n x1 x2 r15 _ hf _ _ hH hS _ (lv_sub hl [1, 2, 3, 0] rfl)
  · rw [if_pos hq18] at hf
    cases hf
    exact oa_thr (own := RX4) (text := "no form matches") (names := oa_nm) hx hb hl0 hown (by decide +kernel) (by decide +kernel) (hts _ tw_419) (hts _ tw_56) (hE.2.2.2.2.1 ("OpcodeAtlas", 130, "no form matches") (by decide +kernel)) (oa_at132 hts hE) (by decide +kernel) hE hS hH (hl.1.trans hml.symm) dX4_value_20 dX4_value_23 dX4_value_24 dX4_value_26 dX4_value_29 hnt (by decide) (by decide) (by decide) (by decide) hlocks ⟨Nat.succ_ne_zero _, rfl⟩ rfl (by decide) (by decide)
theorem cX4_value_ok (l : Launch) (hl0 : l.stackTraces = false) (D : va_G) (ca : Nat → ClassId) (ad : Nat → Nat → Nat) (b0 : Nat) (hw : oa_W ad b0) (n : Nat) (x1 : Int32) (x2 : Int32) (M : oa_M) (o : Nat × Int32 × oa_M) (hf : FX4_value n x1 x2 M = some o) : oa_Xi l yX4_value (oa_w yX4_value cX4_value 4 (some .int)) ({ frames := 7, cells := 3, slots := 18, locals := 104 } : Room) 3 D ca ad b0 [.ref (ad 0 0), .int x1, .int x2] M o := cX4_value_k l hl0 D ca ad b0 hw n x1 x2 M o hf
def BX4_writeInstruction_36 (rec13 : Int32 → Nat → Int32 → oa_M → Option (oa_M)) (n : Nat) (x1 : Int32) (n2 : Nat) (x3 : Int32) (k0 : Nat) (z1 : Int32) (M : oa_M) : Option (oa_M) := (oa_bd (FX3_add n k0 z1 M) (fun r1 M2 => (oa_bd (FX4_operandAt n x1 n2 x3 M2) (fun r4 M5 => (oa_bv (FX3_addNumber n 1 r4 M5) (fun M8 => (rec13 x1 n2 (x3 + (1 : Int32)) M8)))))))
def BX4_writeInstruction_13 : Nat → Int32 → Nat → Int32 → oa_M → Option (oa_M)
  | 0, _, _, _, _ => none
  | n + 1, x1, n2, x3, M => (if (M 5 n2 5) ≤ x3 then (some M) else (if x3 = 0 then (BX4_writeInstruction_36 (BX4_writeInstruction_13 n) n x1 n2 x3 1 (32 : Int32) M) else (BX4_writeInstruction_36 (BX4_writeInstruction_13 n) n x1 n2 x3 1 (44 : Int32) M)))
def FX4_writeInstruction (n : Nat) (x1 : Int32) (n2 : Nat) (M : oa_M) : Option (oa_M) := (oa_bv (FX3_addName n 1 (M 5 n2 1) M) (fun M2 => (BX4_writeInstruction_13 n x1 n2 (0 : Int32) M2)))
set_option maxHeartbeats 4000000 in
set_option maxRecDepth 100000 in
theorem bX4_writeInstruction_36 {p : Program} {l : Launch} {e : Env} {s : State} {m : MethodId} {args : Array Value} {below : List Frame} {meth : Method} {c : Code} {D : va_G} {ca : Nat → ClassId} {ad : Nat → Nat → Nat} {b0 : Nat} {o : oa_M} (C : oa_Cx p s m args meth c cX4_writeInstruction 4 (none) RX4 D ca b0 ad) (rec13 : Int32 → Nat → Int32 → oa_M → Option (oa_M)) (hrec13 : ∀ (x1 : Int32) (n2 : Nat) (hn2 : n2 < oa_n 5) (x3 : Int32) (M : oa_M), rec13 x1 n2 x3 M = some o → ∀ (H : Heap) (locs : List Loc), oa_H D ca ad M H → va_S (fun q => b0 ≤ q) s.heap H locs → ∀ (ls : Array Slot), lv_has ls 4 [(0, .ref (ad 0 0)), (1, .int x1), (2, .ref (ad 5 n2)), (3, .int x3)] → W p l e ({ frames := 4, cells := 0, slots := 0, locals := 87 } : Room) s m args below meth c H locs 0 0 (MQ below (va_Qv (fun (u : oa_M) => u = o) (fun u t => oa_H D ca ad u t.heap) (fun q => b0 ≤ q)) args s 0 0 (fun q => b0 ≤ q)) (F0 m 13 ls [])) : ∀ (n : Nat), ∀ (x1 : Int32) (n2 : Nat) (hn2 : n2 < oa_n 5) (x3 : Int32) (k0 : Nat) (hk0 : k0 < oa_n 1) (z1 : Int32) (M : oa_M), BX4_writeInstruction_36 rec13 n x1 n2 x3 k0 z1 M = some o → ∀ (H : Heap) (locs : List Loc), oa_H D ca ad M H → va_S (fun q => b0 ≤ q) s.heap H locs → ∀ (ls : Array Slot), lv_has ls 4 [(0, .ref (ad 0 0)), (1, .int x1), (2, .ref (ad 5 n2)), (3, .int x3)] → W p l e ({ frames := 4, cells := 0, slots := 0, locals := 87 } : Room) s m args below meth c H locs 0 0 (MQ below (va_Qv (fun (u : oa_M) => u = o) (fun u t => oa_H D ca ad u t.heap) (fun q => b0 ≤ q)) args s 0 0 (fun q => b0 ≤ q)) (F0 m 36 ls [.int z1, .ref (ad 1 k0)]) := by
  obtain ⟨hx, hb, hml, hr, hlocks, hown, hts, hE, hw⟩ := id C
  intro n x1 n2 hn2 x3 k0 hk0 z1 M hf H locs hH hS ls hl
  unfold BX4_writeInstruction_36 at hf
  obtain ⟨r1, M2, hc3, hf⟩ := oa_bdE hf
  refine oa_cvi (As := [.int z1]) (rest := []) ⟨hx, hb, hml, hown, hts⟩ (cX3_add_ok l D ca ad b0 hw n k0 hk0 z1 _ _ _ hc3) (cwV 1 hts (oa_gV tw_208 tw_209 tw_210 tw_45 tw_211) rfl rfl rfl (by decide +kernel) ⟨Nat.le_of_ble_eq_true rfl, Nat.le_of_ble_eq_true rfl⟩) hE hH hS (oa_recv (k := 1) (ci := 3) hE hH hk0 rfl rfl) rfl hl.1 rfl (Nat.le_of_ble_eq_true rfl) dX4_writeInstruction_36 ⟨by decide, by decide⟩ (fun H locs hH hS => ?_)
  refine lv_pop hx hb dX4_writeInstruction_39 rfl ?_
  refine lv_aload_n hx hb dX4_writeInstruction_40 rfl (lv_at hl 0 rfl) ?_
  refine oa_get (ci := 4) (C := RX4) (T := TX4) (N := 9) (v := .ref (ad 1 1)) hx hb hts inX4 hown hE hH 0 0 (by decide) rfl rfl 1 (by decide) (hts _ tw_177) rfl dX4_writeInstruction_41 ?_
  refine lv_aload_n hx hb dX4_writeInstruction_44 rfl (lv_at hl 0 rfl) ?_
  refine lv_iload_n hx hb dX4_writeInstruction_45 rfl (lv_at hl 1 rfl) ?_
  refine lv_aload_n hx hb dX4_writeInstruction_46 rfl (lv_at hl 2 rfl) ?_
  refine lv_iload_n hx hb dX4_writeInstruction_47 rfl (lv_at hl 3 rfl) ?_
  obtain ⟨r4, M5, hc6, hf⟩ := oa_bdE hf
  refine oa_cvi (As := [.int x1, .ref (ad 5 n2), .int x3]) (rest := [.ref (ad 1 1)]) ⟨hx, hb, hml, hown, hts⟩ (cX4_operandAt_ok l D ca ad b0 hw n x1 n2 hn2 x3 _ _ _ hc6) (cwV 3 hts (oa_gV tw_472 tw_474 tw_7 tw_44 tw_475) rfl rfl rfl (by decide +kernel) ⟨Nat.le_of_ble_eq_true rfl, Nat.le_of_ble_eq_true rfl⟩) hE hH hS (oa_recv (k := 0) (ci := 4) hE hH (by decide) rfl rfl) rfl hl.1 rfl (Nat.le_of_ble_eq_true rfl) dX4_writeInstruction_48 ⟨by decide, by decide⟩ (fun H locs hH hS => ?_)
  obtain ⟨M8, hc9, hf⟩ := oa_bvE hf
  refine oa_cvv (As := [.int r4]) (rest := []) ⟨hx, hb, hml, hown, hts⟩ (cX3_addNumber_ok l D ca ad b0 hw n 1 (by decide) r4 _ _ hc9) (cwV 1 hts (oa_gV tw_508 tw_509 tw_510 tw_45 tw_511) rfl rfl rfl (by decide +kernel) ⟨Nat.le_of_ble_eq_true rfl, Nat.le_of_ble_eq_true rfl⟩) hE hH hS (oa_recv (k := 1) (ci := 3) hE hH (by decide) rfl rfl) rfl hl.1 rfl (Nat.le_of_ble_eq_true rfl) dX4_writeInstruction_51 ⟨by decide, by decide⟩ (fun H locs hH hS => ?_)
  refine lv_iinc (v := (x3 + (1 : Int32))) (lv' := [(3, .int (x3 + (1 : Int32))), (0, .ref (ad 0 0)), (1, .int x1), (2, .ref (ad 5 n2))]) hx hb dX4_writeInstruction_54 hl (k := 3) rfl rfl (by decide) rfl (fun ls hl => ?_)
  refine lv_goto (tgt := 13) hx hb dX4_writeInstruction_57 (by decide) ?_
  exact hrec13 x1 n2 hn2 (x3 + (1 : Int32)) _ hf _ _ hH hS _ (lv_sub hl [1, 2, 3, 0] rfl)
set_option maxHeartbeats 4000000 in
set_option maxRecDepth 100000 in
theorem bX4_writeInstruction_13 {p : Program} {l : Launch} {e : Env} {s : State} {m : MethodId} {args : Array Value} {below : List Frame} {meth : Method} {c : Code} {D : va_G} {ca : Nat → ClassId} {ad : Nat → Nat → Nat} {b0 : Nat} {o : oa_M} (C : oa_Cx p s m args meth c cX4_writeInstruction 4 (none) RX4 D ca b0 ad) : ∀ (n : Nat), ∀ (x1 : Int32) (n2 : Nat) (hn2 : n2 < oa_n 5) (x3 : Int32) (M : oa_M), BX4_writeInstruction_13 n x1 n2 x3 M = some o → ∀ (H : Heap) (locs : List Loc), oa_H D ca ad M H → va_S (fun q => b0 ≤ q) s.heap H locs → ∀ (ls : Array Slot), lv_has ls 4 [(0, .ref (ad 0 0)), (1, .int x1), (2, .ref (ad 5 n2)), (3, .int x3)] → W p l e ({ frames := 4, cells := 0, slots := 0, locals := 87 } : Room) s m args below meth c H locs 0 0 (MQ below (va_Qv (fun (u : oa_M) => u = o) (fun u t => oa_H D ca ad u t.heap) (fun q => b0 ≤ q)) args s 0 0 (fun q => b0 ≤ q)) (F0 m 13 ls []) := by
  obtain ⟨hx, hb, hml, hr, hlocks, hown, hts, hE, hw⟩ := id C
  intro n
  induction n with
  | zero => intro x1 n2 hn2 x3 M hf; cases hf
  | succ n ih =>
    intro x1 n2 hn2 x3 M hf H locs hH hS ls hl
    have hrec13 := ih
    unfold BX4_writeInstruction_13 at hf
    refine lv_iload_n hx hb dX4_writeInstruction_13 rfl (lv_at hl 3 rfl) ?_
    refine lv_aload_n hx hb dX4_writeInstruction_14 rfl (lv_at hl 2 rfl) ?_
    refine oa_get (ci := 0) (C := RX0) (T := TX0) (N := 6) (v := .int (M 5 n2 5)) hx hb hts inX0 hown hE hH 5 n2 hn2 rfl rfl 5 (by decide) (hts _ tw_131) rfl dX4_writeInstruction_15 ?_
    refine lv_icmp_ge (tgt := 60) hx hb dX4_writeInstruction_18 (by decide) (fun hq1 => ?_) (fun hq1 => ?_)
    · rw [if_pos hq1] at hf
      cases hf
      exact oa_retv hx hb hr hlocks hS hH dX4_writeInstruction_60
    · rw [if_neg hq1] at hf
      refine lv_aload_n hx hb dX4_writeInstruction_21 rfl (lv_at hl 0 rfl) ?_
      refine oa_get (ci := 4) (C := RX4) (T := TX4) (N := 9) (v := .ref (ad 1 1)) hx hb hts inX4 hown hE hH 0 0 (by decide) rfl rfl 1 (by decide) (hts _ tw_177) rfl dX4_writeInstruction_22 ?_
      refine lv_iload_n hx hb dX4_writeInstruction_25 rfl (lv_at hl 3 rfl) ?_
      refine lv_if_ne (tgt := 34) hx hb dX4_writeInstruction_26 (by decide) (fun hq2 => ?_) (fun hq2 => ?_)
      · rw [if_neg hq2] at hf
        refine lv_bipush (v := (44 : Int32)) hx hb dX4_writeInstruction_34 (by decide) ?_
        exact bX4_writeInstruction_36 C _ hrec13 n x1 n2 hn2 x3 1 (by decide) (44 : Int32) _ hf _ _ hH hS _ (lv_sub hl [0, 1, 2, 3] rfl)
      · rw [if_pos hq2] at hf
        refine lv_bipush (v := (32 : Int32)) hx hb dX4_writeInstruction_29 (by decide) ?_
        refine lv_goto (tgt := 36) hx hb dX4_writeInstruction_31 (by decide) ?_
        exact bX4_writeInstruction_36 C _ hrec13 n x1 n2 hn2 x3 1 (by decide) (32 : Int32) _ hf _ _ hH hS _ (lv_sub hl [0, 1, 2, 3] rfl)
set_option maxHeartbeats 4000000 in
set_option maxRecDepth 100000 in
theorem cX4_writeInstruction_k (l : Launch) (D : va_G) (ca : Nat → ClassId) (ad : Nat → Nat → Nat) (b0 : Nat) (hw : oa_W ad b0) (n : Nat) (x1 : Int32) (n2 : Nat) (hn2 : n2 < oa_n 5) (M : oa_M) (o : oa_M) (hf : FX4_writeInstruction n x1 n2 M = some o) : oa_Mv l yX4_writeInstruction (oa_w yX4_writeInstruction cX4_writeInstruction 4 none) ({ frames := 4, cells := 0, slots := 0, locals := 87 } : Room) D ca ad b0 [.ref (ad 0 0), .int x1, .ref (ad 5 n2)] M o := by
  refine oa_ofW (cc := cX4_writeInstruction) (maxL := 4) (ret := none) (by decide) rfl (Nat.le_of_ble_eq_true rfl) ?_
  intro p e s m below meth c hx hb hml hr hlocks hown hts0 hP ls hl
  obtain ⟨hH, hE⟩ := hP
  have hts : ∀ w ∈ oa_T, w.before _ s = true := fun w h => hts0 w (List.mem_cons_of_mem _ h)
  have hS : va_S (fun q => b0 ≤ q) s.heap s.heap [] := va_S.rf
  have C : oa_Cx p s m _ meth c cX4_writeInstruction 4 (none) RX4 D ca b0 ad := ⟨hx, hb, hml, hr, hlocks, hown, hts, hE, hw⟩
  have hl : lv_has ls 4 [(0, .ref (ad 0 0)), (1, .int x1), (2, .ref (ad 5 n2))] := hl
  unfold FX4_writeInstruction at hf
  refine lv_aload_n hx hb dX4_writeInstruction_0 rfl (lv_at hl 0 rfl) ?_
  refine oa_get (ci := 4) (C := RX4) (T := TX4) (N := 9) (v := .ref (ad 1 1)) hx hb hts inX4 hown hE hH 0 0 (by decide) rfl rfl 1 (by decide) (hts _ tw_177) rfl dX4_writeInstruction_1 ?_
  refine lv_aload_n hx hb dX4_writeInstruction_4 rfl (lv_at hl 2 rfl) ?_
  refine oa_get (ci := 0) (C := RX0) (T := TX0) (N := 6) (v := .int (M 5 n2 1)) hx hb hts inX0 hown hE hH 5 n2 hn2 rfl rfl 1 (by decide) (hts _ tw_124) rfl dX4_writeInstruction_5 ?_
  obtain ⟨M2, hc3, hf⟩ := oa_bvE hf
  refine oa_cvv (As := [.int (M 5 n2 1)]) (rest := []) ⟨hx, hb, hml, hown, hts⟩ (cX3_addName_ok l D ca ad b0 hw n 1 (by decide) (M 5 n2 1) _ _ hc3) (cwV 1 hts (oa_gV tw_503 tw_504 tw_505 tw_45 tw_506) rfl rfl rfl (by decide +kernel) ⟨Nat.le_of_ble_eq_true rfl, Nat.le_of_ble_eq_true rfl⟩) hE hH hS (oa_recv (k := 1) (ci := 3) hE hH (by decide) rfl rfl) rfl hl.1 rfl (Nat.le_of_ble_eq_true rfl) dX4_writeInstruction_8 ⟨by decide, by decide⟩ (fun H locs hH hS => ?_)
  refine lv_iconst (v := (0 : Int32)) hx hb dX4_writeInstruction_11 (by decide) ?_
  refine lv_istore_n (lv' := [(3, .int (0 : Int32)), (0, .ref (ad 0 0)), (1, .int x1), (2, .ref (ad 5 n2))]) hx hb dX4_writeInstruction_12 rfl hl (by decide) rfl (fun ls hl => ?_)
  exact bX4_writeInstruction_13 C n x1 n2 hn2 (0 : Int32) _ hf _ _ hH hS _ (lv_sub hl [1, 2, 3, 0] rfl)
theorem cX4_writeInstruction_ok (l : Launch) (D : va_G) (ca : Nat → ClassId) (ad : Nat → Nat → Nat) (b0 : Nat) (hw : oa_W ad b0) (n : Nat) (x1 : Int32) (n2 : Nat) (hn2 : n2 < oa_n 5) (M : oa_M) (o : oa_M) (hf : FX4_writeInstruction n x1 n2 M = some o) : oa_Mv l yX4_writeInstruction (oa_w yX4_writeInstruction cX4_writeInstruction 4 none) ({ frames := 4, cells := 0, slots := 0, locals := 87 } : Room) D ca ad b0 [.ref (ad 0 0), .int x1, .ref (ad 5 n2)] M o := cX4_writeInstruction_k l D ca ad b0 hw n x1 n2 hn2 M o hf
def BX4_write_51 (n : Nat) (x1 : Int32) (x2 : Int32) (M : oa_M) : Option (Nat × Int32 × oa_M) := (some (0, (M 1 1 1), M))
def FX4_write (n : Nat) (x1 : Int32) (M : oa_M) : Option (Nat × Int32 × oa_M) := (oa_bx (FX4_requireReady n  M) (fun M2 => (oa_bx (FX4_requireAddress n x1 M2) (fun M9 => (oa_bd (FX4_narrowestAt n x1 M9) (fun r15 M16 => (oa_bv (FX3_clear n 1 M16) (fun M19 => (if r15 = (-1 : Int32) then (oa_bd (FX3_add n 1 (63 : Int32) M19) (fun r26 M27 => (BX4_write_51 n x1 r15 M27))) else (if oa_in r15 13 = true then (oa_bv (FX4_writeInstruction n x1 r15.toNatClampNeg M19) (fun M24 => (BX4_write_51 n x1 r15 M24))) else none))))))))))
set_option maxHeartbeats 4000000 in
set_option maxRecDepth 100000 in
theorem bX4_write_51 {p : Program} {l : Launch} {e : Env} {s : State} {m : MethodId} {args : Array Value} {below : List Frame} {meth : Method} {c : Code} {D : va_G} {ca : Nat → ClassId} {ad : Nat → Nat → Nat} {b0 : Nat} {o : Nat × Int32 × oa_M} (C : oa_Cy p l s m args meth c cX4_write 3 (some .int) RX4 D ca b0 ad) : ∀ (n : Nat), ∀ (x1 : Int32) (x2 : Int32) (M : oa_M), BX4_write_51 n x1 x2 M = some o → ∀ (H : Heap) (locs : List Loc), oa_H D ca ad M H → va_S (fun q => b0 ≤ q) s.heap H locs → ∀ (ls : Array Slot), lv_has ls 3 [(0, .ref (ad 0 0)), (1, .int x1), (2, .int x2)] → W p l e ({ frames := 7, cells := 2, slots := 12, locals := 110 } : Room) s m args below meth c H locs 2 12 (vx_MQ below (va_Qi (fun (r' : Int32) (u : oa_M) => o.1 = 0 ∧ r' = o.2.1 ∧ u = o.2.2) (fun u t => oa_H D ca ad u t.heap) (fun q => b0 ≤ q)) (vx_X (fun u : oa_M => o.1 ≠ 0 ∧ u = o.2.2) (fun E u t => E = oa_x o.1 ∧ oa_H D ca ad u t.heap) (fun q => b0 ≤ q)) args s 2 (6 * 2) (fun q => b0 ≤ q)) (F0 m 51 ls []) := by
  obtain ⟨hx, hb, hml, hr, hlocks, hown, hts, hE, hw, hl0, hnt⟩ := id C
  intro n x1 x2 M hf H locs hH hS ls hl
  unfold BX4_write_51 at hf
  refine lv_aload_n hx hb dX4_write_51 rfl (lv_at hl 0 rfl) ?_
  refine oa_get (ci := 4) (C := RX4) (T := TX4) (N := 9) (v := .ref (ad 1 1)) hx hb hts inX4 hown hE hH 0 0 (by decide) rfl rfl 1 (by decide) (hts _ tw_177) rfl dX4_write_52 ?_
  refine oa_get (ci := 3) (C := RX3) (T := TX3) (N := 3) (v := .int (M 1 1 1)) hx hb hts inX3 hown hE hH 1 1 (by decide) rfl rfl 1 (by decide) (hts _ tw_74) rfl dX4_write_55 ?_
  cases hf
  refine vx_ret (W.widen (k := 2) (n := 6 * 2) (by decide) (by decide) ?_)
  exact oa_rexi hx hb hr hlocks rfl rfl hS hH dX4_write_58
set_option maxHeartbeats 4000000 in
set_option maxRecDepth 100000 in
theorem cX4_write_k (l : Launch) (hl0 : l.stackTraces = false) (D : va_G) (ca : Nat → ClassId) (ad : Nat → Nat → Nat) (b0 : Nat) (hw : oa_W ad b0) (n : Nat) (x1 : Int32) (M : oa_M) (o : Nat × Int32 × oa_M) (hf : FX4_write n x1 M = some o) : oa_Xi l yX4_write (oa_w yX4_write cX4_write 3 (some .int)) ({ frames := 7, cells := 2, slots := 12, locals := 110 } : Room) 2 D ca ad b0 [.ref (ad 0 0), .int x1] M o := by
  refine oa_ofX (cc := cX4_write) (maxL := 3) (ret := some .int) (by decide) rfl (Nat.le_of_ble_eq_true rfl) ?_
  intro p e s m below meth c hx hb hml hr hlocks hown hts0 hnt hP ls hl
  obtain ⟨hH, hE⟩ := hP
  have hts : ∀ w ∈ oa_T, w.before _ s = true := fun w h => hts0 w (List.mem_cons_of_mem _ h)
  have hS : va_S (fun q => b0 ≤ q) s.heap s.heap [] := va_S.rf
  have C : oa_Cy p l s m _ meth c cX4_write 3 (some .int) RX4 D ca b0 ad := ⟨hx, hb, hml, hr, hlocks, hown, hts, hE, hw, hl0, hnt⟩
  have hl : lv_has ls 3 [(0, .ref (ad 0 0)), (1, .int x1)] := hl
  unfold FX4_write at hf
  refine lv_aload_n hx hb dX4_write_0 rfl (lv_at hl 0 rfl) ?_
  obtain ⟨cd4, M2, hc3, ha5, hb6⟩ := oa_bxE hf
  refine oa_cxv (mc := 2) (mc0 := 1) (As := []) (rest := []) ⟨hx, hb, hml, hown, hts⟩ (cX4_requireReady_ok l hl0 D ca ad b0 hw n  _ _ hc3) (cwV 0 hts (oa_gV tw_449 tw_451 tw_4 tw_44 tw_452) rfl rfl rfl (by decide +kernel) ⟨Nat.le_of_ble_eq_true rfl, Nat.le_of_ble_eq_true rfl⟩) hE hH hS (oa_recv (k := 0) (ci := 4) hE hH (by decide) rfl rfl) rfl hl.1 rfl (Nat.le_of_ble_eq_true rfl) dX4_write_1 ⟨by decide, by decide⟩ hnt hlocks (by decide) (by decide) hb6 (fun hz7 H locs hH hS => ?_)
  have hf := ha5 hz7
  refine lv_aload_n hx hb dX4_write_4 rfl (lv_at hl 0 rfl) ?_
  refine lv_iload_n hx hb dX4_write_5 rfl (lv_at hl 1 rfl) ?_
  obtain ⟨cd11, M9, hc10, ha12, hb13⟩ := oa_bxE hf
  refine oa_cxv (mc := 2) (mc0 := 1) (As := [.int x1]) (rest := []) ⟨hx, hb, hml, hown, hts⟩ (cX4_requireAddress_ok l hl0 D ca ad b0 hw n x1 _ _ hc10) (cwV 1 hts (oa_gV tw_415 tw_417 tw_3 tw_44 tw_418) rfl rfl rfl (by decide +kernel) ⟨Nat.le_of_ble_eq_true rfl, Nat.le_of_ble_eq_true rfl⟩) hE hH hS (oa_recv (k := 0) (ci := 4) hE hH (by decide) rfl rfl) rfl hl.1 rfl (Nat.le_of_ble_eq_true rfl) dX4_write_6 ⟨by decide, by decide⟩ hnt hlocks (by decide) (by decide) hb13 (fun hz14 H locs hH hS => ?_)
  have hf := ha12 hz14
  refine lv_aload_n hx hb dX4_write_9 rfl (lv_at hl 0 rfl) ?_
  refine lv_iload_n hx hb dX4_write_10 rfl (lv_at hl 1 rfl) ?_
  obtain ⟨r15, M16, hc17, hf⟩ := oa_bdE hf
  refine oa_cvi (As := [.int x1]) (rest := []) ⟨hx, hb, hml, hown, hts⟩ (cX4_narrowestAt_ok l D ca ad b0 hw n x1 _ _ _ hc17) (cwV 1 hts (oa_gV tw_454 tw_456 tw_5 tw_44 tw_457) rfl rfl rfl (by decide +kernel) ⟨Nat.le_of_ble_eq_true rfl, Nat.le_of_ble_eq_true rfl⟩) hE hH hS (oa_recv (k := 0) (ci := 4) hE hH (by decide) rfl rfl) rfl hl.1 rfl (Nat.le_of_ble_eq_true rfl) dX4_write_11 ⟨by decide, by decide⟩ (fun H locs hH hS => ?_)
  refine lv_istore_n (lv' := [(2, .int r15), (0, .ref (ad 0 0)), (1, .int x1)]) hx hb dX4_write_14 rfl hl (by decide) rfl (fun ls hl => ?_)
  refine lv_aload_n hx hb dX4_write_15 rfl (lv_at hl 1 rfl) ?_
  refine oa_get (ci := 4) (C := RX4) (T := TX4) (N := 9) (v := .ref (ad 1 1)) hx hb hts inX4 hown hE hH 0 0 (by decide) rfl rfl 1 (by decide) (hts _ tw_177) rfl dX4_write_16 ?_
  obtain ⟨M19, hc20, hf⟩ := oa_bvE hf
  refine oa_cvv (As := []) (rest := []) ⟨hx, hb, hml, hown, hts⟩ (cX3_clear_ok l D ca ad b0 hw n 1 (by decide) _ _ hc20) (cwV 0 hts (oa_gV tw_301 tw_302 tw_303 tw_45 tw_304) rfl rfl rfl (by decide +kernel) ⟨Nat.le_of_ble_eq_true rfl, Nat.le_of_ble_eq_true rfl⟩) hE hH hS (oa_recv (k := 1) (ci := 3) hE hH (by decide) rfl rfl) rfl hl.1 rfl (Nat.le_of_ble_eq_true rfl) dX4_write_19 ⟨by decide, by decide⟩ (fun H locs hH hS => ?_)
  refine lv_iload_n hx hb dX4_write_22 rfl (lv_at hl 0 rfl) ?_
  refine lv_iconst (v := (-1 : Int32)) hx hb dX4_write_23 (by decide) ?_
  refine lv_icmp_ne (tgt := 40) hx hb dX4_write_24 (by decide) (fun hq21 => ?_) (fun hq21 => ?_)
  · rw [if_neg hq21] at hf
    refine lv_aload_n hx hb dX4_write_40 rfl (lv_at hl 1 rfl) ?_
    refine lv_iload_n hx hb dX4_write_41 rfl (lv_at hl 2 rfl) ?_
    refine lv_aload_n hx hb dX4_write_42 rfl (lv_at hl 1 rfl) ?_
    refine oa_get (ci := 4) (C := RX4) (T := TX4) (N := 9) (v := .ref (ad 4 0)) hx hb hts inX4 hown hE hH 0 0 (by decide) rfl rfl 3 (by decide) (hts _ tw_179) rfl dX4_write_43 ?_
    refine lv_iload_n hx hb dX4_write_46 rfl (lv_at hl 0 rfl) ?_
    obtain ⟨hk22, hf⟩ := oa_ck hf
    refine oa_ald (g := fun j => ad 5 j) hx hb hE hH 4 0 (by decide) 13 3 rfl rfl (oa_in_vp hk22) dX4_write_47 ?_
    obtain ⟨M24, hc25, hf⟩ := oa_bvE hf
    refine oa_cvv (As := [.int x1, .ref (ad 5 r15.toNatClampNeg)]) (rest := []) ⟨hx, hb, hml, hown, hts⟩ (cX4_writeInstruction_ok l D ca ad b0 hw n x1 r15.toNatClampNeg (oa_lt (oa_in_vp hk22)) _ _ hc25) (cwV 2 hts (oa_gV tw_499 tw_501 tw_8 tw_44 tw_502) rfl rfl rfl (by decide +kernel) ⟨Nat.le_of_ble_eq_true rfl, Nat.le_of_ble_eq_true rfl⟩) hE hH hS (oa_recv (k := 0) (ci := 4) hE hH (by decide) rfl rfl) rfl hl.1 rfl (Nat.le_of_ble_eq_true rfl) dX4_write_48 ⟨by decide, by decide⟩ (fun H locs hH hS => ?_)
    exact bX4_write_51 C n x1 r15 _ hf _ _ hH hS _ (lv_sub hl [1, 2, 0] rfl)
  · rw [if_pos hq21] at hf
    refine lv_aload_n hx hb dX4_write_27 rfl (lv_at hl 1 rfl) ?_
    refine oa_get (ci := 4) (C := RX4) (T := TX4) (N := 9) (v := .ref (ad 1 1)) hx hb hts inX4 hown hE hH 0 0 (by decide) rfl rfl 1 (by decide) (hts _ tw_177) rfl dX4_write_28 ?_
    refine lv_bipush (v := (63 : Int32)) hx hb dX4_write_31 (by decide) ?_
    obtain ⟨r26, M27, hc28, hf⟩ := oa_bdE hf
    refine oa_cvi (As := [.int (63 : Int32)]) (rest := []) ⟨hx, hb, hml, hown, hts⟩ (cX3_add_ok l D ca ad b0 hw n 1 (by decide) (63 : Int32) _ _ _ hc28) (cwV 1 hts (oa_gV tw_208 tw_209 tw_210 tw_45 tw_211) rfl rfl rfl (by decide +kernel) ⟨Nat.le_of_ble_eq_true rfl, Nat.le_of_ble_eq_true rfl⟩) hE hH hS (oa_recv (k := 1) (ci := 3) hE hH (by decide) rfl rfl) rfl hl.1 rfl (Nat.le_of_ble_eq_true rfl) dX4_write_33 ⟨by decide, by decide⟩ (fun H locs hH hS => ?_)
    refine lv_pop hx hb dX4_write_36 rfl ?_
    refine lv_goto (tgt := 51) hx hb dX4_write_37 (by decide) ?_
    exact bX4_write_51 C n x1 r15 _ hf _ _ hH hS _ (lv_sub hl [1, 2, 0] rfl)
theorem cX4_write_ok (l : Launch) (hl0 : l.stackTraces = false) (D : va_G) (ca : Nat → ClassId) (ad : Nat → Nat → Nat) (b0 : Nat) (hw : oa_W ad b0) (n : Nat) (x1 : Int32) (M : oa_M) (o : Nat × Int32 × oa_M) (hf : FX4_write n x1 M = some o) : oa_Xi l yX4_write (oa_w yX4_write cX4_write 3 (some .int)) ({ frames := 7, cells := 2, slots := 12, locals := 110 } : Room) 2 D ca ad b0 [.ref (ad 0 0), .int x1] M o := cX4_write_k l hl0 D ca ad b0 hw n x1 M o hf
def FX4_written (n : Nat) (x1 : Int32) (M : oa_M) : Option (Int32 × oa_M) := (oa_bd (FX3_at n 1 x1 M) (fun r1 M2 => (some (oa_nc r1, M2))))
set_option maxHeartbeats 4000000 in
set_option maxRecDepth 100000 in
theorem cX4_written_k (l : Launch) (D : va_G) (ca : Nat → ClassId) (ad : Nat → Nat → Nat) (b0 : Nat) (hw : oa_W ad b0) (n : Nat) (x1 : Int32) (M : oa_M) (o : Int32 × oa_M) (hf : FX4_written n x1 M = some o) : oa_Mi l yX4_written (oa_w yX4_written cX4_written 2 (some .char)) ({ frames := 1, cells := 0, slots := 0, locals := 21 } : Room) D ca ad b0 [.ref (ad 0 0), .int x1] M o.1 o.2 := by
  refine oa_ofW (cc := cX4_written) (maxL := 2) (ret := some .char) (by decide) rfl (Nat.le_of_ble_eq_true rfl) ?_
  intro p e s m below meth c hx hb hml hr hlocks hown hts0 hP ls hl
  obtain ⟨hH, hE⟩ := hP
  have hts : ∀ w ∈ oa_T, w.before _ s = true := fun w h => hts0 w (List.mem_cons_of_mem _ h)
  have hS : va_S (fun q => b0 ≤ q) s.heap s.heap [] := va_S.rf
  have C : oa_Cx p s m _ meth c cX4_written 2 (some .char) RX4 D ca b0 ad := ⟨hx, hb, hml, hr, hlocks, hown, hts, hE, hw⟩
  have hl : lv_has ls 2 [(0, .ref (ad 0 0)), (1, .int x1)] := hl
  unfold FX4_written at hf
  refine lv_aload_n hx hb dX4_written_0 rfl (lv_at hl 0 rfl) ?_
  refine oa_get (ci := 4) (C := RX4) (T := TX4) (N := 9) (v := .ref (ad 1 1)) hx hb hts inX4 hown hE hH 0 0 (by decide) rfl rfl 1 (by decide) (hts _ tw_177) rfl dX4_written_1 ?_
  refine lv_iload_n hx hb dX4_written_4 rfl (lv_at hl 1 rfl) ?_
  obtain ⟨r1, M2, hc3, hf⟩ := oa_bdE hf
  refine oa_cvi (As := [.int x1]) (rest := []) ⟨hx, hb, hml, hown, hts⟩ (cX3_at_ok l D ca ad b0 hw n 1 (by decide) x1 _ _ _ hc3) (cwV 1 hts (oa_gV tw_238 tw_239 tw_240 tw_45 tw_241) rfl rfl rfl (by decide +kernel) ⟨Nat.le_of_ble_eq_true rfl, Nat.le_of_ble_eq_true rfl⟩) hE hH hS (oa_recv (k := 1) (ci := 3) hE hH (by decide) rfl rfl) rfl hl.1 rfl (Nat.le_of_ble_eq_true rfl) dX4_written_5 ⟨by decide, by decide⟩ (fun H locs hH hS => ?_)
  cases hf
  exact oa_reti hx hb hr hlocks rfl hS hH dX4_written_8
theorem cX4_written_ok (l : Launch) (D : va_G) (ca : Nat → ClassId) (ad : Nat → Nat → Nat) (b0 : Nat) (hw : oa_W ad b0) (n : Nat) (x1 : Int32) (M : oa_M) (r : Int32) (M' : oa_M) (hf : FX4_written n x1 M = some (r, M')) : oa_Mi l yX4_written (oa_w yX4_written cX4_written 2 (some .char)) ({ frames := 1, cells := 0, slots := 0, locals := 21 } : Room) D ca ad b0 [.ref (ad 0 0), .int x1] M r M' := cX4_written_k l D ca ad b0 hw n x1 M (r, M') hf
def BX4_readOperands_75 (rec2 : Nat → Int32 → oa_M → Option (Int32 × oa_M)) (n : Nat) (n1 : Nat) (x2 : Int32) (M : oa_M) : Option (Int32 × oa_M) := (oa_bd (FX3_left n 0 (oa_up M 9 n1 4 (x2 + (1 : Int32)))) (fun r1 M2 => (if r1 = 0 then (some ((1 : Int32), M2)) else (oa_bd (FX3_take n 0 (44 : Int32) M2) (fun r5 M6 => (if r5 = 0 then (some ((0 : Int32), M6)) else (rec2 n1 (x2 + (1 : Int32)) M6)))))))
def BX4_readOperands_74 (rec2 : Nat → Int32 → oa_M → Option (Int32 × oa_M)) (n : Nat) (n1 : Nat) (x2 : Int32) (x3 : Int32) (x4 : Int32) (k0 : Nat) (z1 : Int32) (z2 : Int32) (M : oa_M) : Option (Int32 × oa_M) := (if oa_in z1 3 = true then (BX4_readOperands_75 rec2 n n1 x2 (oa_up M 11 k0 z1.toNatClampNeg z2)) else none)
def BX4_readOperands_2 : Nat → Nat → Int32 → oa_M → Option (Int32 × oa_M)
  | 0, _, _, _ => none
  | n + 1, n1, x2, M => (if (3 : Int32) ≤ x2 then (some ((0 : Int32), M)) else (oa_bd (FX3_takeLabel n 0 M) (fun r2 M3 => (if oa_in x2 3 = true then (if oa_in x2 3 = true then (if ((oa_up M3 10 n1 x2.toNatClampNeg r2) 10 n1 x2.toNatClampNeg) = (-1 : Int32) then (oa_bd (FX3_take n 0 (45 : Int32) (oa_up M3 10 n1 x2.toNatClampNeg r2)) (fun r8 M9 => (oa_bd (FX3_takeDigits n 0 M9) (fun r11 M12 => (if r11 = (-1 : Int32) then (some ((0 : Int32), M12)) else (if r8 = 0 then (BX4_readOperands_74 (BX4_readOperands_2 n) n n1 x2 r8 r11 n1 x2 r11 M12) else (BX4_readOperands_74 (BX4_readOperands_2 n) n n1 x2 r8 r11 n1 x2 (-r11) M12))))))) else (BX4_readOperands_75 (BX4_readOperands_2 n) n n1 x2 (oa_up M3 10 n1 x2.toNatClampNeg r2))) else none) else none))))
def FX4_readOperands (n : Nat) (n1 : Nat) (M : oa_M) : Option (Int32 × oa_M) := (BX4_readOperands_2 n n1 (0 : Int32) M)
set_option maxHeartbeats 4000000 in
set_option maxRecDepth 100000 in
theorem bX4_readOperands_75 {p : Program} {l : Launch} {e : Env} {s : State} {m : MethodId} {args : Array Value} {below : List Frame} {meth : Method} {c : Code} {D : va_G} {ca : Nat → ClassId} {ad : Nat → Nat → Nat} {b0 : Nat} {o : Int32 × oa_M} (C : oa_Cx p s m args meth c cX4_readOperands 5 (some .boolean) RX4 D ca b0 ad) (rec2 : Nat → Int32 → oa_M → Option (Int32 × oa_M)) (hrec2 : ∀ (n1 : Nat) (hn1 : n1 < oa_n 9) (x2 : Int32) (M : oa_M), rec2 n1 x2 M = some o → ∀ (H : Heap) (locs : List Loc), oa_H D ca ad M H → va_S (fun q => b0 ≤ q) s.heap H locs → ∀ (ls : Array Slot), lv_has ls 5 [(0, .ref (ad 0 0)), (1, .ref (ad 9 n1)), (2, .int x2)] → W p l e ({ frames := 3, cells := 0, slots := 0, locals := 64 } : Room) s m args below meth c H locs 0 0 (MQ below (va_Qi (fun (r' : Int32) (u : oa_M) => r' = o.1 ∧ u = o.2) (fun u t => oa_H D ca ad u t.heap) (fun q => b0 ≤ q)) args s 0 0 (fun q => b0 ≤ q)) (F0 m 2 ls [])) : ∀ (n : Nat), ∀ (n1 : Nat) (hn1 : n1 < oa_n 9) (x2 : Int32) (M : oa_M), BX4_readOperands_75 rec2 n n1 x2 M = some o → ∀ (H : Heap) (locs : List Loc), oa_H D ca ad M H → va_S (fun q => b0 ≤ q) s.heap H locs → ∀ (ls : Array Slot), lv_has ls 5 [(0, .ref (ad 0 0)), (1, .ref (ad 9 n1)), (2, .int x2)] → W p l e ({ frames := 3, cells := 0, slots := 0, locals := 64 } : Room) s m args below meth c H locs 0 0 (MQ below (va_Qi (fun (r' : Int32) (u : oa_M) => r' = o.1 ∧ u = o.2) (fun u t => oa_H D ca ad u t.heap) (fun q => b0 ≤ q)) args s 0 0 (fun q => b0 ≤ q)) (F0 m 75 ls []) := by
  obtain ⟨hx, hb, hml, hr, hlocks, hown, hts, hE, hw⟩ := id C
  intro n n1 hn1 x2 M hf H locs hH hS ls hl
  unfold BX4_readOperands_75 at hf
  refine lv_aload_n hx hb dX4_readOperands_75 rfl (lv_at hl 1 rfl) ?_
  refine lv_iload_n hx hb dX4_readOperands_76 rfl (lv_at hl 2 rfl) ?_
  refine lv_iconst (v := (1 : Int32)) hx hb dX4_readOperands_77 (by decide) ?_
  refine lv_iadd hx hb dX4_readOperands_78 ?_
  refine oa_put (ci := 1) (C := RX1) (T := TX1) (N := 7) (v := .int (x2 + (1 : Int32))) (x := (x2 + (1 : Int32))) hx hb hts inX1 tyX1 tyX1_ok nmX1 hown hE hw hH hS 9 n1 hn1 rfl rfl 4 (by decide) (hts _ tw_158) rfl rfl rfl (Nat.le_of_ble_eq_true rfl) rfl dX4_readOperands_79 (fun H locs hH hS => ?_)
  refine lv_aload_n hx hb dX4_readOperands_82 rfl (lv_at hl 0 rfl) ?_
  refine oa_get (ci := 4) (C := RX4) (T := TX4) (N := 9) (v := .ref (ad 1 0)) hx hb hts inX4 hown hE hH 0 0 (by decide) rfl rfl 0 (by decide) (hts _ tw_176) rfl dX4_readOperands_83 ?_
  obtain ⟨r1, M2, hc3, hf⟩ := oa_bdE hf
  refine oa_cvi (As := []) (rest := []) ⟨hx, hb, hml, hown, hts⟩ (cX3_left_ok l D ca ad b0 hw n 0 (by decide) _ _ _ hc3) (cwV 0 hts (oa_gV tw_284 tw_285 tw_286 tw_45 tw_287) rfl rfl rfl (by decide +kernel) ⟨Nat.le_of_ble_eq_true rfl, Nat.le_of_ble_eq_true rfl⟩) hE hH hS (oa_recv (k := 1) (ci := 3) hE hH (by decide) rfl rfl) rfl hl.1 rfl (Nat.le_of_ble_eq_true rfl) dX4_readOperands_86 ⟨by decide, by decide⟩ (fun H locs hH hS => ?_)
  refine lv_if_ne (tgt := 94) hx hb dX4_readOperands_89 (by decide) (fun hq4 => ?_) (fun hq4 => ?_)
  · rw [if_neg hq4] at hf
    refine lv_aload_n hx hb dX4_readOperands_94 rfl (lv_at hl 0 rfl) ?_
    refine oa_get (ci := 4) (C := RX4) (T := TX4) (N := 9) (v := .ref (ad 1 0)) hx hb hts inX4 hown hE hH 0 0 (by decide) rfl rfl 0 (by decide) (hts _ tw_176) rfl dX4_readOperands_95 ?_
    refine lv_bipush (v := (44 : Int32)) hx hb dX4_readOperands_98 (by decide) ?_
    obtain ⟨r5, M6, hc7, hf⟩ := oa_bdE hf
    refine oa_cvi (As := [.int (44 : Int32)]) (rest := []) ⟨hx, hb, hml, hown, hts⟩ (cX3_take_ok l D ca ad b0 hw n 0 (by decide) (44 : Int32) _ _ _ hc7) (cwV 1 hts (oa_gV tw_280 tw_281 tw_282 tw_45 tw_283) rfl rfl rfl (by decide +kernel) ⟨Nat.le_of_ble_eq_true rfl, Nat.le_of_ble_eq_true rfl⟩) hE hH hS (oa_recv (k := 1) (ci := 3) hE hH (by decide) rfl rfl) rfl hl.1 rfl (Nat.le_of_ble_eq_true rfl) dX4_readOperands_100 ⟨by decide, by decide⟩ (fun H locs hH hS => ?_)
    refine lv_if_ne (tgt := 108) hx hb dX4_readOperands_103 (by decide) (fun hq8 => ?_) (fun hq8 => ?_)
    · rw [if_neg hq8] at hf
      refine lv_iinc (v := (x2 + (1 : Int32))) (lv' := [(2, .int (x2 + (1 : Int32))), (0, .ref (ad 0 0)), (1, .ref (ad 9 n1))]) hx hb dX4_readOperands_108 hl (k := 2) rfl rfl (by decide) rfl (fun ls hl => ?_)
      refine lv_goto (tgt := 2) hx hb dX4_readOperands_111 (by decide) ?_
      exact hrec2 n1 hn1 (x2 + (1 : Int32)) _ hf _ _ hH hS _ (lv_sub hl [1, 2, 0] rfl)
    · rw [if_pos hq8] at hf
      refine lv_iconst (v := (0 : Int32)) hx hb dX4_readOperands_106 (by decide) ?_
      cases hf
      exact oa_reti hx hb hr hlocks rfl hS hH dX4_readOperands_107
  · rw [if_pos hq4] at hf
    refine lv_iconst (v := (1 : Int32)) hx hb dX4_readOperands_92 (by decide) ?_
    cases hf
    exact oa_reti hx hb hr hlocks rfl hS hH dX4_readOperands_93
set_option maxHeartbeats 4000000 in
set_option maxRecDepth 100000 in
theorem bX4_readOperands_74 {p : Program} {l : Launch} {e : Env} {s : State} {m : MethodId} {args : Array Value} {below : List Frame} {meth : Method} {c : Code} {D : va_G} {ca : Nat → ClassId} {ad : Nat → Nat → Nat} {b0 : Nat} {o : Int32 × oa_M} (C : oa_Cx p s m args meth c cX4_readOperands 5 (some .boolean) RX4 D ca b0 ad) (rec2 : Nat → Int32 → oa_M → Option (Int32 × oa_M)) (hrec2 : ∀ (n1 : Nat) (hn1 : n1 < oa_n 9) (x2 : Int32) (M : oa_M), rec2 n1 x2 M = some o → ∀ (H : Heap) (locs : List Loc), oa_H D ca ad M H → va_S (fun q => b0 ≤ q) s.heap H locs → ∀ (ls : Array Slot), lv_has ls 5 [(0, .ref (ad 0 0)), (1, .ref (ad 9 n1)), (2, .int x2)] → W p l e ({ frames := 3, cells := 0, slots := 0, locals := 64 } : Room) s m args below meth c H locs 0 0 (MQ below (va_Qi (fun (r' : Int32) (u : oa_M) => r' = o.1 ∧ u = o.2) (fun u t => oa_H D ca ad u t.heap) (fun q => b0 ≤ q)) args s 0 0 (fun q => b0 ≤ q)) (F0 m 2 ls [])) : ∀ (n : Nat), ∀ (n1 : Nat) (hn1 : n1 < oa_n 9) (x2 : Int32) (x3 : Int32) (x4 : Int32) (k0 : Nat) (hk0 : k0 < oa_n 11) (z1 : Int32) (z2 : Int32) (M : oa_M), BX4_readOperands_74 rec2 n n1 x2 x3 x4 k0 z1 z2 M = some o → ∀ (H : Heap) (locs : List Loc), oa_H D ca ad M H → va_S (fun q => b0 ≤ q) s.heap H locs → ∀ (ls : Array Slot), lv_has ls 5 [(0, .ref (ad 0 0)), (1, .ref (ad 9 n1)), (2, .int x2), (3, .int x3), (4, .int x4)] → W p l e ({ frames := 3, cells := 0, slots := 0, locals := 64 } : Room) s m args below meth c H locs 0 0 (MQ below (va_Qi (fun (r' : Int32) (u : oa_M) => r' = o.1 ∧ u = o.2) (fun u t => oa_H D ca ad u t.heap) (fun q => b0 ≤ q)) args s 0 0 (fun q => b0 ≤ q)) (F0 m 74 ls [.int z2, .int z1, .ref (ad 11 k0)]) := by
  obtain ⟨hx, hb, hml, hr, hlocks, hown, hts, hE, hw⟩ := id C
  intro n n1 hn1 x2 x3 x4 k0 hk0 z1 z2 M hf H locs hH hS ls hl
  unfold BX4_readOperands_74 at hf
  obtain ⟨hk1, hf⟩ := oa_ck hf
  refine oa_ist hx hb hE hw hH hS 11 k0 hk0 3 (fun _ => rfl) (oa_in_vp hk1) dX4_readOperands_74 (fun H locs hH hS => ?_)
  exact bX4_readOperands_75 C _ hrec2 n n1 hn1 x2 _ hf _ _ hH hS _ (lv_sub hl [0, 1, 2] rfl)
set_option maxHeartbeats 4000000 in
set_option maxRecDepth 100000 in
theorem bX4_readOperands_2 {p : Program} {l : Launch} {e : Env} {s : State} {m : MethodId} {args : Array Value} {below : List Frame} {meth : Method} {c : Code} {D : va_G} {ca : Nat → ClassId} {ad : Nat → Nat → Nat} {b0 : Nat} {o : Int32 × oa_M} (C : oa_Cx p s m args meth c cX4_readOperands 5 (some .boolean) RX4 D ca b0 ad) : ∀ (n : Nat), ∀ (n1 : Nat) (hn1 : n1 < oa_n 9) (x2 : Int32) (M : oa_M), BX4_readOperands_2 n n1 x2 M = some o → ∀ (H : Heap) (locs : List Loc), oa_H D ca ad M H → va_S (fun q => b0 ≤ q) s.heap H locs → ∀ (ls : Array Slot), lv_has ls 5 [(0, .ref (ad 0 0)), (1, .ref (ad 9 n1)), (2, .int x2)] → W p l e ({ frames := 3, cells := 0, slots := 0, locals := 64 } : Room) s m args below meth c H locs 0 0 (MQ below (va_Qi (fun (r' : Int32) (u : oa_M) => r' = o.1 ∧ u = o.2) (fun u t => oa_H D ca ad u t.heap) (fun q => b0 ≤ q)) args s 0 0 (fun q => b0 ≤ q)) (F0 m 2 ls []) := by
  obtain ⟨hx, hb, hml, hr, hlocks, hown, hts, hE, hw⟩ := id C
  intro n
  induction n with
  | zero => intro n1 hn1 x2 M hf; cases hf
  | succ n ih =>
    intro n1 hn1 x2 M hf H locs hH hS ls hl
    have hrec2 := ih
    unfold BX4_readOperands_2 at hf
    refine lv_iload_n hx hb dX4_readOperands_2 rfl (lv_at hl 2 rfl) ?_
    refine lv_iconst (v := (3 : Int32)) hx hb dX4_readOperands_3 (by decide) ?_
    refine lv_icmp_ge (tgt := 114) hx hb dX4_readOperands_4 (by decide) (fun hq1 => ?_) (fun hq1 => ?_)
    · rw [if_pos hq1] at hf
      refine lv_iconst (v := (0 : Int32)) hx hb dX4_readOperands_114 (by decide) ?_
      cases hf
      exact oa_reti hx hb hr hlocks rfl hS hH dX4_readOperands_115
    · rw [if_neg hq1] at hf
      refine lv_aload_n hx hb dX4_readOperands_7 rfl (lv_at hl 1 rfl) ?_
      refine oa_get (ci := 1) (C := RX1) (T := TX1) (N := 7) (v := .ref (ad 10 n1)) hx hb hts inX1 hown hE hH 9 n1 hn1 rfl rfl 0 (by decide) (hts _ tw_153) rfl dX4_readOperands_8 ?_
      refine lv_iload_n hx hb dX4_readOperands_11 rfl (lv_at hl 2 rfl) ?_
      refine lv_aload_n hx hb dX4_readOperands_12 rfl (lv_at hl 0 rfl) ?_
      refine oa_get (ci := 4) (C := RX4) (T := TX4) (N := 9) (v := .ref (ad 1 0)) hx hb hts inX4 hown hE hH 0 0 (by decide) rfl rfl 0 (by decide) (hts _ tw_176) rfl dX4_readOperands_13 ?_
      obtain ⟨r2, M3, hc4, hf⟩ := oa_bdE hf
      refine oa_cvi (As := []) (rest := [.int x2, .ref (ad 10 n1)]) ⟨hx, hb, hml, hown, hts⟩ (cX3_takeLabel_ok l D ca ad b0 hw n 0 (by decide) _ _ _ hc4) (cwV 0 hts (oa_gV tw_524 tw_525 tw_526 tw_45 tw_527) rfl rfl rfl (by decide +kernel) ⟨Nat.le_of_ble_eq_true rfl, Nat.le_of_ble_eq_true rfl⟩) hE hH hS (oa_recv (k := 1) (ci := 3) hE hH (by decide) rfl rfl) rfl hl.1 rfl (Nat.le_of_ble_eq_true rfl) dX4_readOperands_16 ⟨by decide, by decide⟩ (fun H locs hH hS => ?_)
      obtain ⟨hk5, hf⟩ := oa_ck hf
      refine oa_ist hx hb hE hw hH hS 10 n1 hn1 3 (fun _ => rfl) (oa_in_vp hk5) dX4_readOperands_19 (fun H locs hH hS => ?_)
      refine lv_aload_n hx hb dX4_readOperands_20 rfl (lv_at hl 1 rfl) ?_
      refine oa_get (ci := 1) (C := RX1) (T := TX1) (N := 7) (v := .ref (ad 10 n1)) hx hb hts inX1 hown hE hH 9 n1 hn1 rfl rfl 0 (by decide) (hts _ tw_153) rfl dX4_readOperands_21 ?_
      refine lv_iload_n hx hb dX4_readOperands_24 rfl (lv_at hl 2 rfl) ?_
      obtain ⟨hk6, hf⟩ := oa_ck hf
      refine oa_ild (v := ((oa_up M3 10 n1 x2.toNatClampNeg r2) 10 n1 x2.toNatClampNeg)) hx hb hE hH 10 n1 hn1 3 rfl rfl (oa_in_vp hk6) dX4_readOperands_25 ?_
      refine lv_iconst (v := (-1 : Int32)) hx hb dX4_readOperands_26 (by decide) ?_
      refine lv_icmp_ne (tgt := 75) hx hb dX4_readOperands_27 (by decide) (fun hq7 => ?_) (fun hq7 => ?_)
      · rw [if_neg hq7] at hf
        exact bX4_readOperands_75 C _ hrec2 n n1 hn1 x2 _ hf _ _ hH hS _ (lv_sub hl [0, 1, 2] rfl)
      · rw [if_pos hq7] at hf
        refine lv_aload_n hx hb dX4_readOperands_30 rfl (lv_at hl 0 rfl) ?_
        refine oa_get (ci := 4) (C := RX4) (T := TX4) (N := 9) (v := .ref (ad 1 0)) hx hb hts inX4 hown hE hH 0 0 (by decide) rfl rfl 0 (by decide) (hts _ tw_176) rfl dX4_readOperands_31 ?_
        refine lv_bipush (v := (45 : Int32)) hx hb dX4_readOperands_34 (by decide) ?_
        obtain ⟨r8, M9, hc10, hf⟩ := oa_bdE hf
        refine oa_cvi (As := [.int (45 : Int32)]) (rest := []) ⟨hx, hb, hml, hown, hts⟩ (cX3_take_ok l D ca ad b0 hw n 0 (by decide) (45 : Int32) _ _ _ hc10) (cwV 1 hts (oa_gV tw_280 tw_281 tw_282 tw_45 tw_283) rfl rfl rfl (by decide +kernel) ⟨Nat.le_of_ble_eq_true rfl, Nat.le_of_ble_eq_true rfl⟩) hE hH hS (oa_recv (k := 1) (ci := 3) hE hH (by decide) rfl rfl) rfl hl.1 rfl (Nat.le_of_ble_eq_true rfl) dX4_readOperands_36 ⟨by decide, by decide⟩ (fun H locs hH hS => ?_)
        refine lv_istore_n (lv' := [(3, .int r8), (0, .ref (ad 0 0)), (1, .ref (ad 9 n1)), (2, .int x2)]) hx hb dX4_readOperands_39 rfl hl (by decide) rfl (fun ls hl => ?_)
        refine lv_aload_n hx hb dX4_readOperands_40 rfl (lv_at hl 1 rfl) ?_
        refine oa_get (ci := 4) (C := RX4) (T := TX4) (N := 9) (v := .ref (ad 1 0)) hx hb hts inX4 hown hE hH 0 0 (by decide) rfl rfl 0 (by decide) (hts _ tw_176) rfl dX4_readOperands_41 ?_
        obtain ⟨r11, M12, hc13, hf⟩ := oa_bdE hf
        refine oa_cvi (As := []) (rest := []) ⟨hx, hb, hml, hown, hts⟩ (cX3_takeDigits_ok l D ca ad b0 hw n 0 (by decide) _ _ _ hc13) (cwV 0 hts (oa_gV tw_532 tw_533 tw_534 tw_45 tw_535) rfl rfl rfl (by decide +kernel) ⟨Nat.le_of_ble_eq_true rfl, Nat.le_of_ble_eq_true rfl⟩) hE hH hS (oa_recv (k := 1) (ci := 3) hE hH (by decide) rfl rfl) rfl hl.1 rfl (Nat.le_of_ble_eq_true rfl) dX4_readOperands_44 ⟨by decide, by decide⟩ (fun H locs hH hS => ?_)
        refine lv_istore (lv' := [(4, .int r11), (3, .int r8), (0, .ref (ad 0 0)), (1, .ref (ad 9 n1)), (2, .int x2)]) hx hb dX4_readOperands_47 hl (by decide) rfl (fun ls hl => ?_)
        refine lv_iload hx hb dX4_readOperands_49 (lv_at hl 0 rfl) ?_
        refine lv_iconst (v := (-1 : Int32)) hx hb dX4_readOperands_51 (by decide) ?_
        refine lv_icmp_ne (tgt := 57) hx hb dX4_readOperands_52 (by decide) (fun hq14 => ?_) (fun hq14 => ?_)
        · rw [if_neg hq14] at hf
          refine lv_aload_n hx hb dX4_readOperands_57 rfl (lv_at hl 3 rfl) ?_
          refine oa_get (ci := 1) (C := RX1) (T := TX1) (N := 7) (v := .ref (ad 11 n1)) hx hb hts inX1 hown hE hH 9 n1 hn1 rfl rfl 1 (by decide) (hts _ tw_155) rfl dX4_readOperands_58 ?_
          refine lv_iload_n hx hb dX4_readOperands_61 rfl (lv_at hl 4 rfl) ?_
          refine lv_iload_n hx hb dX4_readOperands_62 rfl (lv_at hl 1 rfl) ?_
          refine lv_if_eq (tgt := 72) hx hb dX4_readOperands_63 (by decide) (fun hq15 => ?_) (fun hq15 => ?_)
          · rw [if_pos hq15] at hf
            refine lv_iload hx hb dX4_readOperands_72 (lv_at hl 0 rfl) ?_
            exact bX4_readOperands_74 C _ hrec2 n n1 hn1 x2 r8 r11 n1 hn1 x2 r11 _ hf _ _ hH hS _ (lv_sub hl [2, 3, 4, 1, 0] rfl)
          · rw [if_neg hq15] at hf
            refine lv_iload hx hb dX4_readOperands_66 (lv_at hl 0 rfl) ?_
            refine lv_ineg hx hb dX4_readOperands_68 ?_
            refine lv_goto (tgt := 74) hx hb dX4_readOperands_69 (by decide) ?_
            exact bX4_readOperands_74 C _ hrec2 n n1 hn1 x2 r8 r11 n1 hn1 x2 (-r11) _ hf _ _ hH hS _ (lv_sub hl [2, 3, 4, 1, 0] rfl)
        · rw [if_pos hq14] at hf
          refine lv_iconst (v := (0 : Int32)) hx hb dX4_readOperands_55 (by decide) ?_
          cases hf
          exact oa_reti hx hb hr hlocks rfl hS hH dX4_readOperands_56
set_option maxHeartbeats 4000000 in
set_option maxRecDepth 100000 in
theorem cX4_readOperands_k (l : Launch) (D : va_G) (ca : Nat → ClassId) (ad : Nat → Nat → Nat) (b0 : Nat) (hw : oa_W ad b0) (n : Nat) (n1 : Nat) (hn1 : n1 < oa_n 9) (M : oa_M) (o : Int32 × oa_M) (hf : FX4_readOperands n n1 M = some o) : oa_Mi l yX4_readOperands (oa_w yX4_readOperands cX4_readOperands 5 (some .boolean)) ({ frames := 3, cells := 0, slots := 0, locals := 64 } : Room) D ca ad b0 [.ref (ad 0 0), .ref (ad 9 n1)] M o.1 o.2 := by
  refine oa_ofW (cc := cX4_readOperands) (maxL := 5) (ret := some .boolean) (by decide) rfl (Nat.le_of_ble_eq_true rfl) ?_
  intro p e s m below meth c hx hb hml hr hlocks hown hts0 hP ls hl
  obtain ⟨hH, hE⟩ := hP
  have hts : ∀ w ∈ oa_T, w.before _ s = true := fun w h => hts0 w (List.mem_cons_of_mem _ h)
  have hS : va_S (fun q => b0 ≤ q) s.heap s.heap [] := va_S.rf
  have C : oa_Cx p s m _ meth c cX4_readOperands 5 (some .boolean) RX4 D ca b0 ad := ⟨hx, hb, hml, hr, hlocks, hown, hts, hE, hw⟩
  have hl : lv_has ls 5 [(0, .ref (ad 0 0)), (1, .ref (ad 9 n1))] := hl
  unfold FX4_readOperands at hf
  refine lv_iconst (v := (0 : Int32)) hx hb dX4_readOperands_0 (by decide) ?_
  refine lv_istore_n (lv' := [(2, .int (0 : Int32)), (0, .ref (ad 0 0)), (1, .ref (ad 9 n1))]) hx hb dX4_readOperands_1 rfl hl (by decide) rfl (fun ls hl => ?_)
  exact bX4_readOperands_2 C n n1 hn1 (0 : Int32) _ hf _ _ hH hS _ (lv_sub hl [1, 2, 0] rfl)
theorem cX4_readOperands_ok (l : Launch) (D : va_G) (ca : Nat → ClassId) (ad : Nat → Nat → Nat) (b0 : Nat) (hw : oa_W ad b0) (n : Nat) (n1 : Nat) (hn1 : n1 < oa_n 9) (M : oa_M) (r : Int32) (M' : oa_M) (hf : FX4_readOperands n n1 M = some (r, M')) : oa_Mi l yX4_readOperands (oa_w yX4_readOperands cX4_readOperands 5 (some .boolean)) ({ frames := 3, cells := 0, slots := 0, locals := 64 } : Room) D ca ad b0 [.ref (ad 0 0), .ref (ad 9 n1)] M r M' := cX4_readOperands_k l D ca ad b0 hw n n1 hn1 M (r, M') hf
def BX4_readLine_110 (n : Nat) (n1 : Nat) (z0 : Int32) (M : oa_M) : Option (Int32 × oa_M) := (some (oa_nz z0, M))
def BX4_readLine_109 (n : Nat) (n1 : Nat) (M : oa_M) : Option (Int32 × oa_M) := (BX4_readLine_110 n n1 (0 : Int32) M)
def BX4_readLine_105 (n : Nat) (n1 : Nat) (M : oa_M) : Option (Int32 × oa_M) := (BX4_readLine_110 n n1 (1 : Int32) M)
def BX4_readLine_55 (n : Nat) (n1 : Nat) (M : oa_M) : Option (Int32 × oa_M) := (oa_bd (FX3_takeName n 0 M) (fun r1 M2 => (if ((oa_up M2 9 n1 3 r1) 9 n1 3) = 0 then (some ((0 : Int32), (oa_up M2 9 n1 3 r1))) else (oa_bd (FX3_left n 0 (oa_up M2 9 n1 3 r1)) (fun r5 M6 => (if r5 = 0 then (BX4_readLine_105 n n1 M6) else (oa_bd (FX3_take n 0 (32 : Int32) M6) (fun r9 M10 => (if r9 = 0 then (BX4_readLine_109 n n1 M10) else (oa_bd (FX4_readOperands n n1 M10) (fun r13 M14 => (if r13 = 0 then (BX4_readLine_109 n n1 M14) else (BX4_readLine_105 n n1 M14)))))))))))))
def FX4_readLine (n : Nat) (n1 : Nat) (M : oa_M) : Option (Int32 × oa_M) := (oa_bd (FX3_takeLabel n 0 (oa_up (oa_up M 9 n1 3 (0 : Int32)) 9 n1 4 (0 : Int32))) (fun r1 M2 => (if ((oa_up M2 9 n1 2 r1) 9 n1 2) = (-1 : Int32) then (BX4_readLine_55 n n1 (oa_up M2 9 n1 2 r1)) else (oa_bd (FX3_take n 0 (58 : Int32) (oa_up M2 9 n1 2 r1)) (fun r5 M6 => (if r5 = 0 then (some ((0 : Int32), M6)) else (oa_bd (FX3_left n 0 M6) (fun r9 M10 => (if r9 = 0 then (some ((1 : Int32), M10)) else (BX4_readLine_55 n n1 M10))))))))))
set_option maxHeartbeats 4000000 in
set_option maxRecDepth 100000 in
theorem bX4_readLine_110 {p : Program} {l : Launch} {e : Env} {s : State} {m : MethodId} {args : Array Value} {below : List Frame} {meth : Method} {c : Code} {D : va_G} {ca : Nat → ClassId} {ad : Nat → Nat → Nat} {b0 : Nat} {o : Int32 × oa_M} (C : oa_Cx p s m args meth c cX4_readLine 2 (some .boolean) RX4 D ca b0 ad) : ∀ (n : Nat), ∀ (n1 : Nat) (hn1 : n1 < oa_n 9) (z0 : Int32) (M : oa_M), BX4_readLine_110 n n1 z0 M = some o → ∀ (H : Heap) (locs : List Loc), oa_H D ca ad M H → va_S (fun q => b0 ≤ q) s.heap H locs → ∀ (ls : Array Slot), lv_has ls 2 [(0, .ref (ad 0 0)), (1, .ref (ad 9 n1))] → W p l e ({ frames := 4, cells := 0, slots := 0, locals := 88 } : Room) s m args below meth c H locs 0 0 (MQ below (va_Qi (fun (r' : Int32) (u : oa_M) => r' = o.1 ∧ u = o.2) (fun u t => oa_H D ca ad u t.heap) (fun q => b0 ≤ q)) args s 0 0 (fun q => b0 ≤ q)) (F0 m 110 ls [.int z0]) := by
  obtain ⟨hx, hb, hml, hr, hlocks, hown, hts, hE, hw⟩ := id C
  intro n n1 hn1 z0 M hf H locs hH hS ls hl
  unfold BX4_readLine_110 at hf
  cases hf
  exact oa_reti hx hb hr hlocks rfl hS hH dX4_readLine_110
set_option maxHeartbeats 4000000 in
set_option maxRecDepth 100000 in
theorem bX4_readLine_109 {p : Program} {l : Launch} {e : Env} {s : State} {m : MethodId} {args : Array Value} {below : List Frame} {meth : Method} {c : Code} {D : va_G} {ca : Nat → ClassId} {ad : Nat → Nat → Nat} {b0 : Nat} {o : Int32 × oa_M} (C : oa_Cx p s m args meth c cX4_readLine 2 (some .boolean) RX4 D ca b0 ad) : ∀ (n : Nat), ∀ (n1 : Nat) (hn1 : n1 < oa_n 9) (M : oa_M), BX4_readLine_109 n n1 M = some o → ∀ (H : Heap) (locs : List Loc), oa_H D ca ad M H → va_S (fun q => b0 ≤ q) s.heap H locs → ∀ (ls : Array Slot), lv_has ls 2 [(0, .ref (ad 0 0)), (1, .ref (ad 9 n1))] → W p l e ({ frames := 4, cells := 0, slots := 0, locals := 88 } : Room) s m args below meth c H locs 0 0 (MQ below (va_Qi (fun (r' : Int32) (u : oa_M) => r' = o.1 ∧ u = o.2) (fun u t => oa_H D ca ad u t.heap) (fun q => b0 ≤ q)) args s 0 0 (fun q => b0 ≤ q)) (F0 m 109 ls []) := by
  obtain ⟨hx, hb, hml, hr, hlocks, hown, hts, hE, hw⟩ := id C
  intro n n1 hn1 M hf H locs hH hS ls hl
  unfold BX4_readLine_109 at hf
  refine lv_iconst (v := (0 : Int32)) hx hb dX4_readLine_109 (by decide) ?_
  exact bX4_readLine_110 C n n1 hn1 (0 : Int32) _ hf _ _ hH hS _ (lv_sub hl [0, 1] rfl)
set_option maxHeartbeats 4000000 in
set_option maxRecDepth 100000 in
theorem bX4_readLine_105 {p : Program} {l : Launch} {e : Env} {s : State} {m : MethodId} {args : Array Value} {below : List Frame} {meth : Method} {c : Code} {D : va_G} {ca : Nat → ClassId} {ad : Nat → Nat → Nat} {b0 : Nat} {o : Int32 × oa_M} (C : oa_Cx p s m args meth c cX4_readLine 2 (some .boolean) RX4 D ca b0 ad) : ∀ (n : Nat), ∀ (n1 : Nat) (hn1 : n1 < oa_n 9) (M : oa_M), BX4_readLine_105 n n1 M = some o → ∀ (H : Heap) (locs : List Loc), oa_H D ca ad M H → va_S (fun q => b0 ≤ q) s.heap H locs → ∀ (ls : Array Slot), lv_has ls 2 [(0, .ref (ad 0 0)), (1, .ref (ad 9 n1))] → W p l e ({ frames := 4, cells := 0, slots := 0, locals := 88 } : Room) s m args below meth c H locs 0 0 (MQ below (va_Qi (fun (r' : Int32) (u : oa_M) => r' = o.1 ∧ u = o.2) (fun u t => oa_H D ca ad u t.heap) (fun q => b0 ≤ q)) args s 0 0 (fun q => b0 ≤ q)) (F0 m 105 ls []) := by
  obtain ⟨hx, hb, hml, hr, hlocks, hown, hts, hE, hw⟩ := id C
  intro n n1 hn1 M hf H locs hH hS ls hl
  unfold BX4_readLine_105 at hf
  refine lv_iconst (v := (1 : Int32)) hx hb dX4_readLine_105 (by decide) ?_
  refine lv_goto (tgt := 110) hx hb dX4_readLine_106 (by decide) ?_
  exact bX4_readLine_110 C n n1 hn1 (1 : Int32) _ hf _ _ hH hS _ (lv_sub hl [0, 1] rfl)
set_option maxHeartbeats 4000000 in
set_option maxRecDepth 100000 in
theorem bX4_readLine_55 {p : Program} {l : Launch} {e : Env} {s : State} {m : MethodId} {args : Array Value} {below : List Frame} {meth : Method} {c : Code} {D : va_G} {ca : Nat → ClassId} {ad : Nat → Nat → Nat} {b0 : Nat} {o : Int32 × oa_M} (C : oa_Cx p s m args meth c cX4_readLine 2 (some .boolean) RX4 D ca b0 ad) : ∀ (n : Nat), ∀ (n1 : Nat) (hn1 : n1 < oa_n 9) (M : oa_M), BX4_readLine_55 n n1 M = some o → ∀ (H : Heap) (locs : List Loc), oa_H D ca ad M H → va_S (fun q => b0 ≤ q) s.heap H locs → ∀ (ls : Array Slot), lv_has ls 2 [(0, .ref (ad 0 0)), (1, .ref (ad 9 n1))] → W p l e ({ frames := 4, cells := 0, slots := 0, locals := 88 } : Room) s m args below meth c H locs 0 0 (MQ below (va_Qi (fun (r' : Int32) (u : oa_M) => r' = o.1 ∧ u = o.2) (fun u t => oa_H D ca ad u t.heap) (fun q => b0 ≤ q)) args s 0 0 (fun q => b0 ≤ q)) (F0 m 55 ls []) := by
  obtain ⟨hx, hb, hml, hr, hlocks, hown, hts, hE, hw⟩ := id C
  intro n n1 hn1 M hf H locs hH hS ls hl
  unfold BX4_readLine_55 at hf
  refine lv_aload_n hx hb dX4_readLine_55 rfl (lv_at hl 1 rfl) ?_
  refine lv_aload_n hx hb dX4_readLine_56 rfl (lv_at hl 0 rfl) ?_
  refine oa_get (ci := 4) (C := RX4) (T := TX4) (N := 9) (v := .ref (ad 1 0)) hx hb hts inX4 hown hE hH 0 0 (by decide) rfl rfl 0 (by decide) (hts _ tw_176) rfl dX4_readLine_57 ?_
  obtain ⟨r1, M2, hc3, hf⟩ := oa_bdE hf
  refine oa_cvi (As := []) (rest := [.ref (ad 9 n1)]) ⟨hx, hb, hml, hown, hts⟩ (cX3_takeName_ok l D ca ad b0 hw n 0 (by decide) _ _ _ hc3) (cwV 0 hts (oa_gV tw_267 tw_268 tw_269 tw_45 tw_270) rfl rfl rfl (by decide +kernel) ⟨Nat.le_of_ble_eq_true rfl, Nat.le_of_ble_eq_true rfl⟩) hE hH hS (oa_recv (k := 1) (ci := 3) hE hH (by decide) rfl rfl) rfl hl.1 rfl (Nat.le_of_ble_eq_true rfl) dX4_readLine_60 ⟨by decide, by decide⟩ (fun H locs hH hS => ?_)
  refine oa_put (ci := 1) (C := RX1) (T := TX1) (N := 7) (v := .int r1) (x := r1) hx hb hts inX1 tyX1 tyX1_ok nmX1 hown hE hw hH hS 9 n1 hn1 rfl rfl 3 (by decide) (hts _ tw_157) rfl rfl rfl (Nat.le_of_ble_eq_true rfl) rfl dX4_readLine_63 (fun H locs hH hS => ?_)
  refine lv_aload_n hx hb dX4_readLine_66 rfl (lv_at hl 1 rfl) ?_
  refine oa_get (ci := 1) (C := RX1) (T := TX1) (N := 7) (v := .int ((oa_up M2 9 n1 3 r1) 9 n1 3)) hx hb hts inX1 hown hE hH 9 n1 hn1 rfl rfl 3 (by decide) (hts _ tw_157) rfl dX4_readLine_67 ?_
  refine lv_if_ne (tgt := 75) hx hb dX4_readLine_70 (by decide) (fun hq4 => ?_) (fun hq4 => ?_)
  · rw [if_neg hq4] at hf
    refine lv_aload_n hx hb dX4_readLine_75 rfl (lv_at hl 0 rfl) ?_
    refine oa_get (ci := 4) (C := RX4) (T := TX4) (N := 9) (v := .ref (ad 1 0)) hx hb hts inX4 hown hE hH 0 0 (by decide) rfl rfl 0 (by decide) (hts _ tw_176) rfl dX4_readLine_76 ?_
    obtain ⟨r5, M6, hc7, hf⟩ := oa_bdE hf
    refine oa_cvi (As := []) (rest := []) ⟨hx, hb, hml, hown, hts⟩ (cX3_left_ok l D ca ad b0 hw n 0 (by decide) _ _ _ hc7) (cwV 0 hts (oa_gV tw_284 tw_285 tw_286 tw_45 tw_287) rfl rfl rfl (by decide +kernel) ⟨Nat.le_of_ble_eq_true rfl, Nat.le_of_ble_eq_true rfl⟩) hE hH hS (oa_recv (k := 1) (ci := 3) hE hH (by decide) rfl rfl) rfl hl.1 rfl (Nat.le_of_ble_eq_true rfl) dX4_readLine_79 ⟨by decide, by decide⟩ (fun H locs hH hS => ?_)
    refine lv_if_eq (tgt := 105) hx hb dX4_readLine_82 (by decide) (fun hq8 => ?_) (fun hq8 => ?_)
    · rw [if_pos hq8] at hf
      exact bX4_readLine_105 C n n1 hn1 _ hf _ _ hH hS _ (lv_sub hl [0, 1] rfl)
    · rw [if_neg hq8] at hf
      refine lv_aload_n hx hb dX4_readLine_85 rfl (lv_at hl 0 rfl) ?_
      refine oa_get (ci := 4) (C := RX4) (T := TX4) (N := 9) (v := .ref (ad 1 0)) hx hb hts inX4 hown hE hH 0 0 (by decide) rfl rfl 0 (by decide) (hts _ tw_176) rfl dX4_readLine_86 ?_
      refine lv_bipush (v := (32 : Int32)) hx hb dX4_readLine_89 (by decide) ?_
      obtain ⟨r9, M10, hc11, hf⟩ := oa_bdE hf
      refine oa_cvi (As := [.int (32 : Int32)]) (rest := []) ⟨hx, hb, hml, hown, hts⟩ (cX3_take_ok l D ca ad b0 hw n 0 (by decide) (32 : Int32) _ _ _ hc11) (cwV 1 hts (oa_gV tw_280 tw_281 tw_282 tw_45 tw_283) rfl rfl rfl (by decide +kernel) ⟨Nat.le_of_ble_eq_true rfl, Nat.le_of_ble_eq_true rfl⟩) hE hH hS (oa_recv (k := 1) (ci := 3) hE hH (by decide) rfl rfl) rfl hl.1 rfl (Nat.le_of_ble_eq_true rfl) dX4_readLine_91 ⟨by decide, by decide⟩ (fun H locs hH hS => ?_)
      refine lv_if_eq (tgt := 109) hx hb dX4_readLine_94 (by decide) (fun hq12 => ?_) (fun hq12 => ?_)
      · rw [if_pos hq12] at hf
        exact bX4_readLine_109 C n n1 hn1 _ hf _ _ hH hS _ (lv_sub hl [0, 1] rfl)
      · rw [if_neg hq12] at hf
        refine lv_aload_n hx hb dX4_readLine_97 rfl (lv_at hl 0 rfl) ?_
        refine lv_aload_n hx hb dX4_readLine_98 rfl (lv_at hl 1 rfl) ?_
        obtain ⟨r13, M14, hc15, hf⟩ := oa_bdE hf
        refine oa_cvi (As := [.ref (ad 9 n1)]) (rest := []) ⟨hx, hb, hml, hown, hts⟩ (cX4_readOperands_ok l D ca ad b0 hw n n1 hn1 _ _ _ hc15) (cwV 1 hts (oa_gV tw_528 tw_530 tw_10 tw_44 tw_531) rfl rfl rfl (by decide +kernel) ⟨Nat.le_of_ble_eq_true rfl, Nat.le_of_ble_eq_true rfl⟩) hE hH hS (oa_recv (k := 0) (ci := 4) hE hH (by decide) rfl rfl) rfl hl.1 rfl (Nat.le_of_ble_eq_true rfl) dX4_readLine_99 ⟨by decide, by decide⟩ (fun H locs hH hS => ?_)
        refine lv_if_eq (tgt := 109) hx hb dX4_readLine_102 (by decide) (fun hq16 => ?_) (fun hq16 => ?_)
        · rw [if_pos hq16] at hf
          exact bX4_readLine_109 C n n1 hn1 _ hf _ _ hH hS _ (lv_sub hl [0, 1] rfl)
        · rw [if_neg hq16] at hf
          exact bX4_readLine_105 C n n1 hn1 _ hf _ _ hH hS _ (lv_sub hl [0, 1] rfl)
  · rw [if_pos hq4] at hf
    refine lv_iconst (v := (0 : Int32)) hx hb dX4_readLine_73 (by decide) ?_
    cases hf
    exact oa_reti hx hb hr hlocks rfl hS hH dX4_readLine_74
set_option maxHeartbeats 4000000 in
set_option maxRecDepth 100000 in
theorem cX4_readLine_k (l : Launch) (D : va_G) (ca : Nat → ClassId) (ad : Nat → Nat → Nat) (b0 : Nat) (hw : oa_W ad b0) (n : Nat) (n1 : Nat) (hn1 : n1 < oa_n 9) (M : oa_M) (o : Int32 × oa_M) (hf : FX4_readLine n n1 M = some o) : oa_Mi l yX4_readLine (oa_w yX4_readLine cX4_readLine 2 (some .boolean)) ({ frames := 4, cells := 0, slots := 0, locals := 88 } : Room) D ca ad b0 [.ref (ad 0 0), .ref (ad 9 n1)] M o.1 o.2 := by
  refine oa_ofW (cc := cX4_readLine) (maxL := 2) (ret := some .boolean) (by decide) rfl (Nat.le_of_ble_eq_true rfl) ?_
  intro p e s m below meth c hx hb hml hr hlocks hown hts0 hP ls hl
  obtain ⟨hH, hE⟩ := hP
  have hts : ∀ w ∈ oa_T, w.before _ s = true := fun w h => hts0 w (List.mem_cons_of_mem _ h)
  have hS : va_S (fun q => b0 ≤ q) s.heap s.heap [] := va_S.rf
  have C : oa_Cx p s m _ meth c cX4_readLine 2 (some .boolean) RX4 D ca b0 ad := ⟨hx, hb, hml, hr, hlocks, hown, hts, hE, hw⟩
  have hl : lv_has ls 2 [(0, .ref (ad 0 0)), (1, .ref (ad 9 n1))] := hl
  unfold FX4_readLine at hf
  refine lv_aload_n hx hb dX4_readLine_0 rfl (lv_at hl 1 rfl) ?_
  refine lv_iconst (v := (0 : Int32)) hx hb dX4_readLine_1 (by decide) ?_
  refine oa_put (ci := 1) (C := RX1) (T := TX1) (N := 7) (v := .int (0 : Int32)) (x := (0 : Int32)) hx hb hts inX1 tyX1 tyX1_ok nmX1 hown hE hw hH hS 9 n1 hn1 rfl rfl 3 (by decide) (hts _ tw_157) rfl rfl rfl (Nat.le_of_ble_eq_true rfl) rfl dX4_readLine_2 (fun H locs hH hS => ?_)
  refine lv_aload_n hx hb dX4_readLine_5 rfl (lv_at hl 1 rfl) ?_
  refine lv_iconst (v := (0 : Int32)) hx hb dX4_readLine_6 (by decide) ?_
  refine oa_put (ci := 1) (C := RX1) (T := TX1) (N := 7) (v := .int (0 : Int32)) (x := (0 : Int32)) hx hb hts inX1 tyX1 tyX1_ok nmX1 hown hE hw hH hS 9 n1 hn1 rfl rfl 4 (by decide) (hts _ tw_158) rfl rfl rfl (Nat.le_of_ble_eq_true rfl) rfl dX4_readLine_7 (fun H locs hH hS => ?_)
  refine lv_aload_n hx hb dX4_readLine_10 rfl (lv_at hl 1 rfl) ?_
  refine lv_aload_n hx hb dX4_readLine_11 rfl (lv_at hl 0 rfl) ?_
  refine oa_get (ci := 4) (C := RX4) (T := TX4) (N := 9) (v := .ref (ad 1 0)) hx hb hts inX4 hown hE hH 0 0 (by decide) rfl rfl 0 (by decide) (hts _ tw_176) rfl dX4_readLine_12 ?_
  obtain ⟨r1, M2, hc3, hf⟩ := oa_bdE hf
  refine oa_cvi (As := []) (rest := [.ref (ad 9 n1)]) ⟨hx, hb, hml, hown, hts⟩ (cX3_takeLabel_ok l D ca ad b0 hw n 0 (by decide) _ _ _ hc3) (cwV 0 hts (oa_gV tw_524 tw_525 tw_526 tw_45 tw_527) rfl rfl rfl (by decide +kernel) ⟨Nat.le_of_ble_eq_true rfl, Nat.le_of_ble_eq_true rfl⟩) hE hH hS (oa_recv (k := 1) (ci := 3) hE hH (by decide) rfl rfl) rfl hl.1 rfl (Nat.le_of_ble_eq_true rfl) dX4_readLine_15 ⟨by decide, by decide⟩ (fun H locs hH hS => ?_)
  refine oa_put (ci := 1) (C := RX1) (T := TX1) (N := 7) (v := .int r1) (x := r1) hx hb hts inX1 tyX1 tyX1_ok nmX1 hown hE hw hH hS 9 n1 hn1 rfl rfl 2 (by decide) (hts _ tw_156) rfl rfl rfl (Nat.le_of_ble_eq_true rfl) rfl dX4_readLine_18 (fun H locs hH hS => ?_)
  refine lv_aload_n hx hb dX4_readLine_21 rfl (lv_at hl 1 rfl) ?_
  refine oa_get (ci := 1) (C := RX1) (T := TX1) (N := 7) (v := .int ((oa_up M2 9 n1 2 r1) 9 n1 2)) hx hb hts inX1 hown hE hH 9 n1 hn1 rfl rfl 2 (by decide) (hts _ tw_156) rfl dX4_readLine_22 ?_
  refine lv_iconst (v := (-1 : Int32)) hx hb dX4_readLine_25 (by decide) ?_
  refine lv_icmp_eq (tgt := 55) hx hb dX4_readLine_26 (by decide) (fun hq4 => ?_) (fun hq4 => ?_)
  · rw [if_pos hq4] at hf
    exact bX4_readLine_55 C n n1 hn1 _ hf _ _ hH hS _ (lv_sub hl [0, 1] rfl)
  · rw [if_neg hq4] at hf
    refine lv_aload_n hx hb dX4_readLine_29 rfl (lv_at hl 0 rfl) ?_
    refine oa_get (ci := 4) (C := RX4) (T := TX4) (N := 9) (v := .ref (ad 1 0)) hx hb hts inX4 hown hE hH 0 0 (by decide) rfl rfl 0 (by decide) (hts _ tw_176) rfl dX4_readLine_30 ?_
    refine lv_bipush (v := (58 : Int32)) hx hb dX4_readLine_33 (by decide) ?_
    obtain ⟨r5, M6, hc7, hf⟩ := oa_bdE hf
    refine oa_cvi (As := [.int (58 : Int32)]) (rest := []) ⟨hx, hb, hml, hown, hts⟩ (cX3_take_ok l D ca ad b0 hw n 0 (by decide) (58 : Int32) _ _ _ hc7) (cwV 1 hts (oa_gV tw_280 tw_281 tw_282 tw_45 tw_283) rfl rfl rfl (by decide +kernel) ⟨Nat.le_of_ble_eq_true rfl, Nat.le_of_ble_eq_true rfl⟩) hE hH hS (oa_recv (k := 1) (ci := 3) hE hH (by decide) rfl rfl) rfl hl.1 rfl (Nat.le_of_ble_eq_true rfl) dX4_readLine_35 ⟨by decide, by decide⟩ (fun H locs hH hS => ?_)
    refine lv_if_ne (tgt := 43) hx hb dX4_readLine_38 (by decide) (fun hq8 => ?_) (fun hq8 => ?_)
    · rw [if_neg hq8] at hf
      refine lv_aload_n hx hb dX4_readLine_43 rfl (lv_at hl 0 rfl) ?_
      refine oa_get (ci := 4) (C := RX4) (T := TX4) (N := 9) (v := .ref (ad 1 0)) hx hb hts inX4 hown hE hH 0 0 (by decide) rfl rfl 0 (by decide) (hts _ tw_176) rfl dX4_readLine_44 ?_
      obtain ⟨r9, M10, hc11, hf⟩ := oa_bdE hf
      refine oa_cvi (As := []) (rest := []) ⟨hx, hb, hml, hown, hts⟩ (cX3_left_ok l D ca ad b0 hw n 0 (by decide) _ _ _ hc11) (cwV 0 hts (oa_gV tw_284 tw_285 tw_286 tw_45 tw_287) rfl rfl rfl (by decide +kernel) ⟨Nat.le_of_ble_eq_true rfl, Nat.le_of_ble_eq_true rfl⟩) hE hH hS (oa_recv (k := 1) (ci := 3) hE hH (by decide) rfl rfl) rfl hl.1 rfl (Nat.le_of_ble_eq_true rfl) dX4_readLine_47 ⟨by decide, by decide⟩ (fun H locs hH hS => ?_)
      refine lv_if_ne (tgt := 55) hx hb dX4_readLine_50 (by decide) (fun hq12 => ?_) (fun hq12 => ?_)
      · rw [if_neg hq12] at hf
        exact bX4_readLine_55 C n n1 hn1 _ hf _ _ hH hS _ (lv_sub hl [0, 1] rfl)
      · rw [if_pos hq12] at hf
        refine lv_iconst (v := (1 : Int32)) hx hb dX4_readLine_53 (by decide) ?_
        cases hf
        exact oa_reti hx hb hr hlocks rfl hS hH dX4_readLine_54
    · rw [if_pos hq8] at hf
      refine lv_iconst (v := (0 : Int32)) hx hb dX4_readLine_41 (by decide) ?_
      cases hf
      exact oa_reti hx hb hr hlocks rfl hS hH dX4_readLine_42
theorem cX4_readLine_ok (l : Launch) (D : va_G) (ca : Nat → ClassId) (ad : Nat → Nat → Nat) (b0 : Nat) (hw : oa_W ad b0) (n : Nat) (n1 : Nat) (hn1 : n1 < oa_n 9) (M : oa_M) (r : Int32) (M' : oa_M) (hf : FX4_readLine n n1 M = some (r, M')) : oa_Mi l yX4_readLine (oa_w yX4_readLine cX4_readLine 2 (some .boolean)) ({ frames := 4, cells := 0, slots := 0, locals := 88 } : Room) D ca ad b0 [.ref (ad 0 0), .ref (ad 9 n1)] M r M' := cX4_readLine_k l D ca ad b0 hw n n1 hn1 M (r, M') hf
def BX4_findLabel_2 : Nat → Int32 → Int32 → oa_M → Option (Int32 × oa_M)
  | 0, _, _, _ => none
  | n + 1, x1, x2, M => (if (M 0 0 6) ≤ x2 then (some ((-1 : Int32), M)) else (if oa_in x2 21 = true then (if (M 9 x2.toNatClampNeg 2) = x1 then (some (x2, M)) else (BX4_findLabel_2 n x1 (x2 + (1 : Int32)) M)) else none))
def FX4_findLabel (n : Nat) (x1 : Int32) (M : oa_M) : Option (Int32 × oa_M) := (BX4_findLabel_2 n x1 (0 : Int32) M)
set_option maxHeartbeats 4000000 in
set_option maxRecDepth 100000 in
theorem bX4_findLabel_2 {p : Program} {l : Launch} {e : Env} {s : State} {m : MethodId} {args : Array Value} {below : List Frame} {meth : Method} {c : Code} {D : va_G} {ca : Nat → ClassId} {ad : Nat → Nat → Nat} {b0 : Nat} {o : Int32 × oa_M} (C : oa_Cx p s m args meth c cX4_findLabel 3 (some .int) RX4 D ca b0 ad) : ∀ (n : Nat), ∀ (x1 : Int32) (x2 : Int32) (M : oa_M), BX4_findLabel_2 n x1 x2 M = some o → ∀ (H : Heap) (locs : List Loc), oa_H D ca ad M H → va_S (fun q => b0 ≤ q) s.heap H locs → ∀ (ls : Array Slot), lv_has ls 3 [(0, .ref (ad 0 0)), (1, .int x1), (2, .int x2)] → W p l e ({ frames := 0, cells := 0, slots := 0, locals := 0 } : Room) s m args below meth c H locs 0 0 (MQ below (va_Qi (fun (r' : Int32) (u : oa_M) => r' = o.1 ∧ u = o.2) (fun u t => oa_H D ca ad u t.heap) (fun q => b0 ≤ q)) args s 0 0 (fun q => b0 ≤ q)) (F0 m 2 ls []) := by
  obtain ⟨hx, hb, hml, hr, hlocks, hown, hts, hE, hw⟩ := id C
  intro n
  induction n with
  | zero => intro x1 x2 M hf; cases hf
  | succ n ih =>
    intro x1 x2 M hf H locs hH hS ls hl
    have hrec2 := ih
    unfold BX4_findLabel_2 at hf
    refine lv_iload_n hx hb dX4_findLabel_2 rfl (lv_at hl 2 rfl) ?_
    refine lv_aload_n hx hb dX4_findLabel_3 rfl (lv_at hl 0 rfl) ?_
    refine oa_get (ci := 4) (C := RX4) (T := TX4) (N := 9) (v := .int (M 0 0 6)) hx hb hts inX4 hown hE hH 0 0 (by decide) rfl rfl 6 (by decide) (hts _ tw_182) rfl dX4_findLabel_4 ?_
    refine lv_icmp_ge (tgt := 31) hx hb dX4_findLabel_7 (by decide) (fun hq1 => ?_) (fun hq1 => ?_)
    · rw [if_pos hq1] at hf
      refine lv_iconst (v := (-1 : Int32)) hx hb dX4_findLabel_31 (by decide) ?_
      cases hf
      exact oa_reti hx hb hr hlocks rfl hS hH dX4_findLabel_32
    · rw [if_neg hq1] at hf
      refine lv_aload_n hx hb dX4_findLabel_10 rfl (lv_at hl 0 rfl) ?_
      refine oa_get (ci := 4) (C := RX4) (T := TX4) (N := 9) (v := .ref (ad 8 0)) hx hb hts inX4 hown hE hH 0 0 (by decide) rfl rfl 4 (by decide) (hts _ tw_180) rfl dX4_findLabel_11 ?_
      refine lv_iload_n hx hb dX4_findLabel_14 rfl (lv_at hl 2 rfl) ?_
      obtain ⟨hk2, hf⟩ := oa_ck hf
      refine oa_ald (g := fun j => ad 9 j) hx hb hE hH 8 0 (by decide) 21 4 rfl rfl (oa_in_vp hk2) dX4_findLabel_15 ?_
      refine oa_get (ci := 1) (C := RX1) (T := TX1) (N := 7) (v := .int (M 9 x2.toNatClampNeg 2)) hx hb hts inX1 hown hE hH 9 x2.toNatClampNeg (oa_lt (oa_in_vp hk2)) rfl rfl 2 (by decide) (hts _ tw_156) rfl dX4_findLabel_16 ?_
      refine lv_iload_n hx hb dX4_findLabel_19 rfl (lv_at hl 1 rfl) ?_
      refine lv_icmp_ne (tgt := 25) hx hb dX4_findLabel_20 (by decide) (fun hq3 => ?_) (fun hq3 => ?_)
      · rw [if_neg hq3] at hf
        refine lv_iinc (v := (x2 + (1 : Int32))) (lv' := [(2, .int (x2 + (1 : Int32))), (0, .ref (ad 0 0)), (1, .int x1)]) hx hb dX4_findLabel_25 hl (k := 2) rfl rfl (by decide) rfl (fun ls hl => ?_)
        refine lv_goto (tgt := 2) hx hb dX4_findLabel_28 (by decide) ?_
        exact hrec2 x1 (x2 + (1 : Int32)) _ hf _ _ hH hS _ (lv_sub hl [1, 2, 0] rfl)
      · rw [if_pos hq3] at hf
        refine lv_iload_n hx hb dX4_findLabel_23 rfl (lv_at hl 2 rfl) ?_
        cases hf
        exact oa_reti hx hb hr hlocks rfl hS hH dX4_findLabel_24
set_option maxHeartbeats 4000000 in
set_option maxRecDepth 100000 in
theorem cX4_findLabel_k (l : Launch) (D : va_G) (ca : Nat → ClassId) (ad : Nat → Nat → Nat) (b0 : Nat) (hw : oa_W ad b0) (n : Nat) (x1 : Int32) (M : oa_M) (o : Int32 × oa_M) (hf : FX4_findLabel n x1 M = some o) : oa_Mi l yX4_findLabel (oa_w yX4_findLabel cX4_findLabel 3 (some .int)) ({ frames := 0, cells := 0, slots := 0, locals := 0 } : Room) D ca ad b0 [.ref (ad 0 0), .int x1] M o.1 o.2 := by
  refine oa_ofW (cc := cX4_findLabel) (maxL := 3) (ret := some .int) (by decide) rfl (Nat.le_of_ble_eq_true rfl) ?_
  intro p e s m below meth c hx hb hml hr hlocks hown hts0 hP ls hl
  obtain ⟨hH, hE⟩ := hP
  have hts : ∀ w ∈ oa_T, w.before _ s = true := fun w h => hts0 w (List.mem_cons_of_mem _ h)
  have hS : va_S (fun q => b0 ≤ q) s.heap s.heap [] := va_S.rf
  have C : oa_Cx p s m _ meth c cX4_findLabel 3 (some .int) RX4 D ca b0 ad := ⟨hx, hb, hml, hr, hlocks, hown, hts, hE, hw⟩
  have hl : lv_has ls 3 [(0, .ref (ad 0 0)), (1, .int x1)] := hl
  unfold FX4_findLabel at hf
  refine lv_iconst (v := (0 : Int32)) hx hb dX4_findLabel_0 (by decide) ?_
  refine lv_istore_n (lv' := [(2, .int (0 : Int32)), (0, .ref (ad 0 0)), (1, .int x1)]) hx hb dX4_findLabel_1 rfl hl (by decide) rfl (fun ls hl => ?_)
  exact bX4_findLabel_2 C n x1 (0 : Int32) _ hf _ _ hH hS _ (lv_sub hl [1, 2, 0] rfl)
theorem cX4_findLabel_ok (l : Launch) (D : va_G) (ca : Nat → ClassId) (ad : Nat → Nat → Nat) (b0 : Nat) (hw : oa_W ad b0) (n : Nat) (x1 : Int32) (M : oa_M) (r : Int32) (M' : oa_M) (hf : FX4_findLabel n x1 M = some (r, M')) : oa_Mi l yX4_findLabel (oa_w yX4_findLabel cX4_findLabel 3 (some .int)) ({ frames := 0, cells := 0, slots := 0, locals := 0 } : Room) D ca ad b0 [.ref (ad 0 0), .int x1] M r M' := cX4_findLabel_k l D ca ad b0 hw n x1 M (r, M') hf
def BX4_line_65 (n : Nat) (n1 : Nat) (x2 : Int32) (M : oa_M) : Option (Nat × Int32 × oa_M) := (if (M 0 0 6) < (20 : Int32) then (if oa_in (M 0 0 6) 21 = true then (if n1 = (20 : Int32).toNatClampNeg then (some (0, ((M 0 0 6) + (1 : Int32)), (oa_up (oa_mL M ((M 0 0 6).toNatClampNeg) (20 : Int32).toNatClampNeg) 0 0 6 ((M 0 0 6) + (1 : Int32))))) else none) else none) else (some (2, 0, M)))
def FX4_line (n : Nat)  (M : oa_M) : Option (Nat × Int32 × oa_M) := (if oa_in (20 : Int32) 21 = true then (oa_bd (FX4_readLine n ((20 : Int32).toNatClampNeg) M) (fun r2 M3 => (oa_bv (FX3_clear n 0 M3) (fun M6 => (if r2 = 0 then (some (1, 0, M6)) else (if (M6 9 ((20 : Int32).toNatClampNeg) 2) = (-1 : Int32) then (BX4_line_65 n ((20 : Int32).toNatClampNeg) r2 M6) else (oa_bd (FX4_findLabel n (M6 9 ((20 : Int32).toNatClampNeg) 2) M6) (fun r10 M11 => (if r10 = (-1 : Int32) then (BX4_line_65 n ((20 : Int32).toNatClampNeg) r2 M11) else (some (1, 0, M11))))))))))) else none)
set_option maxHeartbeats 4000000 in
set_option maxRecDepth 100000 in
theorem bX4_line_65 {p : Program} {l : Launch} {e : Env} {s : State} {m : MethodId} {args : Array Value} {below : List Frame} {meth : Method} {c : Code} {D : va_G} {ca : Nat → ClassId} {ad : Nat → Nat → Nat} {b0 : Nat} {o : Nat × Int32 × oa_M} (C : oa_Cy p l s m args meth c cX4_line 3 (some .int) RX4 D ca b0 ad) : ∀ (n : Nat), ∀ (n1 : Nat) (hn1 : n1 < oa_n 9) (x2 : Int32) (M : oa_M), BX4_line_65 n n1 x2 M = some o → ∀ (H : Heap) (locs : List Loc), oa_H D ca ad M H → va_S (fun q => b0 ≤ q) s.heap H locs → ∀ (ls : Array Slot), lv_has ls 3 [(0, .ref (ad 0 0)), (1, .ref (ad 9 n1)), (2, .int x2)] → W p l e ({ frames := 6, cells := 1, slots := 6, locals := 109 } : Room) s m args below meth c H locs 0 0 (vx_MQ below (va_Qi (fun (r' : Int32) (u : oa_M) => o.1 = 0 ∧ r' = o.2.1 ∧ u = o.2.2) (fun u t => oa_Hx D ca ad b0 u t.heap) (fun q => b0 ≤ q)) (vx_X (fun u : oa_M => o.1 ≠ 0 ∧ u = o.2.2) (fun E u t => E = oa_x o.1 ∧ oa_Hx D ca ad b0 u t.heap) (fun q => b0 ≤ q)) args s 1 (6 * 1) (fun q => b0 ≤ q)) (F0 m 65 ls []) := by
  obtain ⟨hx, hb, hml, hr, hlocks, hown, hts, hE, hw, hl0, hnt⟩ := id C
  intro n n1 hn1 x2 M hf H locs hH hS ls hl
  unfold BX4_line_65 at hf
  refine lv_aload_n hx hb dX4_line_65 rfl (lv_at hl 0 rfl) ?_
  refine oa_get (ci := 4) (C := RX4) (T := TX4) (N := 9) (v := .int (M 0 0 6)) hx hb hts inX4 hown hE hH 0 0 (by decide) rfl rfl 6 (by decide) (hts _ tw_182) rfl dX4_line_66 ?_
  refine lv_bipush (v := (20 : Int32)) hx hb dX4_line_69 (by decide) ?_
  refine lv_icmp_lt (tgt := 84) hx hb dX4_line_71 (by decide) (fun hq1 => ?_) (fun hq1 => ?_)
  · rw [if_pos hq1] at hf
    refine lv_aload_n hx hb dX4_line_84 rfl (lv_at hl 0 rfl) ?_
    refine oa_get (ci := 4) (C := RX4) (T := TX4) (N := 9) (v := .ref (ad 8 0)) hx hb hts inX4 hown hE hH 0 0 (by decide) rfl rfl 4 (by decide) (hts _ tw_180) rfl dX4_line_85 ?_
    refine lv_bipush (v := (20 : Int32)) hx hb dX4_line_88 (by decide) ?_
    refine lv_aload_n hx hb dX4_line_90 rfl (lv_at hl 0 rfl) ?_
    refine oa_get (ci := 4) (C := RX4) (T := TX4) (N := 9) (v := .ref (ad 8 0)) hx hb hts inX4 hown hE hH 0 0 (by decide) rfl rfl 4 (by decide) (hts _ tw_180) rfl dX4_line_91 ?_
    refine lv_aload_n hx hb dX4_line_94 rfl (lv_at hl 0 rfl) ?_
    refine oa_get (ci := 4) (C := RX4) (T := TX4) (N := 9) (v := .int (M 0 0 6)) hx hb hts inX4 hown hE hH 0 0 (by decide) rfl rfl 6 (by decide) (hts _ tw_182) rfl dX4_line_95 ?_
    obtain ⟨hk2, hf⟩ := oa_ck hf
    refine oa_ald (g := fun j => ad 9 j) hx hb hE hH 8 0 (by decide) 21 4 rfl rfl (oa_in_vp hk2) dX4_line_98 ?_
    obtain ⟨hk3, hf⟩ := oa_ck hf
    refine oa_twoL (i1 := (20 : Int32)) (i2 := (M 0 0 6)) hx hb hts hown hE hw hH hS (by show ¬ ((20 : Int32) < 0 ∨ 21 ≤ (20 : Int32).toNatClampNeg); decide) (oa_in_vp hk2) rfl (hts _ tw_180) (hts _ tw_182) (lv_at hl 0 rfl) (by rw [← hk3]; exact lv_at hl 1 rfl) dX4_line_99 dX4_line_100 dX4_line_101 dX4_line_104 dX4_line_105 dX4_line_108 dX4_line_109 (fun ad H locs hk9 hH hS => ?_)
    have hw := hk9.1
    have hl : lv_has ls 3 [(0, .ref (ad 0 0))] := by rw [hk9.2.1]; exact lv_sub hl [0] rfl
    refine lv_aload_n hx hb dX4_line_110 rfl (lv_at hl 0 rfl) ?_
    refine lv_dup hx hb dX4_line_111 rfl ?_
    refine oa_get (ci := 4) (C := RX4) (T := TX4) (N := 9) (v := .int (M 0 0 6)) hx hb hts inX4 hown hE hH 0 0 (by decide) rfl rfl 6 (by decide) (hts _ tw_182) rfl dX4_line_112 ?_
    refine lv_iconst (v := (1 : Int32)) hx hb dX4_line_115 (by decide) ?_
    refine lv_iadd hx hb dX4_line_116 ?_
    refine oa_put (ci := 4) (C := RX4) (T := TX4) (N := 9) (v := .int ((M 0 0 6) + (1 : Int32))) (x := ((M 0 0 6) + (1 : Int32))) hx hb hts inX4 tyX4 tyX4_ok nmX4 hown hE hw hH hS 0 0 (by decide) rfl rfl 6 (by decide) (hts _ tw_182) rfl rfl rfl (Nat.le_of_ble_eq_true rfl) rfl dX4_line_117 (fun H locs hH hS => ?_)
    refine lv_aload_n hx hb dX4_line_120 rfl (lv_at hl 0 rfl) ?_
    refine oa_get (ci := 4) (C := RX4) (T := TX4) (N := 9) (v := .int ((M 0 0 6) + (1 : Int32))) hx hb hts inX4 hown hE hH 0 0 (by decide) rfl rfl 6 (by decide) (hts _ tw_182) rfl dX4_line_121 ?_
    cases hf
    refine vx_ret (W.widen (k := 1) (n := 6 * 1) (by decide) (by decide) ?_)
    exact oa_rexj hx hb hr hlocks rfl rfl hS ⟨ad, hk9, hH⟩ dX4_line_124
  · rw [if_neg hq1] at hf
    cases hf
    exact oa_thrj (own := RX4) (text := "there are twenty lines") (names := oa_nm) hw hx hb hl0 hown (by decide +kernel) (by decide +kernel) (hts _ tw_374) (hts _ tw_54) (hE.2.2.2.2.1 ("OpcodeAtlas", 162, "there are twenty lines") (by decide +kernel)) (oa_at69 hts hE) (by decide +kernel) hE hS hH (hl.1.trans hml.symm) dX4_line_74 dX4_line_77 dX4_line_78 dX4_line_80 dX4_line_83 hnt (by decide) (by decide) (by decide) (by decide) hlocks ⟨Nat.succ_ne_zero _, rfl⟩ rfl (by decide) (by decide)
set_option maxHeartbeats 4000000 in
set_option maxRecDepth 100000 in
theorem cX4_line_k (l : Launch) (hl0 : l.stackTraces = false) (D : va_G) (ca : Nat → ClassId) (ad : Nat → Nat → Nat) (b0 : Nat) (hw : oa_W ad b0) (n : Nat)  (M : oa_M) (o : Nat × Int32 × oa_M) (hf : FX4_line n  M = some o) : oa_Xj l yX4_line (oa_w yX4_line cX4_line 3 (some .int)) ({ frames := 6, cells := 1, slots := 6, locals := 109 } : Room) 1 D ca ad b0 [.ref (ad 0 0)] M o := by
  refine oa_ofX (cc := cX4_line) (maxL := 3) (ret := some .int) (by decide) rfl (Nat.le_of_ble_eq_true rfl) ?_
  intro p e s m below meth c hx hb hml hr hlocks hown hts0 hnt hP ls hl
  obtain ⟨hH, hE⟩ := hP
  have hts : ∀ w ∈ oa_T, w.before _ s = true := fun w h => hts0 w (List.mem_cons_of_mem _ h)
  have hS : va_S (fun q => b0 ≤ q) s.heap s.heap [] := va_S.rf
  have C : oa_Cy p l s m _ meth c cX4_line 3 (some .int) RX4 D ca b0 ad := ⟨hx, hb, hml, hr, hlocks, hown, hts, hE, hw, hl0, hnt⟩
  have hl : lv_has ls 3 [(0, .ref (ad 0 0))] := hl
  unfold FX4_line at hf
  refine lv_aload_n hx hb dX4_line_0 rfl (lv_at hl 0 rfl) ?_
  refine oa_get (ci := 4) (C := RX4) (T := TX4) (N := 9) (v := .ref (ad 8 0)) hx hb hts inX4 hown hE hH 0 0 (by decide) rfl rfl 4 (by decide) (hts _ tw_180) rfl dX4_line_1 ?_
  refine lv_bipush (v := (20 : Int32)) hx hb dX4_line_4 (by decide) ?_
  obtain ⟨hk1, hf⟩ := oa_ck hf
  refine oa_ald (g := fun j => ad 9 j) hx hb hE hH 8 0 (by decide) 21 4 rfl rfl (oa_in_vp hk1) dX4_line_6 ?_
  refine lv_astore_n (lv' := [(1, .ref (ad 9 ((20 : Int32).toNatClampNeg))), (0, .ref (ad 0 0))]) hx hb dX4_line_7 rfl hl (by decide) rfl (fun ls hl => ?_)
  refine lv_aload_n hx hb dX4_line_8 rfl (lv_at hl 1 rfl) ?_
  refine lv_aload_n hx hb dX4_line_9 rfl (lv_at hl 0 rfl) ?_
  obtain ⟨r2, M3, hc4, hf⟩ := oa_bdE hf
  refine oa_cvi (As := [.ref (ad 9 ((20 : Int32).toNatClampNeg))]) (rest := []) ⟨hx, hb, hml, hown, hts⟩ (cX4_readLine_ok l D ca ad b0 hw n ((20 : Int32).toNatClampNeg) (oa_lt (oa_in_vp hk1)) _ _ _ hc4) (cwV 1 hts (oa_gV tw_520 tw_522 tw_9 tw_44 tw_523) rfl rfl rfl (by decide +kernel) ⟨Nat.le_of_ble_eq_true rfl, Nat.le_of_ble_eq_true rfl⟩) hE hH hS (oa_recv (k := 0) (ci := 4) hE hH (by decide) rfl rfl) rfl hl.1 rfl (Nat.le_of_ble_eq_true rfl) dX4_line_10 ⟨by decide, by decide⟩ (fun H locs hH hS => ?_)
  refine lv_istore_n (lv' := [(2, .int r2), (1, .ref (ad 9 ((20 : Int32).toNatClampNeg))), (0, .ref (ad 0 0))]) hx hb dX4_line_13 rfl hl (by decide) rfl (fun ls hl => ?_)
  refine lv_aload_n hx hb dX4_line_14 rfl (lv_at hl 2 rfl) ?_
  refine oa_get (ci := 4) (C := RX4) (T := TX4) (N := 9) (v := .ref (ad 1 0)) hx hb hts inX4 hown hE hH 0 0 (by decide) rfl rfl 0 (by decide) (hts _ tw_176) rfl dX4_line_15 ?_
  obtain ⟨M6, hc7, hf⟩ := oa_bvE hf
  refine oa_cvv (As := []) (rest := []) ⟨hx, hb, hml, hown, hts⟩ (cX3_clear_ok l D ca ad b0 hw n 0 (by decide) _ _ hc7) (cwV 0 hts (oa_gV tw_301 tw_302 tw_303 tw_45 tw_304) rfl rfl rfl (by decide +kernel) ⟨Nat.le_of_ble_eq_true rfl, Nat.le_of_ble_eq_true rfl⟩) hE hH hS (oa_recv (k := 1) (ci := 3) hE hH (by decide) rfl rfl) rfl hl.1 rfl (Nat.le_of_ble_eq_true rfl) dX4_line_18 ⟨by decide, by decide⟩ (fun H locs hH hS => ?_)
  refine lv_iload_n hx hb dX4_line_21 rfl (lv_at hl 0 rfl) ?_
  refine lv_if_ne (tgt := 35) hx hb dX4_line_22 (by decide) (fun hq8 => ?_) (fun hq8 => ?_)
  · rw [if_neg hq8] at hf
    refine lv_aload_n hx hb dX4_line_35 rfl (lv_at hl 1 rfl) ?_
    refine oa_get (ci := 1) (C := RX1) (T := TX1) (N := 7) (v := .int (M6 9 ((20 : Int32).toNatClampNeg) 2)) hx hb hts inX1 hown hE hH 9 ((20 : Int32).toNatClampNeg) (oa_lt (oa_in_vp hk1)) rfl rfl 2 (by decide) (hts _ tw_156) rfl dX4_line_36 ?_
    refine lv_iconst (v := (-1 : Int32)) hx hb dX4_line_39 (by decide) ?_
    refine lv_icmp_eq (tgt := 65) hx hb dX4_line_40 (by decide) (fun hq9 => ?_) (fun hq9 => ?_)
    · rw [if_pos hq9] at hf
      exact bX4_line_65 C n ((20 : Int32).toNatClampNeg) (oa_lt (oa_in_vp hk1)) r2 _ hf _ _ hH hS _ (lv_sub hl [2, 1, 0] rfl)
    · rw [if_neg hq9] at hf
      refine lv_aload_n hx hb dX4_line_43 rfl (lv_at hl 2 rfl) ?_
      refine lv_aload_n hx hb dX4_line_44 rfl (lv_at hl 1 rfl) ?_
      refine oa_get (ci := 1) (C := RX1) (T := TX1) (N := 7) (v := .int (M6 9 ((20 : Int32).toNatClampNeg) 2)) hx hb hts inX1 hown hE hH 9 ((20 : Int32).toNatClampNeg) (oa_lt (oa_in_vp hk1)) rfl rfl 2 (by decide) (hts _ tw_156) rfl dX4_line_45 ?_
      obtain ⟨r10, M11, hc12, hf⟩ := oa_bdE hf
      refine oa_cvi (As := [.int (M6 9 ((20 : Int32).toNatClampNeg) 2)]) (rest := []) ⟨hx, hb, hml, hown, hts⟩ (cX4_findLabel_ok l D ca ad b0 hw n (M6 9 ((20 : Int32).toNatClampNeg) 2) _ _ _ hc12) (cwV 1 hts (oa_gV tw_537 tw_539 tw_11 tw_44 tw_540) rfl rfl rfl (by decide +kernel) ⟨Nat.le_of_ble_eq_true rfl, Nat.le_of_ble_eq_true rfl⟩) hE hH hS (oa_recv (k := 0) (ci := 4) hE hH (by decide) rfl rfl) rfl hl.1 rfl (Nat.le_of_ble_eq_true rfl) dX4_line_48 ⟨by decide, by decide⟩ (fun H locs hH hS => ?_)
      refine lv_iconst (v := (-1 : Int32)) hx hb dX4_line_51 (by decide) ?_
      refine lv_icmp_eq (tgt := 65) hx hb dX4_line_52 (by decide) (fun hq13 => ?_) (fun hq13 => ?_)
      · rw [if_pos hq13] at hf
        exact bX4_line_65 C n ((20 : Int32).toNatClampNeg) (oa_lt (oa_in_vp hk1)) r2 _ hf _ _ hH hS _ (lv_sub hl [2, 1, 0] rfl)
      · rw [if_neg hq13] at hf
        cases hf
        exact oa_thrj (own := RX4) (text := "the label stands before a colon already") (names := oa_nm) hw hx hb hl0 hown (by decide +kernel) (by decide +kernel) (hts _ tw_305) (hts _ tw_53) (hE.2.2.2.2.1 ("OpcodeAtlas", 157, "the label stands before a colon already") (by decide +kernel)) (oa_at59 hts hE) (by decide +kernel) hE hS hH (hl.1.trans hml.symm) dX4_line_55 dX4_line_58 dX4_line_59 dX4_line_61 dX4_line_64 hnt (by decide) (by decide) (by decide) (by decide) hlocks ⟨Nat.succ_ne_zero _, rfl⟩ rfl (by decide) (by decide)
  · rw [if_pos hq8] at hf
    cases hf
    exact oa_thrj (own := RX4) (text := "the text is no line") (names := oa_nm) hw hx hb hl0 hown (by decide +kernel) (by decide +kernel) (hts _ tw_305) (hts _ tw_53) (hE.2.2.2.2.1 ("OpcodeAtlas", 149, "the text is no line") (by decide +kernel)) (oa_at59 hts hE) (by decide +kernel) hE hS hH (hl.1.trans hml.symm) dX4_line_25 dX4_line_28 dX4_line_29 dX4_line_31 dX4_line_34 hnt (by decide) (by decide) (by decide) (by decide) hlocks ⟨Nat.succ_ne_zero _, rfl⟩ rfl (by decide) (by decide)
theorem cX4_line_ok (l : Launch) (hl0 : l.stackTraces = false) (D : va_G) (ca : Nat → ClassId) (ad : Nat → Nat → Nat) (b0 : Nat) (hw : oa_W ad b0) (n : Nat)  (M : oa_M) (o : Nat × Int32 × oa_M) (hf : FX4_line n  M = some o) : oa_Xj l yX4_line (oa_w yX4_line cX4_line 3 (some .int)) ({ frames := 6, cells := 1, slots := 6, locals := 109 } : Room) 1 D ca ad b0 [.ref (ad 0 0)] M o := cX4_line_k l hl0 D ca ad b0 hw n  M o hf
def FX4_erase (n : Nat)  (M : oa_M) : Option (Int32 × oa_M) := (some ((M 0 0 6), (oa_up M 0 0 6 (0 : Int32))))
set_option maxHeartbeats 4000000 in
set_option maxRecDepth 100000 in
theorem cX4_erase_k (l : Launch) (D : va_G) (ca : Nat → ClassId) (ad : Nat → Nat → Nat) (b0 : Nat) (hw : oa_W ad b0) (n : Nat)  (M : oa_M) (o : Int32 × oa_M) (hf : FX4_erase n  M = some o) : oa_Mi l yX4_erase (oa_w yX4_erase cX4_erase 2 (some .int)) ({ frames := 0, cells := 0, slots := 0, locals := 0 } : Room) D ca ad b0 [.ref (ad 0 0)] M o.1 o.2 := by
  refine oa_ofW (cc := cX4_erase) (maxL := 2) (ret := some .int) (by decide) rfl (Nat.le_of_ble_eq_true rfl) ?_
  intro p e s m below meth c hx hb hml hr hlocks hown hts0 hP ls hl
  obtain ⟨hH, hE⟩ := hP
  have hts : ∀ w ∈ oa_T, w.before _ s = true := fun w h => hts0 w (List.mem_cons_of_mem _ h)
  have hS : va_S (fun q => b0 ≤ q) s.heap s.heap [] := va_S.rf
  have C : oa_Cx p s m _ meth c cX4_erase 2 (some .int) RX4 D ca b0 ad := ⟨hx, hb, hml, hr, hlocks, hown, hts, hE, hw⟩
  have hl : lv_has ls 2 [(0, .ref (ad 0 0))] := hl
  unfold FX4_erase at hf
  refine lv_aload_n hx hb dX4_erase_0 rfl (lv_at hl 0 rfl) ?_
  refine oa_get (ci := 4) (C := RX4) (T := TX4) (N := 9) (v := .int (M 0 0 6)) hx hb hts inX4 hown hE hH 0 0 (by decide) rfl rfl 6 (by decide) (hts _ tw_182) rfl dX4_erase_1 ?_
  refine lv_istore_n (lv' := [(1, .int (M 0 0 6)), (0, .ref (ad 0 0))]) hx hb dX4_erase_4 rfl hl (by decide) rfl (fun ls hl => ?_)
  refine lv_aload_n hx hb dX4_erase_5 rfl (lv_at hl 1 rfl) ?_
  refine lv_iconst (v := (0 : Int32)) hx hb dX4_erase_6 (by decide) ?_
  refine oa_put (ci := 4) (C := RX4) (T := TX4) (N := 9) (v := .int (0 : Int32)) (x := (0 : Int32)) hx hb hts inX4 tyX4 tyX4_ok nmX4 hown hE hw hH hS 0 0 (by decide) rfl rfl 6 (by decide) (hts _ tw_182) rfl rfl rfl (Nat.le_of_ble_eq_true rfl) rfl dX4_erase_7 (fun H locs hH hS => ?_)
  refine lv_iload_n hx hb dX4_erase_10 rfl (lv_at hl 0 rfl) ?_
  cases hf
  exact oa_reti hx hb hr hlocks rfl hS hH dX4_erase_11
theorem cX4_erase_ok (l : Launch) (D : va_G) (ca : Nat → ClassId) (ad : Nat → Nat → Nat) (b0 : Nat) (hw : oa_W ad b0) (n : Nat)  (M : oa_M) (r : Int32) (M' : oa_M) (hf : FX4_erase n  M = some (r, M')) : oa_Mi l yX4_erase (oa_w yX4_erase cX4_erase 2 (some .int)) ({ frames := 0, cells := 0, slots := 0, locals := 0 } : Room) D ca ad b0 [.ref (ad 0 0)] M r M' := cX4_erase_k l D ca ad b0 hw n  M (r, M') hf
def BX4_chooseForms_85 (rec4 : Int32 → Int32 → oa_M → Option (Int32 × oa_M)) (n : Nat) (x1 : Int32) (x2 : Int32) (n3 : Nat) (x4 : Int32) (M : oa_M) : Option (Int32 × oa_M) := (rec4 x1 (x2 + (1 : Int32)) M)
def BX4_chooseForms_62 (rec4 : Int32 → Int32 → oa_M → Option (Int32 × oa_M)) (n : Nat) (x1 : Int32) (x2 : Int32) (n3 : Nat) (x4 : Int32) (k0 : Nat) (z1 : Int32) (M : oa_M) : Option (Int32 × oa_M) := (if ((oa_up M 9 k0 6 z1) 9 n3 3) = 0 then (BX4_chooseForms_85 rec4 n x1 x2 n3 x4 (oa_up M 9 k0 6 z1)) else (if x4 = (-1 : Int32) then (if x1 = (-1 : Int32) then (BX4_chooseForms_85 rec4 n x2 x2 n3 x4 (oa_up M 9 k0 6 z1)) else (BX4_chooseForms_85 rec4 n x1 x2 n3 x4 (oa_up M 9 k0 6 z1))) else (BX4_chooseForms_85 rec4 n x1 x2 n3 x4 (oa_up M 9 k0 6 z1))))
def BX4_chooseForms_42 (rec4 : Int32 → Int32 → oa_M → Option (Int32 × oa_M)) (n : Nat) (x1 : Int32) (x2 : Int32) (n3 : Nat) (z0 : Int32) (M : oa_M) : Option (Int32 × oa_M) := (if z0 = (-1 : Int32) then (BX4_chooseForms_62 rec4 n x1 x2 n3 z0 n3 (-1 : Int32) M) else (if oa_in z0 13 = true then (BX4_chooseForms_62 rec4 n x1 x2 n3 z0 n3 z0 M) else none))
def BX4_chooseForms_4 : Nat → Int32 → Int32 → oa_M → Option (Int32 × oa_M)
  | 0, _, _, _ => none
  | n + 1, x1, x2, M => (if (M 0 0 6) ≤ x2 then (some (x1, M)) else (if oa_in x2 21 = true then (if (M 9 x2.toNatClampNeg 3) = 0 then (BX4_chooseForms_42 (BX4_chooseForms_4 n) n x1 x2 x2.toNatClampNeg (-1 : Int32) M) else (oa_bd (FX4_findForm n (M 9 x2.toNatClampNeg 3) (M 9 x2.toNatClampNeg 4) M) (fun r4 M5 => (BX4_chooseForms_42 (BX4_chooseForms_4 n) n x1 x2 x2.toNatClampNeg r4 M5)))) else none))
def FX4_chooseForms (n : Nat)  (M : oa_M) : Option (Int32 × oa_M) := (BX4_chooseForms_4 n (-1 : Int32) (0 : Int32) M)
set_option maxHeartbeats 4000000 in
set_option maxRecDepth 100000 in
theorem bX4_chooseForms_85 {p : Program} {l : Launch} {e : Env} {s : State} {m : MethodId} {args : Array Value} {below : List Frame} {meth : Method} {c : Code} {D : va_G} {ca : Nat → ClassId} {ad : Nat → Nat → Nat} {b0 : Nat} {o : Int32 × oa_M} (C : oa_Cx p s m args meth c cX4_chooseForms 5 (some .int) RX4 D ca b0 ad) (rec4 : Int32 → Int32 → oa_M → Option (Int32 × oa_M)) (hrec4 : ∀ (x1 : Int32) (x2 : Int32) (M : oa_M), rec4 x1 x2 M = some o → ∀ (H : Heap) (locs : List Loc), oa_H D ca ad M H → va_S (fun q => b0 ≤ q) s.heap H locs → ∀ (ls : Array Slot), lv_has ls 5 [(0, .ref (ad 0 0)), (1, .int x1), (2, .int x2)] → W p l e ({ frames := 1, cells := 0, slots := 0, locals := 23 } : Room) s m args below meth c H locs 0 0 (MQ below (va_Qi (fun (r' : Int32) (u : oa_M) => r' = o.1 ∧ u = o.2) (fun u t => oa_H D ca ad u t.heap) (fun q => b0 ≤ q)) args s 0 0 (fun q => b0 ≤ q)) (F0 m 4 ls [])) : ∀ (n : Nat), ∀ (x1 : Int32) (x2 : Int32) (n3 : Nat) (hn3 : n3 < oa_n 9) (x4 : Int32) (M : oa_M), BX4_chooseForms_85 rec4 n x1 x2 n3 x4 M = some o → ∀ (H : Heap) (locs : List Loc), oa_H D ca ad M H → va_S (fun q => b0 ≤ q) s.heap H locs → ∀ (ls : Array Slot), lv_has ls 5 [(0, .ref (ad 0 0)), (1, .int x1), (2, .int x2), (3, .ref (ad 9 n3)), (4, .int x4)] → W p l e ({ frames := 1, cells := 0, slots := 0, locals := 23 } : Room) s m args below meth c H locs 0 0 (MQ below (va_Qi (fun (r' : Int32) (u : oa_M) => r' = o.1 ∧ u = o.2) (fun u t => oa_H D ca ad u t.heap) (fun q => b0 ≤ q)) args s 0 0 (fun q => b0 ≤ q)) (F0 m 85 ls []) := by
  obtain ⟨hx, hb, hml, hr, hlocks, hown, hts, hE, hw⟩ := id C
  intro n x1 x2 n3 hn3 x4 M hf H locs hH hS ls hl
  unfold BX4_chooseForms_85 at hf
  refine lv_iinc (v := (x2 + (1 : Int32))) (lv' := [(2, .int (x2 + (1 : Int32))), (0, .ref (ad 0 0)), (1, .int x1), (3, .ref (ad 9 n3)), (4, .int x4)]) hx hb dX4_chooseForms_85 hl (k := 2) rfl rfl (by decide) rfl (fun ls hl => ?_)
  refine lv_goto (tgt := 4) hx hb dX4_chooseForms_88 (by decide) ?_
  exact hrec4 x1 (x2 + (1 : Int32)) _ hf _ _ hH hS _ (lv_sub hl [1, 2, 0] rfl)
set_option maxHeartbeats 4000000 in
set_option maxRecDepth 100000 in
theorem bX4_chooseForms_62 {p : Program} {l : Launch} {e : Env} {s : State} {m : MethodId} {args : Array Value} {below : List Frame} {meth : Method} {c : Code} {D : va_G} {ca : Nat → ClassId} {ad : Nat → Nat → Nat} {b0 : Nat} {o : Int32 × oa_M} (C : oa_Cx p s m args meth c cX4_chooseForms 5 (some .int) RX4 D ca b0 ad) (rec4 : Int32 → Int32 → oa_M → Option (Int32 × oa_M)) (hrec4 : ∀ (x1 : Int32) (x2 : Int32) (M : oa_M), rec4 x1 x2 M = some o → ∀ (H : Heap) (locs : List Loc), oa_H D ca ad M H → va_S (fun q => b0 ≤ q) s.heap H locs → ∀ (ls : Array Slot), lv_has ls 5 [(0, .ref (ad 0 0)), (1, .int x1), (2, .int x2)] → W p l e ({ frames := 1, cells := 0, slots := 0, locals := 23 } : Room) s m args below meth c H locs 0 0 (MQ below (va_Qi (fun (r' : Int32) (u : oa_M) => r' = o.1 ∧ u = o.2) (fun u t => oa_H D ca ad u t.heap) (fun q => b0 ≤ q)) args s 0 0 (fun q => b0 ≤ q)) (F0 m 4 ls [])) : ∀ (n : Nat), ∀ (x1 : Int32) (x2 : Int32) (n3 : Nat) (hn3 : n3 < oa_n 9) (x4 : Int32) (k0 : Nat) (hk0 : k0 < oa_n 9) (z1 : Int32) (M : oa_M), BX4_chooseForms_62 rec4 n x1 x2 n3 x4 k0 z1 M = some o → ∀ (H : Heap) (locs : List Loc), oa_H D ca ad M H → va_S (fun q => b0 ≤ q) s.heap H locs → ∀ (ls : Array Slot), lv_has ls 5 [(0, .ref (ad 0 0)), (1, .int x1), (2, .int x2), (3, .ref (ad 9 n3)), (4, .int x4)] → W p l e ({ frames := 1, cells := 0, slots := 0, locals := 23 } : Room) s m args below meth c H locs 0 0 (MQ below (va_Qi (fun (r' : Int32) (u : oa_M) => r' = o.1 ∧ u = o.2) (fun u t => oa_H D ca ad u t.heap) (fun q => b0 ≤ q)) args s 0 0 (fun q => b0 ≤ q)) (F0 m 62 ls [oa_fr ad z1, .ref (ad 9 k0)]) := by
  obtain ⟨hx, hb, hml, hr, hlocks, hown, hts, hE, hw⟩ := id C
  intro n x1 x2 n3 hn3 x4 k0 hk0 z1 M hf H locs hH hS ls hl
  unfold BX4_chooseForms_62 at hf
  refine oa_put (ci := 1) (C := RX1) (T := TX1) (N := 7) (v := oa_fr ad z1) (x := z1) hx hb hts inX1 tyX1 tyX1_ok nmX1 hown hE hw hH hS 9 k0 hk0 rfl rfl 6 (by decide) (hts _ tw_160) rfl (oa_nfr ad _) (oa_ffr ad _) (Nat.le_of_ble_eq_true rfl) rfl dX4_chooseForms_62 (fun H locs hH hS => ?_)
  refine lv_aload_n hx hb dX4_chooseForms_65 rfl (lv_at hl 3 rfl) ?_
  refine oa_get (ci := 1) (C := RX1) (T := TX1) (N := 7) (v := .int ((oa_up M 9 k0 6 z1) 9 n3 3)) hx hb hts inX1 hown hE hH 9 n3 hn3 rfl rfl 3 (by decide) (hts _ tw_157) rfl dX4_chooseForms_66 ?_
  refine lv_if_eq (tgt := 85) hx hb dX4_chooseForms_69 (by decide) (fun hq1 => ?_) (fun hq1 => ?_)
  · rw [if_pos hq1] at hf
    exact bX4_chooseForms_85 C _ hrec4 n x1 x2 n3 hn3 x4 _ hf _ _ hH hS _ (lv_sub hl [0, 1, 2, 3, 4] rfl)
  · rw [if_neg hq1] at hf
    refine lv_iload hx hb dX4_chooseForms_72 (lv_at hl 4 rfl) ?_
    refine lv_iconst (v := (-1 : Int32)) hx hb dX4_chooseForms_74 (by decide) ?_
    refine lv_icmp_ne (tgt := 85) hx hb dX4_chooseForms_75 (by decide) (fun hq2 => ?_) (fun hq2 => ?_)
    · rw [if_neg hq2] at hf
      exact bX4_chooseForms_85 C _ hrec4 n x1 x2 n3 hn3 x4 _ hf _ _ hH hS _ (lv_sub hl [0, 1, 2, 3, 4] rfl)
    · rw [if_pos hq2] at hf
      refine lv_iload_n hx hb dX4_chooseForms_78 rfl (lv_at hl 1 rfl) ?_
      refine lv_iconst (v := (-1 : Int32)) hx hb dX4_chooseForms_79 (by decide) ?_
      refine lv_icmp_ne (tgt := 85) hx hb dX4_chooseForms_80 (by decide) (fun hq3 => ?_) (fun hq3 => ?_)
      · rw [if_neg hq3] at hf
        exact bX4_chooseForms_85 C _ hrec4 n x1 x2 n3 hn3 x4 _ hf _ _ hH hS _ (lv_sub hl [0, 1, 2, 3, 4] rfl)
      · rw [if_pos hq3] at hf
        refine lv_iload_n hx hb dX4_chooseForms_83 rfl (lv_at hl 2 rfl) ?_
        refine lv_istore_n (lv' := [(1, .int x2), (0, .ref (ad 0 0)), (2, .int x2), (3, .ref (ad 9 n3)), (4, .int x4)]) hx hb dX4_chooseForms_84 rfl hl (by decide) rfl (fun ls hl => ?_)
        exact bX4_chooseForms_85 C _ hrec4 n x2 x2 n3 hn3 x4 _ hf _ _ hH hS _ (lv_sub hl [1, 0, 2, 3, 4] rfl)
set_option maxHeartbeats 4000000 in
set_option maxRecDepth 100000 in
theorem bX4_chooseForms_42 {p : Program} {l : Launch} {e : Env} {s : State} {m : MethodId} {args : Array Value} {below : List Frame} {meth : Method} {c : Code} {D : va_G} {ca : Nat → ClassId} {ad : Nat → Nat → Nat} {b0 : Nat} {o : Int32 × oa_M} (C : oa_Cx p s m args meth c cX4_chooseForms 5 (some .int) RX4 D ca b0 ad) (rec4 : Int32 → Int32 → oa_M → Option (Int32 × oa_M)) (hrec4 : ∀ (x1 : Int32) (x2 : Int32) (M : oa_M), rec4 x1 x2 M = some o → ∀ (H : Heap) (locs : List Loc), oa_H D ca ad M H → va_S (fun q => b0 ≤ q) s.heap H locs → ∀ (ls : Array Slot), lv_has ls 5 [(0, .ref (ad 0 0)), (1, .int x1), (2, .int x2)] → W p l e ({ frames := 1, cells := 0, slots := 0, locals := 23 } : Room) s m args below meth c H locs 0 0 (MQ below (va_Qi (fun (r' : Int32) (u : oa_M) => r' = o.1 ∧ u = o.2) (fun u t => oa_H D ca ad u t.heap) (fun q => b0 ≤ q)) args s 0 0 (fun q => b0 ≤ q)) (F0 m 4 ls [])) : ∀ (n : Nat), ∀ (x1 : Int32) (x2 : Int32) (n3 : Nat) (hn3 : n3 < oa_n 9) (z0 : Int32) (M : oa_M), BX4_chooseForms_42 rec4 n x1 x2 n3 z0 M = some o → ∀ (H : Heap) (locs : List Loc), oa_H D ca ad M H → va_S (fun q => b0 ≤ q) s.heap H locs → ∀ (ls : Array Slot), lv_has ls 5 [(0, .ref (ad 0 0)), (1, .int x1), (2, .int x2), (3, .ref (ad 9 n3))] → W p l e ({ frames := 1, cells := 0, slots := 0, locals := 23 } : Room) s m args below meth c H locs 0 0 (MQ below (va_Qi (fun (r' : Int32) (u : oa_M) => r' = o.1 ∧ u = o.2) (fun u t => oa_H D ca ad u t.heap) (fun q => b0 ≤ q)) args s 0 0 (fun q => b0 ≤ q)) (F0 m 42 ls [.int z0]) := by
  obtain ⟨hx, hb, hml, hr, hlocks, hown, hts, hE, hw⟩ := id C
  intro n x1 x2 n3 hn3 z0 M hf H locs hH hS ls hl
  unfold BX4_chooseForms_42 at hf
  refine lv_istore (lv' := [(4, .int z0), (0, .ref (ad 0 0)), (1, .int x1), (2, .int x2), (3, .ref (ad 9 n3))]) hx hb dX4_chooseForms_42 hl (by decide) rfl (fun ls hl => ?_)
  refine lv_aload_n hx hb dX4_chooseForms_44 rfl (lv_at hl 4 rfl) ?_
  refine lv_iload hx hb dX4_chooseForms_45 (lv_at hl 0 rfl) ?_
  refine lv_iconst (v := (-1 : Int32)) hx hb dX4_chooseForms_47 (by decide) ?_
  refine lv_icmp_ne (tgt := 55) hx hb dX4_chooseForms_48 (by decide) (fun hq1 => ?_) (fun hq1 => ?_)
  · rw [if_neg hq1] at hf
    refine lv_aload_n hx hb dX4_chooseForms_55 rfl (lv_at hl 1 rfl) ?_
    refine oa_get (ci := 4) (C := RX4) (T := TX4) (N := 9) (v := .ref (ad 4 0)) hx hb hts inX4 hown hE hH 0 0 (by decide) rfl rfl 3 (by decide) (hts _ tw_179) rfl dX4_chooseForms_56 ?_
    refine lv_iload hx hb dX4_chooseForms_59 (lv_at hl 0 rfl) ?_
    obtain ⟨hk2, hf⟩ := oa_ck hf
    refine oa_ald (g := fun j => ad 5 j) hx hb hE hH 4 0 (by decide) 13 3 rfl rfl (oa_in_vp hk2) dX4_chooseForms_61 ?_
    rw [← oa_frv (ad := ad) (oa_in_vp hk2)]
    exact bX4_chooseForms_62 C _ hrec4 n x1 x2 n3 hn3 z0 n3 hn3 z0 _ hf _ _ hH hS _ (lv_sub hl [1, 2, 3, 4, 0] rfl)
  · rw [if_pos hq1] at hf
    refine lv_null hx hb dX4_chooseForms_51 ?_
    refine lv_goto (tgt := 62) hx hb dX4_chooseForms_52 (by decide) ?_
    rw [← oa_fr_none (ad := ad)]
    exact bX4_chooseForms_62 C _ hrec4 n x1 x2 n3 hn3 z0 n3 hn3 (-1 : Int32) _ hf _ _ hH hS _ (lv_sub hl [1, 2, 3, 4, 0] rfl)
set_option maxHeartbeats 4000000 in
set_option maxRecDepth 100000 in
theorem bX4_chooseForms_4 {p : Program} {l : Launch} {e : Env} {s : State} {m : MethodId} {args : Array Value} {below : List Frame} {meth : Method} {c : Code} {D : va_G} {ca : Nat → ClassId} {ad : Nat → Nat → Nat} {b0 : Nat} {o : Int32 × oa_M} (C : oa_Cx p s m args meth c cX4_chooseForms 5 (some .int) RX4 D ca b0 ad) : ∀ (n : Nat), ∀ (x1 : Int32) (x2 : Int32) (M : oa_M), BX4_chooseForms_4 n x1 x2 M = some o → ∀ (H : Heap) (locs : List Loc), oa_H D ca ad M H → va_S (fun q => b0 ≤ q) s.heap H locs → ∀ (ls : Array Slot), lv_has ls 5 [(0, .ref (ad 0 0)), (1, .int x1), (2, .int x2)] → W p l e ({ frames := 1, cells := 0, slots := 0, locals := 23 } : Room) s m args below meth c H locs 0 0 (MQ below (va_Qi (fun (r' : Int32) (u : oa_M) => r' = o.1 ∧ u = o.2) (fun u t => oa_H D ca ad u t.heap) (fun q => b0 ≤ q)) args s 0 0 (fun q => b0 ≤ q)) (F0 m 4 ls []) := by
  obtain ⟨hx, hb, hml, hr, hlocks, hown, hts, hE, hw⟩ := id C
  intro n
  induction n with
  | zero => intro x1 x2 M hf; cases hf
  | succ n ih =>
    intro x1 x2 M hf H locs hH hS ls hl
    have hrec4 := ih
    unfold BX4_chooseForms_4 at hf
    refine lv_iload_n hx hb dX4_chooseForms_4 rfl (lv_at hl 2 rfl) ?_
    refine lv_aload_n hx hb dX4_chooseForms_5 rfl (lv_at hl 0 rfl) ?_
    refine oa_get (ci := 4) (C := RX4) (T := TX4) (N := 9) (v := .int (M 0 0 6)) hx hb hts inX4 hown hE hH 0 0 (by decide) rfl rfl 6 (by decide) (hts _ tw_182) rfl dX4_chooseForms_6 ?_
    refine lv_icmp_ge (tgt := 91) hx hb dX4_chooseForms_9 (by decide) (fun hq1 => ?_) (fun hq1 => ?_)
    · rw [if_pos hq1] at hf
      refine lv_iload_n hx hb dX4_chooseForms_91 rfl (lv_at hl 1 rfl) ?_
      cases hf
      exact oa_reti hx hb hr hlocks rfl hS hH dX4_chooseForms_92
    · rw [if_neg hq1] at hf
      refine lv_aload_n hx hb dX4_chooseForms_12 rfl (lv_at hl 0 rfl) ?_
      refine oa_get (ci := 4) (C := RX4) (T := TX4) (N := 9) (v := .ref (ad 8 0)) hx hb hts inX4 hown hE hH 0 0 (by decide) rfl rfl 4 (by decide) (hts _ tw_180) rfl dX4_chooseForms_13 ?_
      refine lv_iload_n hx hb dX4_chooseForms_16 rfl (lv_at hl 2 rfl) ?_
      obtain ⟨hk2, hf⟩ := oa_ck hf
      refine oa_ald (g := fun j => ad 9 j) hx hb hE hH 8 0 (by decide) 21 4 rfl rfl (oa_in_vp hk2) dX4_chooseForms_17 ?_
      refine lv_astore_n (lv' := [(3, .ref (ad 9 x2.toNatClampNeg)), (0, .ref (ad 0 0)), (1, .int x1), (2, .int x2)]) hx hb dX4_chooseForms_18 rfl hl (by decide) rfl (fun ls hl => ?_)
      refine lv_aload_n hx hb dX4_chooseForms_19 rfl (lv_at hl 0 rfl) ?_
      refine oa_get (ci := 1) (C := RX1) (T := TX1) (N := 7) (v := .int (M 9 x2.toNatClampNeg 3)) hx hb hts inX1 hown hE hH 9 x2.toNatClampNeg (oa_lt (oa_in_vp hk2)) rfl rfl 3 (by decide) (hts _ tw_157) rfl dX4_chooseForms_20 ?_
      refine lv_if_ne (tgt := 30) hx hb dX4_chooseForms_23 (by decide) (fun hq3 => ?_) (fun hq3 => ?_)
      · rw [if_neg hq3] at hf
        refine lv_aload_n hx hb dX4_chooseForms_30 rfl (lv_at hl 1 rfl) ?_
        refine lv_aload_n hx hb dX4_chooseForms_31 rfl (lv_at hl 0 rfl) ?_
        refine oa_get (ci := 1) (C := RX1) (T := TX1) (N := 7) (v := .int (M 9 x2.toNatClampNeg 3)) hx hb hts inX1 hown hE hH 9 x2.toNatClampNeg (oa_lt (oa_in_vp hk2)) rfl rfl 3 (by decide) (hts _ tw_157) rfl dX4_chooseForms_32 ?_
        refine lv_aload_n hx hb dX4_chooseForms_35 rfl (lv_at hl 0 rfl) ?_
        refine oa_get (ci := 1) (C := RX1) (T := TX1) (N := 7) (v := .int (M 9 x2.toNatClampNeg 4)) hx hb hts inX1 hown hE hH 9 x2.toNatClampNeg (oa_lt (oa_in_vp hk2)) rfl rfl 4 (by decide) (hts _ tw_158) rfl dX4_chooseForms_36 ?_
        obtain ⟨r4, M5, hc6, hf⟩ := oa_bdE hf
        refine oa_cvi (As := [.int (M 9 x2.toNatClampNeg 3), .int (M 9 x2.toNatClampNeg 4)]) (rest := []) ⟨hx, hb, hml, hown, hts⟩ (cX4_findForm_ok l D ca ad b0 hw n (M 9 x2.toNatClampNeg 3) (M 9 x2.toNatClampNeg 4) _ _ _ hc6) (cwV 2 hts (oa_gV tw_390 tw_392 tw_2 tw_44 tw_393) rfl rfl rfl (by decide +kernel) ⟨Nat.le_of_ble_eq_true rfl, Nat.le_of_ble_eq_true rfl⟩) hE hH hS (oa_recv (k := 0) (ci := 4) hE hH (by decide) rfl rfl) rfl hl.1 rfl (Nat.le_of_ble_eq_true rfl) dX4_chooseForms_39 ⟨by decide, by decide⟩ (fun H locs hH hS => ?_)
        exact bX4_chooseForms_42 C _ hrec4 n x1 x2 x2.toNatClampNeg (oa_lt (oa_in_vp hk2)) r4 _ hf _ _ hH hS _ (lv_sub hl [1, 2, 3, 0] rfl)
      · rw [if_pos hq3] at hf
        refine lv_iconst (v := (-1 : Int32)) hx hb dX4_chooseForms_26 (by decide) ?_
        refine lv_goto (tgt := 42) hx hb dX4_chooseForms_27 (by decide) ?_
        exact bX4_chooseForms_42 C _ hrec4 n x1 x2 x2.toNatClampNeg (oa_lt (oa_in_vp hk2)) (-1 : Int32) _ hf _ _ hH hS _ (lv_sub hl [1, 2, 3, 0] rfl)
set_option maxHeartbeats 4000000 in
set_option maxRecDepth 100000 in
theorem cX4_chooseForms_k (l : Launch) (D : va_G) (ca : Nat → ClassId) (ad : Nat → Nat → Nat) (b0 : Nat) (hw : oa_W ad b0) (n : Nat)  (M : oa_M) (o : Int32 × oa_M) (hf : FX4_chooseForms n  M = some o) : oa_Mi l yX4_chooseForms (oa_w yX4_chooseForms cX4_chooseForms 5 (some .int)) ({ frames := 1, cells := 0, slots := 0, locals := 23 } : Room) D ca ad b0 [.ref (ad 0 0)] M o.1 o.2 := by
  refine oa_ofW (cc := cX4_chooseForms) (maxL := 5) (ret := some .int) (by decide) rfl (Nat.le_of_ble_eq_true rfl) ?_
  intro p e s m below meth c hx hb hml hr hlocks hown hts0 hP ls hl
  obtain ⟨hH, hE⟩ := hP
  have hts : ∀ w ∈ oa_T, w.before _ s = true := fun w h => hts0 w (List.mem_cons_of_mem _ h)
  have hS : va_S (fun q => b0 ≤ q) s.heap s.heap [] := va_S.rf
  have C : oa_Cx p s m _ meth c cX4_chooseForms 5 (some .int) RX4 D ca b0 ad := ⟨hx, hb, hml, hr, hlocks, hown, hts, hE, hw⟩
  have hl : lv_has ls 5 [(0, .ref (ad 0 0))] := hl
  unfold FX4_chooseForms at hf
  refine lv_iconst (v := (-1 : Int32)) hx hb dX4_chooseForms_0 (by decide) ?_
  refine lv_istore_n (lv' := [(1, .int (-1 : Int32)), (0, .ref (ad 0 0))]) hx hb dX4_chooseForms_1 rfl hl (by decide) rfl (fun ls hl => ?_)
  refine lv_iconst (v := (0 : Int32)) hx hb dX4_chooseForms_2 (by decide) ?_
  refine lv_istore_n (lv' := [(2, .int (0 : Int32)), (1, .int (-1 : Int32)), (0, .ref (ad 0 0))]) hx hb dX4_chooseForms_3 rfl hl (by decide) rfl (fun ls hl => ?_)
  exact bX4_chooseForms_4 C n (-1 : Int32) (0 : Int32) _ hf _ _ hH hS _ (lv_sub hl [2, 1, 0] rfl)
theorem cX4_chooseForms_ok (l : Launch) (D : va_G) (ca : Nat → ClassId) (ad : Nat → Nat → Nat) (b0 : Nat) (hw : oa_W ad b0) (n : Nat)  (M : oa_M) (r : Int32) (M' : oa_M) (hf : FX4_chooseForms n  M = some (r, M')) : oa_Mi l yX4_chooseForms (oa_w yX4_chooseForms cX4_chooseForms 5 (some .int)) ({ frames := 1, cells := 0, slots := 0, locals := 23 } : Room) D ca ad b0 [.ref (ad 0 0)] M r M' := cX4_chooseForms_k l D ca ad b0 hw n  M (r, M') hf
def BX4_firstWithUnknownLabel_53 (rec2 : Int32 → oa_M → Option (Int32 × oa_M)) (rec12 : Int32 → Int32 → oa_M → Option (Int32 × oa_M)) (n : Nat) (x1 : Int32) (x2 : Int32) (x3 : Int32) (M : oa_M) : Option (Int32 × oa_M) := (rec12 x1 (x2 + (1 : Int32)) M)
def BX4_firstWithUnknownLabel_12 (rec2 : Int32 → oa_M → Option (Int32 × oa_M)) : Nat → Int32 → Int32 → oa_M → Option (Int32 × oa_M)
  | 0, _, _, _ => none
  | n + 1, x1, x2, M => (if oa_in x1 21 = true then (if (M 9 x1.toNatClampNeg 4) ≤ x2 then (rec2 (x1 + (1 : Int32)) M) else (if oa_in x1 21 = true then (if oa_in x2 3 = true then (if (M 10 x1.toNatClampNeg x2.toNatClampNeg) = (-1 : Int32) then (BX4_firstWithUnknownLabel_53 rec2 (BX4_firstWithUnknownLabel_12 rec2 n) n x1 x2 (M 10 x1.toNatClampNeg x2.toNatClampNeg) M) else (oa_bd (FX4_findLabel n (M 10 x1.toNatClampNeg x2.toNatClampNeg) M) (fun r6 M7 => (if r6 = (-1 : Int32) then (some (x1, M7)) else (BX4_firstWithUnknownLabel_53 rec2 (BX4_firstWithUnknownLabel_12 rec2 n) n x1 x2 (M 10 x1.toNatClampNeg x2.toNatClampNeg) M7))))) else none) else none)) else none)
def BX4_firstWithUnknownLabel_2 : Nat → Int32 → oa_M → Option (Int32 × oa_M)
  | 0, _, _ => none
  | n + 1, x1, M => (if (M 0 0 6) ≤ x1 then (some ((-1 : Int32), M)) else (BX4_firstWithUnknownLabel_12 (BX4_firstWithUnknownLabel_2 n) n x1 (0 : Int32) M))
def FX4_firstWithUnknownLabel (n : Nat)  (M : oa_M) : Option (Int32 × oa_M) := (BX4_firstWithUnknownLabel_2 n (0 : Int32) M)
set_option maxHeartbeats 4000000 in
set_option maxRecDepth 100000 in
theorem bX4_firstWithUnknownLabel_53 {p : Program} {l : Launch} {e : Env} {s : State} {m : MethodId} {args : Array Value} {below : List Frame} {meth : Method} {c : Code} {D : va_G} {ca : Nat → ClassId} {ad : Nat → Nat → Nat} {b0 : Nat} {o : Int32 × oa_M} (C : oa_Cx p s m args meth c cX4_firstWithUnknownLabel 4 (some .int) RX4 D ca b0 ad) (rec2 : Int32 → oa_M → Option (Int32 × oa_M)) (hrec2 : ∀ (x1 : Int32) (M : oa_M), rec2 x1 M = some o → ∀ (H : Heap) (locs : List Loc), oa_H D ca ad M H → va_S (fun q => b0 ≤ q) s.heap H locs → ∀ (ls : Array Slot), lv_has ls 4 [(0, .ref (ad 0 0)), (1, .int x1)] → W p l e ({ frames := 1, cells := 0, slots := 0, locals := 22 } : Room) s m args below meth c H locs 0 0 (MQ below (va_Qi (fun (r' : Int32) (u : oa_M) => r' = o.1 ∧ u = o.2) (fun u t => oa_H D ca ad u t.heap) (fun q => b0 ≤ q)) args s 0 0 (fun q => b0 ≤ q)) (F0 m 2 ls [])) (rec12 : Int32 → Int32 → oa_M → Option (Int32 × oa_M)) (hrec12 : ∀ (x1 : Int32) (x2 : Int32) (M : oa_M), rec12 x1 x2 M = some o → ∀ (H : Heap) (locs : List Loc), oa_H D ca ad M H → va_S (fun q => b0 ≤ q) s.heap H locs → ∀ (ls : Array Slot), lv_has ls 4 [(0, .ref (ad 0 0)), (1, .int x1), (2, .int x2)] → W p l e ({ frames := 1, cells := 0, slots := 0, locals := 22 } : Room) s m args below meth c H locs 0 0 (MQ below (va_Qi (fun (r' : Int32) (u : oa_M) => r' = o.1 ∧ u = o.2) (fun u t => oa_H D ca ad u t.heap) (fun q => b0 ≤ q)) args s 0 0 (fun q => b0 ≤ q)) (F0 m 12 ls [])) : ∀ (n : Nat), ∀ (x1 : Int32) (x2 : Int32) (x3 : Int32) (M : oa_M), BX4_firstWithUnknownLabel_53 rec2 rec12 n x1 x2 x3 M = some o → ∀ (H : Heap) (locs : List Loc), oa_H D ca ad M H → va_S (fun q => b0 ≤ q) s.heap H locs → ∀ (ls : Array Slot), lv_has ls 4 [(0, .ref (ad 0 0)), (1, .int x1), (2, .int x2), (3, .int x3)] → W p l e ({ frames := 1, cells := 0, slots := 0, locals := 22 } : Room) s m args below meth c H locs 0 0 (MQ below (va_Qi (fun (r' : Int32) (u : oa_M) => r' = o.1 ∧ u = o.2) (fun u t => oa_H D ca ad u t.heap) (fun q => b0 ≤ q)) args s 0 0 (fun q => b0 ≤ q)) (F0 m 53 ls []) := by
  obtain ⟨hx, hb, hml, hr, hlocks, hown, hts, hE, hw⟩ := id C
  intro n x1 x2 x3 M hf H locs hH hS ls hl
  unfold BX4_firstWithUnknownLabel_53 at hf
  refine lv_iinc (v := (x2 + (1 : Int32))) (lv' := [(2, .int (x2 + (1 : Int32))), (0, .ref (ad 0 0)), (1, .int x1), (3, .int x3)]) hx hb dX4_firstWithUnknownLabel_53 hl (k := 2) rfl rfl (by decide) rfl (fun ls hl => ?_)
  refine lv_goto (tgt := 12) hx hb dX4_firstWithUnknownLabel_56 (by decide) ?_
  exact hrec12 x1 (x2 + (1 : Int32)) _ hf _ _ hH hS _ (lv_sub hl [1, 2, 0] rfl)
set_option maxHeartbeats 4000000 in
set_option maxRecDepth 100000 in
theorem bX4_firstWithUnknownLabel_12 {p : Program} {l : Launch} {e : Env} {s : State} {m : MethodId} {args : Array Value} {below : List Frame} {meth : Method} {c : Code} {D : va_G} {ca : Nat → ClassId} {ad : Nat → Nat → Nat} {b0 : Nat} {o : Int32 × oa_M} (C : oa_Cx p s m args meth c cX4_firstWithUnknownLabel 4 (some .int) RX4 D ca b0 ad) (rec2 : Int32 → oa_M → Option (Int32 × oa_M)) (hrec2 : ∀ (x1 : Int32) (M : oa_M), rec2 x1 M = some o → ∀ (H : Heap) (locs : List Loc), oa_H D ca ad M H → va_S (fun q => b0 ≤ q) s.heap H locs → ∀ (ls : Array Slot), lv_has ls 4 [(0, .ref (ad 0 0)), (1, .int x1)] → W p l e ({ frames := 1, cells := 0, slots := 0, locals := 22 } : Room) s m args below meth c H locs 0 0 (MQ below (va_Qi (fun (r' : Int32) (u : oa_M) => r' = o.1 ∧ u = o.2) (fun u t => oa_H D ca ad u t.heap) (fun q => b0 ≤ q)) args s 0 0 (fun q => b0 ≤ q)) (F0 m 2 ls [])) : ∀ (n : Nat), ∀ (x1 : Int32) (x2 : Int32) (M : oa_M), BX4_firstWithUnknownLabel_12 rec2 n x1 x2 M = some o → ∀ (H : Heap) (locs : List Loc), oa_H D ca ad M H → va_S (fun q => b0 ≤ q) s.heap H locs → ∀ (ls : Array Slot), lv_has ls 4 [(0, .ref (ad 0 0)), (1, .int x1), (2, .int x2)] → W p l e ({ frames := 1, cells := 0, slots := 0, locals := 22 } : Room) s m args below meth c H locs 0 0 (MQ below (va_Qi (fun (r' : Int32) (u : oa_M) => r' = o.1 ∧ u = o.2) (fun u t => oa_H D ca ad u t.heap) (fun q => b0 ≤ q)) args s 0 0 (fun q => b0 ≤ q)) (F0 m 12 ls []) := by
  obtain ⟨hx, hb, hml, hr, hlocks, hown, hts, hE, hw⟩ := id C
  intro n
  induction n with
  | zero => intro x1 x2 M hf; cases hf
  | succ n ih =>
    intro x1 x2 M hf H locs hH hS ls hl
    have hrec12 := ih
    unfold BX4_firstWithUnknownLabel_12 at hf
    refine lv_iload_n hx hb dX4_firstWithUnknownLabel_12 rfl (lv_at hl 2 rfl) ?_
    refine lv_aload_n hx hb dX4_firstWithUnknownLabel_13 rfl (lv_at hl 0 rfl) ?_
    refine oa_get (ci := 4) (C := RX4) (T := TX4) (N := 9) (v := .ref (ad 8 0)) hx hb hts inX4 hown hE hH 0 0 (by decide) rfl rfl 4 (by decide) (hts _ tw_180) rfl dX4_firstWithUnknownLabel_14 ?_
    refine lv_iload_n hx hb dX4_firstWithUnknownLabel_17 rfl (lv_at hl 1 rfl) ?_
    obtain ⟨hk1, hf⟩ := oa_ck hf
    refine oa_ald (g := fun j => ad 9 j) hx hb hE hH 8 0 (by decide) 21 4 rfl rfl (oa_in_vp hk1) dX4_firstWithUnknownLabel_18 ?_
    refine oa_get (ci := 1) (C := RX1) (T := TX1) (N := 7) (v := .int (M 9 x1.toNatClampNeg 4)) hx hb hts inX1 hown hE hH 9 x1.toNatClampNeg (oa_lt (oa_in_vp hk1)) rfl rfl 4 (by decide) (hts _ tw_158) rfl dX4_firstWithUnknownLabel_19 ?_
    refine lv_icmp_ge (tgt := 59) hx hb dX4_firstWithUnknownLabel_22 (by decide) (fun hq2 => ?_) (fun hq2 => ?_)
    · rw [if_pos hq2] at hf
      refine lv_iinc (v := (x1 + (1 : Int32))) (lv' := [(1, .int (x1 + (1 : Int32))), (0, .ref (ad 0 0)), (2, .int x2)]) hx hb dX4_firstWithUnknownLabel_59 hl (k := 1) rfl rfl (by decide) rfl (fun ls hl => ?_)
      refine lv_goto (tgt := 2) hx hb dX4_firstWithUnknownLabel_62 (by decide) ?_
      exact hrec2 (x1 + (1 : Int32)) _ hf _ _ hH hS _ (lv_sub hl [1, 0] rfl)
    · rw [if_neg hq2] at hf
      refine lv_aload_n hx hb dX4_firstWithUnknownLabel_25 rfl (lv_at hl 0 rfl) ?_
      refine oa_get (ci := 4) (C := RX4) (T := TX4) (N := 9) (v := .ref (ad 8 0)) hx hb hts inX4 hown hE hH 0 0 (by decide) rfl rfl 4 (by decide) (hts _ tw_180) rfl dX4_firstWithUnknownLabel_26 ?_
      refine lv_iload_n hx hb dX4_firstWithUnknownLabel_29 rfl (lv_at hl 1 rfl) ?_
      obtain ⟨hk3, hf⟩ := oa_ck hf
      refine oa_ald (g := fun j => ad 9 j) hx hb hE hH 8 0 (by decide) 21 4 rfl rfl (oa_in_vp hk3) dX4_firstWithUnknownLabel_30 ?_
      refine oa_get (ci := 1) (C := RX1) (T := TX1) (N := 7) (v := .ref (ad 10 x1.toNatClampNeg)) hx hb hts inX1 hown hE hH 9 x1.toNatClampNeg (oa_lt (oa_in_vp hk3)) rfl rfl 0 (by decide) (hts _ tw_153) rfl dX4_firstWithUnknownLabel_31 ?_
      refine lv_iload_n hx hb dX4_firstWithUnknownLabel_34 rfl (lv_at hl 2 rfl) ?_
      obtain ⟨hk4, hf⟩ := oa_ck hf
      refine oa_ild (v := (M 10 x1.toNatClampNeg x2.toNatClampNeg)) hx hb hE hH 10 x1.toNatClampNeg (oa_lt (oa_in_vp hk3)) 3 rfl rfl (oa_in_vp hk4) dX4_firstWithUnknownLabel_35 ?_
      refine lv_istore_n (lv' := [(3, .int (M 10 x1.toNatClampNeg x2.toNatClampNeg)), (0, .ref (ad 0 0)), (1, .int x1), (2, .int x2)]) hx hb dX4_firstWithUnknownLabel_36 rfl hl (by decide) rfl (fun ls hl => ?_)
      refine lv_iload_n hx hb dX4_firstWithUnknownLabel_37 rfl (lv_at hl 0 rfl) ?_
      refine lv_iconst (v := (-1 : Int32)) hx hb dX4_firstWithUnknownLabel_38 (by decide) ?_
      refine lv_icmp_eq (tgt := 53) hx hb dX4_firstWithUnknownLabel_39 (by decide) (fun hq5 => ?_) (fun hq5 => ?_)
      · rw [if_pos hq5] at hf
        exact bX4_firstWithUnknownLabel_53 C _ hrec2 _ hrec12 n x1 x2 (M 10 x1.toNatClampNeg x2.toNatClampNeg) _ hf _ _ hH hS _ (lv_sub hl [1, 2, 3, 0] rfl)
      · rw [if_neg hq5] at hf
        refine lv_aload_n hx hb dX4_firstWithUnknownLabel_42 rfl (lv_at hl 1 rfl) ?_
        refine lv_iload_n hx hb dX4_firstWithUnknownLabel_43 rfl (lv_at hl 0 rfl) ?_
        obtain ⟨r6, M7, hc8, hf⟩ := oa_bdE hf
        refine oa_cvi (As := [.int (M 10 x1.toNatClampNeg x2.toNatClampNeg)]) (rest := []) ⟨hx, hb, hml, hown, hts⟩ (cX4_findLabel_ok l D ca ad b0 hw n (M 10 x1.toNatClampNeg x2.toNatClampNeg) _ _ _ hc8) (cwV 1 hts (oa_gV tw_537 tw_539 tw_11 tw_44 tw_540) rfl rfl rfl (by decide +kernel) ⟨Nat.le_of_ble_eq_true rfl, Nat.le_of_ble_eq_true rfl⟩) hE hH hS (oa_recv (k := 0) (ci := 4) hE hH (by decide) rfl rfl) rfl hl.1 rfl (Nat.le_of_ble_eq_true rfl) dX4_firstWithUnknownLabel_44 ⟨by decide, by decide⟩ (fun H locs hH hS => ?_)
        refine lv_iconst (v := (-1 : Int32)) hx hb dX4_firstWithUnknownLabel_47 (by decide) ?_
        refine lv_icmp_ne (tgt := 53) hx hb dX4_firstWithUnknownLabel_48 (by decide) (fun hq9 => ?_) (fun hq9 => ?_)
        · rw [if_neg hq9] at hf
          exact bX4_firstWithUnknownLabel_53 C _ hrec2 _ hrec12 n x1 x2 (M 10 x1.toNatClampNeg x2.toNatClampNeg) _ hf _ _ hH hS _ (lv_sub hl [1, 2, 3, 0] rfl)
        · rw [if_pos hq9] at hf
          refine lv_iload_n hx hb dX4_firstWithUnknownLabel_51 rfl (lv_at hl 2 rfl) ?_
          cases hf
          exact oa_reti hx hb hr hlocks rfl hS hH dX4_firstWithUnknownLabel_52
set_option maxHeartbeats 4000000 in
set_option maxRecDepth 100000 in
theorem bX4_firstWithUnknownLabel_2 {p : Program} {l : Launch} {e : Env} {s : State} {m : MethodId} {args : Array Value} {below : List Frame} {meth : Method} {c : Code} {D : va_G} {ca : Nat → ClassId} {ad : Nat → Nat → Nat} {b0 : Nat} {o : Int32 × oa_M} (C : oa_Cx p s m args meth c cX4_firstWithUnknownLabel 4 (some .int) RX4 D ca b0 ad) : ∀ (n : Nat), ∀ (x1 : Int32) (M : oa_M), BX4_firstWithUnknownLabel_2 n x1 M = some o → ∀ (H : Heap) (locs : List Loc), oa_H D ca ad M H → va_S (fun q => b0 ≤ q) s.heap H locs → ∀ (ls : Array Slot), lv_has ls 4 [(0, .ref (ad 0 0)), (1, .int x1)] → W p l e ({ frames := 1, cells := 0, slots := 0, locals := 22 } : Room) s m args below meth c H locs 0 0 (MQ below (va_Qi (fun (r' : Int32) (u : oa_M) => r' = o.1 ∧ u = o.2) (fun u t => oa_H D ca ad u t.heap) (fun q => b0 ≤ q)) args s 0 0 (fun q => b0 ≤ q)) (F0 m 2 ls []) := by
  obtain ⟨hx, hb, hml, hr, hlocks, hown, hts, hE, hw⟩ := id C
  intro n
  induction n with
  | zero => intro x1 M hf; cases hf
  | succ n ih =>
    intro x1 M hf H locs hH hS ls hl
    have hrec2 := ih
    unfold BX4_firstWithUnknownLabel_2 at hf
    refine lv_iload_n hx hb dX4_firstWithUnknownLabel_2 rfl (lv_at hl 1 rfl) ?_
    refine lv_aload_n hx hb dX4_firstWithUnknownLabel_3 rfl (lv_at hl 0 rfl) ?_
    refine oa_get (ci := 4) (C := RX4) (T := TX4) (N := 9) (v := .int (M 0 0 6)) hx hb hts inX4 hown hE hH 0 0 (by decide) rfl rfl 6 (by decide) (hts _ tw_182) rfl dX4_firstWithUnknownLabel_4 ?_
    refine lv_icmp_ge (tgt := 65) hx hb dX4_firstWithUnknownLabel_7 (by decide) (fun hq1 => ?_) (fun hq1 => ?_)
    · rw [if_pos hq1] at hf
      refine lv_iconst (v := (-1 : Int32)) hx hb dX4_firstWithUnknownLabel_65 (by decide) ?_
      cases hf
      exact oa_reti hx hb hr hlocks rfl hS hH dX4_firstWithUnknownLabel_66
    · rw [if_neg hq1] at hf
      refine lv_iconst (v := (0 : Int32)) hx hb dX4_firstWithUnknownLabel_10 (by decide) ?_
      refine lv_istore_n (lv' := [(2, .int (0 : Int32)), (0, .ref (ad 0 0)), (1, .int x1)]) hx hb dX4_firstWithUnknownLabel_11 rfl hl (by decide) rfl (fun ls hl => ?_)
      exact bX4_firstWithUnknownLabel_12 C _ hrec2 n x1 (0 : Int32) _ hf _ _ hH hS _ (lv_sub hl [1, 2, 0] rfl)
set_option maxHeartbeats 4000000 in
set_option maxRecDepth 100000 in
theorem cX4_firstWithUnknownLabel_k (l : Launch) (D : va_G) (ca : Nat → ClassId) (ad : Nat → Nat → Nat) (b0 : Nat) (hw : oa_W ad b0) (n : Nat)  (M : oa_M) (o : Int32 × oa_M) (hf : FX4_firstWithUnknownLabel n  M = some o) : oa_Mi l yX4_firstWithUnknownLabel (oa_w yX4_firstWithUnknownLabel cX4_firstWithUnknownLabel 4 (some .int)) ({ frames := 1, cells := 0, slots := 0, locals := 22 } : Room) D ca ad b0 [.ref (ad 0 0)] M o.1 o.2 := by
  refine oa_ofW (cc := cX4_firstWithUnknownLabel) (maxL := 4) (ret := some .int) (by decide) rfl (Nat.le_of_ble_eq_true rfl) ?_
  intro p e s m below meth c hx hb hml hr hlocks hown hts0 hP ls hl
  obtain ⟨hH, hE⟩ := hP
  have hts : ∀ w ∈ oa_T, w.before _ s = true := fun w h => hts0 w (List.mem_cons_of_mem _ h)
  have hS : va_S (fun q => b0 ≤ q) s.heap s.heap [] := va_S.rf
  have C : oa_Cx p s m _ meth c cX4_firstWithUnknownLabel 4 (some .int) RX4 D ca b0 ad := ⟨hx, hb, hml, hr, hlocks, hown, hts, hE, hw⟩
  have hl : lv_has ls 4 [(0, .ref (ad 0 0))] := hl
  unfold FX4_firstWithUnknownLabel at hf
  refine lv_iconst (v := (0 : Int32)) hx hb dX4_firstWithUnknownLabel_0 (by decide) ?_
  refine lv_istore_n (lv' := [(1, .int (0 : Int32)), (0, .ref (ad 0 0))]) hx hb dX4_firstWithUnknownLabel_1 rfl hl (by decide) rfl (fun ls hl => ?_)
  exact bX4_firstWithUnknownLabel_2 C n (0 : Int32) _ hf _ _ hH hS _ (lv_sub hl [1, 0] rfl)
theorem cX4_firstWithUnknownLabel_ok (l : Launch) (D : va_G) (ca : Nat → ClassId) (ad : Nat → Nat → Nat) (b0 : Nat) (hw : oa_W ad b0) (n : Nat)  (M : oa_M) (r : Int32) (M' : oa_M) (hf : FX4_firstWithUnknownLabel n  M = some (r, M')) : oa_Mi l yX4_firstWithUnknownLabel (oa_w yX4_firstWithUnknownLabel cX4_firstWithUnknownLabel 4 (some .int)) ({ frames := 1, cells := 0, slots := 0, locals := 22 } : Room) D ca ad b0 [.ref (ad 0 0)] M r M' := cX4_firstWithUnknownLabel_k l D ca ad b0 hw n  M (r, M') hf
def BX4_placeLines_49 (rec4 : Int32 → Int32 → Int32 → oa_M → Option (Int32 × oa_M)) (n : Nat) (x1 : Int32) (x2 : Int32) (x3 : Int32) (M : oa_M) : Option (Int32 × oa_M) := (rec4 x1 x2 (x3 + (1 : Int32)) M)
def BX4_placeLines_4 : Nat → Int32 → Int32 → Int32 → oa_M → Option (Int32 × oa_M)
  | 0, _, _, _, _ => none
  | n + 1, x1, x2, x3, M => (if (M 0 0 6) ≤ x3 then (some (x2, M)) else (if oa_in x3 21 = true then (if oa_in x3 21 = true then (if ((oa_up M 9 x3.toNatClampNeg 5 x2) 9 x3.toNatClampNeg 6) < 0 then (BX4_placeLines_49 (BX4_placeLines_4 n) n x1 x2 x3 (oa_up M 9 x3.toNatClampNeg 5 x2)) else (if oa_in x3 21 = true then (if oa_in ((oa_up M 9 x3.toNatClampNeg 5 x2) 9 x3.toNatClampNeg 6) 13 = true then (BX4_placeLines_49 (BX4_placeLines_4 n) n x1 (x2 + (M 5 (((oa_up M 9 x3.toNatClampNeg 5 x2) 9 x3.toNatClampNeg 6).toNatClampNeg) 2)) x3 (oa_up M 9 x3.toNatClampNeg 5 x2)) else none) else none)) else none) else none))
def FX4_placeLines (n : Nat) (x1 : Int32) (M : oa_M) : Option (Int32 × oa_M) := (BX4_placeLines_4 n x1 x1 (0 : Int32) M)
set_option maxHeartbeats 4000000 in
set_option maxRecDepth 100000 in
theorem bX4_placeLines_49 {p : Program} {l : Launch} {e : Env} {s : State} {m : MethodId} {args : Array Value} {below : List Frame} {meth : Method} {c : Code} {D : va_G} {ca : Nat → ClassId} {ad : Nat → Nat → Nat} {b0 : Nat} {o : Int32 × oa_M} (C : oa_Cx p s m args meth c cX4_placeLines 4 (some .int) RX4 D ca b0 ad) (rec4 : Int32 → Int32 → Int32 → oa_M → Option (Int32 × oa_M)) (hrec4 : ∀ (x1 : Int32) (x2 : Int32) (x3 : Int32) (M : oa_M), rec4 x1 x2 x3 M = some o → ∀ (H : Heap) (locs : List Loc), oa_H D ca ad M H → va_S (fun q => b0 ≤ q) s.heap H locs → ∀ (ls : Array Slot), lv_has ls 4 [(0, .ref (ad 0 0)), (1, .int x1), (2, .int x2), (3, .int x3)] → W p l e ({ frames := 0, cells := 0, slots := 0, locals := 0 } : Room) s m args below meth c H locs 0 0 (MQ below (va_Qi (fun (r' : Int32) (u : oa_M) => r' = o.1 ∧ u = o.2) (fun u t => oa_H D ca ad u t.heap) (fun q => b0 ≤ q)) args s 0 0 (fun q => b0 ≤ q)) (F0 m 4 ls [])) : ∀ (n : Nat), ∀ (x1 : Int32) (x2 : Int32) (x3 : Int32) (M : oa_M), BX4_placeLines_49 rec4 n x1 x2 x3 M = some o → ∀ (H : Heap) (locs : List Loc), oa_H D ca ad M H → va_S (fun q => b0 ≤ q) s.heap H locs → ∀ (ls : Array Slot), lv_has ls 4 [(0, .ref (ad 0 0)), (1, .int x1), (2, .int x2), (3, .int x3)] → W p l e ({ frames := 0, cells := 0, slots := 0, locals := 0 } : Room) s m args below meth c H locs 0 0 (MQ below (va_Qi (fun (r' : Int32) (u : oa_M) => r' = o.1 ∧ u = o.2) (fun u t => oa_H D ca ad u t.heap) (fun q => b0 ≤ q)) args s 0 0 (fun q => b0 ≤ q)) (F0 m 49 ls []) := by
  obtain ⟨hx, hb, hml, hr, hlocks, hown, hts, hE, hw⟩ := id C
  intro n x1 x2 x3 M hf H locs hH hS ls hl
  unfold BX4_placeLines_49 at hf
  refine lv_iinc (v := (x3 + (1 : Int32))) (lv' := [(3, .int (x3 + (1 : Int32))), (0, .ref (ad 0 0)), (1, .int x1), (2, .int x2)]) hx hb dX4_placeLines_49 hl (k := 3) rfl rfl (by decide) rfl (fun ls hl => ?_)
  refine lv_goto (tgt := 4) hx hb dX4_placeLines_52 (by decide) ?_
  exact hrec4 x1 x2 (x3 + (1 : Int32)) _ hf _ _ hH hS _ (lv_sub hl [1, 2, 3, 0] rfl)
set_option maxHeartbeats 4000000 in
set_option maxRecDepth 100000 in
theorem bX4_placeLines_4 {p : Program} {l : Launch} {e : Env} {s : State} {m : MethodId} {args : Array Value} {below : List Frame} {meth : Method} {c : Code} {D : va_G} {ca : Nat → ClassId} {ad : Nat → Nat → Nat} {b0 : Nat} {o : Int32 × oa_M} (C : oa_Cx p s m args meth c cX4_placeLines 4 (some .int) RX4 D ca b0 ad) : ∀ (n : Nat), ∀ (x1 : Int32) (x2 : Int32) (x3 : Int32) (M : oa_M), BX4_placeLines_4 n x1 x2 x3 M = some o → ∀ (H : Heap) (locs : List Loc), oa_H D ca ad M H → va_S (fun q => b0 ≤ q) s.heap H locs → ∀ (ls : Array Slot), lv_has ls 4 [(0, .ref (ad 0 0)), (1, .int x1), (2, .int x2), (3, .int x3)] → W p l e ({ frames := 0, cells := 0, slots := 0, locals := 0 } : Room) s m args below meth c H locs 0 0 (MQ below (va_Qi (fun (r' : Int32) (u : oa_M) => r' = o.1 ∧ u = o.2) (fun u t => oa_H D ca ad u t.heap) (fun q => b0 ≤ q)) args s 0 0 (fun q => b0 ≤ q)) (F0 m 4 ls []) := by
  obtain ⟨hx, hb, hml, hr, hlocks, hown, hts, hE, hw⟩ := id C
  intro n
  induction n with
  | zero => intro x1 x2 x3 M hf; cases hf
  | succ n ih =>
    intro x1 x2 x3 M hf H locs hH hS ls hl
    have hrec4 := ih
    unfold BX4_placeLines_4 at hf
    refine lv_iload_n hx hb dX4_placeLines_4 rfl (lv_at hl 3 rfl) ?_
    refine lv_aload_n hx hb dX4_placeLines_5 rfl (lv_at hl 0 rfl) ?_
    refine oa_get (ci := 4) (C := RX4) (T := TX4) (N := 9) (v := .int (M 0 0 6)) hx hb hts inX4 hown hE hH 0 0 (by decide) rfl rfl 6 (by decide) (hts _ tw_182) rfl dX4_placeLines_6 ?_
    refine lv_icmp_ge (tgt := 55) hx hb dX4_placeLines_9 (by decide) (fun hq1 => ?_) (fun hq1 => ?_)
    · rw [if_pos hq1] at hf
      refine lv_iload_n hx hb dX4_placeLines_55 rfl (lv_at hl 2 rfl) ?_
      cases hf
      exact oa_reti hx hb hr hlocks rfl hS hH dX4_placeLines_56
    · rw [if_neg hq1] at hf
      refine lv_aload_n hx hb dX4_placeLines_12 rfl (lv_at hl 0 rfl) ?_
      refine oa_get (ci := 4) (C := RX4) (T := TX4) (N := 9) (v := .ref (ad 8 0)) hx hb hts inX4 hown hE hH 0 0 (by decide) rfl rfl 4 (by decide) (hts _ tw_180) rfl dX4_placeLines_13 ?_
      refine lv_iload_n hx hb dX4_placeLines_16 rfl (lv_at hl 3 rfl) ?_
      obtain ⟨hk2, hf⟩ := oa_ck hf
      refine oa_ald (g := fun j => ad 9 j) hx hb hE hH 8 0 (by decide) 21 4 rfl rfl (oa_in_vp hk2) dX4_placeLines_17 ?_
      refine lv_iload_n hx hb dX4_placeLines_18 rfl (lv_at hl 2 rfl) ?_
      refine oa_put (ci := 1) (C := RX1) (T := TX1) (N := 7) (v := .int x2) (x := x2) hx hb hts inX1 tyX1 tyX1_ok nmX1 hown hE hw hH hS 9 x3.toNatClampNeg (oa_lt (oa_in_vp hk2)) rfl rfl 5 (by decide) (hts _ tw_159) rfl rfl rfl (Nat.le_of_ble_eq_true rfl) rfl dX4_placeLines_19 (fun H locs hH hS => ?_)
      refine lv_aload_n hx hb dX4_placeLines_22 rfl (lv_at hl 0 rfl) ?_
      refine oa_get (ci := 4) (C := RX4) (T := TX4) (N := 9) (v := .ref (ad 8 0)) hx hb hts inX4 hown hE hH 0 0 (by decide) rfl rfl 4 (by decide) (hts _ tw_180) rfl dX4_placeLines_23 ?_
      refine lv_iload_n hx hb dX4_placeLines_26 rfl (lv_at hl 3 rfl) ?_
      obtain ⟨hk3, hf⟩ := oa_ck hf
      refine oa_ald (g := fun j => ad 9 j) hx hb hE hH 8 0 (by decide) 21 4 rfl rfl (oa_in_vp hk3) dX4_placeLines_27 ?_
      refine oa_get (ci := 1) (C := RX1) (T := TX1) (N := 7) (v := oa_fr ad ((oa_up M 9 x3.toNatClampNeg 5 x2) 9 x3.toNatClampNeg 6)) hx hb hts inX1 hown hE hH 9 x3.toNatClampNeg (oa_lt (oa_in_vp hk3)) rfl rfl 6 (by decide) (hts _ tw_160) rfl dX4_placeLines_28 ?_
      refine oa_ifnull (tgt := 49) hx hb dX4_placeLines_31 (by decide) (fun hq4 => ?_) (fun hq4 => ?_)
      · rw [if_pos hq4] at hf
        exact bX4_placeLines_49 C _ hrec4 n x1 x2 x3 _ hf _ _ hH hS _ (lv_sub hl [0, 1, 2, 3] rfl)
      · rw [if_neg hq4] at hf
        refine lv_iload_n hx hb dX4_placeLines_34 rfl (lv_at hl 2 rfl) ?_
        refine lv_aload_n hx hb dX4_placeLines_35 rfl (lv_at hl 0 rfl) ?_
        refine oa_get (ci := 4) (C := RX4) (T := TX4) (N := 9) (v := .ref (ad 8 0)) hx hb hts inX4 hown hE hH 0 0 (by decide) rfl rfl 4 (by decide) (hts _ tw_180) rfl dX4_placeLines_36 ?_
        refine lv_iload_n hx hb dX4_placeLines_39 rfl (lv_at hl 3 rfl) ?_
        obtain ⟨hk5, hf⟩ := oa_ck hf
        refine oa_ald (g := fun j => ad 9 j) hx hb hE hH 8 0 (by decide) 21 4 rfl rfl (oa_in_vp hk5) dX4_placeLines_40 ?_
        refine oa_get (ci := 1) (C := RX1) (T := TX1) (N := 7) (v := oa_fr ad ((oa_up M 9 x3.toNatClampNeg 5 x2) 9 x3.toNatClampNeg 6)) hx hb hts inX1 hown hE hH 9 x3.toNatClampNeg (oa_lt (oa_in_vp hk5)) rfl rfl 6 (by decide) (hts _ tw_160) rfl dX4_placeLines_41 ?_
        obtain ⟨hk6, hf⟩ := oa_ck hf
        refine oa_frref (oa_in_vp hk6) ?_
        refine oa_get (ci := 0) (C := RX0) (T := TX0) (N := 6) (v := .int (M 5 (((oa_up M 9 x3.toNatClampNeg 5 x2) 9 x3.toNatClampNeg 6).toNatClampNeg) 2)) hx hb hts inX0 hown hE hH 5 (((oa_up M 9 x3.toNatClampNeg 5 x2) 9 x3.toNatClampNeg 6).toNatClampNeg) (oa_lt (oa_in_vp hk6)) rfl rfl 2 (by decide) (hts _ tw_126) rfl dX4_placeLines_44 ?_
        refine lv_iadd hx hb dX4_placeLines_47 ?_
        refine lv_istore_n (lv' := [(2, .int (x2 + (M 5 (((oa_up M 9 x3.toNatClampNeg 5 x2) 9 x3.toNatClampNeg 6).toNatClampNeg) 2))), (0, .ref (ad 0 0)), (1, .int x1), (3, .int x3)]) hx hb dX4_placeLines_48 rfl hl (by decide) rfl (fun ls hl => ?_)
        exact bX4_placeLines_49 C _ hrec4 n x1 (x2 + (M 5 (((oa_up M 9 x3.toNatClampNeg 5 x2) 9 x3.toNatClampNeg 6).toNatClampNeg) 2)) x3 _ hf _ _ hH hS _ (lv_sub hl [1, 2, 0, 3] rfl)
set_option maxHeartbeats 4000000 in
set_option maxRecDepth 100000 in
theorem cX4_placeLines_k (l : Launch) (D : va_G) (ca : Nat → ClassId) (ad : Nat → Nat → Nat) (b0 : Nat) (hw : oa_W ad b0) (n : Nat) (x1 : Int32) (M : oa_M) (o : Int32 × oa_M) (hf : FX4_placeLines n x1 M = some o) : oa_Mi l yX4_placeLines (oa_w yX4_placeLines cX4_placeLines 4 (some .int)) ({ frames := 0, cells := 0, slots := 0, locals := 0 } : Room) D ca ad b0 [.ref (ad 0 0), .int x1] M o.1 o.2 := by
  refine oa_ofW (cc := cX4_placeLines) (maxL := 4) (ret := some .int) (by decide) rfl (Nat.le_of_ble_eq_true rfl) ?_
  intro p e s m below meth c hx hb hml hr hlocks hown hts0 hP ls hl
  obtain ⟨hH, hE⟩ := hP
  have hts : ∀ w ∈ oa_T, w.before _ s = true := fun w h => hts0 w (List.mem_cons_of_mem _ h)
  have hS : va_S (fun q => b0 ≤ q) s.heap s.heap [] := va_S.rf
  have C : oa_Cx p s m _ meth c cX4_placeLines 4 (some .int) RX4 D ca b0 ad := ⟨hx, hb, hml, hr, hlocks, hown, hts, hE, hw⟩
  have hl : lv_has ls 4 [(0, .ref (ad 0 0)), (1, .int x1)] := hl
  unfold FX4_placeLines at hf
  refine lv_iload_n hx hb dX4_placeLines_0 rfl (lv_at hl 1 rfl) ?_
  refine lv_istore_n (lv' := [(2, .int x1), (0, .ref (ad 0 0)), (1, .int x1)]) hx hb dX4_placeLines_1 rfl hl (by decide) rfl (fun ls hl => ?_)
  refine lv_iconst (v := (0 : Int32)) hx hb dX4_placeLines_2 (by decide) ?_
  refine lv_istore_n (lv' := [(3, .int (0 : Int32)), (2, .int x1), (0, .ref (ad 0 0)), (1, .int x1)]) hx hb dX4_placeLines_3 rfl hl (by decide) rfl (fun ls hl => ?_)
  exact bX4_placeLines_4 C n x1 x1 (0 : Int32) _ hf _ _ hH hS _ (lv_sub hl [2, 3, 1, 0] rfl)
theorem cX4_placeLines_ok (l : Launch) (D : va_G) (ca : Nat → ClassId) (ad : Nat → Nat → Nat) (b0 : Nat) (hw : oa_W ad b0) (n : Nat) (x1 : Int32) (M : oa_M) (r : Int32) (M' : oa_M) (hf : FX4_placeLines n x1 M = some (r, M')) : oa_Mi l yX4_placeLines (oa_w yX4_placeLines cX4_placeLines 4 (some .int)) ({ frames := 0, cells := 0, slots := 0, locals := 0 } : Room) D ca ad b0 [.ref (ad 0 0), .int x1] M r M' := cX4_placeLines_k l D ca ad b0 hw n x1 M (r, M') hf
def BX4_wanted_46 (n : Nat) (n1 : Nat) (x2 : Int32) (x3 : Int32) (z0 : Int32) (M : oa_M) : Option (Int32 × oa_M) := (some (z0, M))
def FX4_wanted (n : Nat) (n1 : Nat) (x2 : Int32) (M : oa_M) : Option (Int32 × oa_M) := (if oa_in x2 3 = true then (if (M 10 n1 x2.toNatClampNeg) = (-1 : Int32) then (if oa_in x2 3 = true then (some ((M 11 n1 x2.toNatClampNeg), M)) else none) else (if oa_in x2 3 = true then (oa_bd (FX4_findLabel n (M 10 n1 x2.toNatClampNeg) M) (fun r4 M5 => (if r4 = (-1 : Int32) then (BX4_wanted_46 n n1 x2 r4 (0 : Int32) M5) else (if oa_in r4 21 = true then (BX4_wanted_46 n n1 x2 r4 (M5 9 r4.toNatClampNeg 5) M5) else none)))) else none)) else none)
set_option maxHeartbeats 4000000 in
set_option maxRecDepth 100000 in
theorem bX4_wanted_46 {p : Program} {l : Launch} {e : Env} {s : State} {m : MethodId} {args : Array Value} {below : List Frame} {meth : Method} {c : Code} {D : va_G} {ca : Nat → ClassId} {ad : Nat → Nat → Nat} {b0 : Nat} {o : Int32 × oa_M} (C : oa_Cx p s m args meth c cX4_wanted 4 (some .int) RX4 D ca b0 ad) : ∀ (n : Nat), ∀ (n1 : Nat) (hn1 : n1 < oa_n 9) (x2 : Int32) (x3 : Int32) (z0 : Int32) (M : oa_M), BX4_wanted_46 n n1 x2 x3 z0 M = some o → ∀ (H : Heap) (locs : List Loc), oa_H D ca ad M H → va_S (fun q => b0 ≤ q) s.heap H locs → ∀ (ls : Array Slot), lv_has ls 4 [(0, .ref (ad 0 0)), (1, .ref (ad 9 n1)), (2, .int x2), (3, .int x3)] → W p l e ({ frames := 1, cells := 0, slots := 0, locals := 22 } : Room) s m args below meth c H locs 0 0 (MQ below (va_Qi (fun (r' : Int32) (u : oa_M) => r' = o.1 ∧ u = o.2) (fun u t => oa_H D ca ad u t.heap) (fun q => b0 ≤ q)) args s 0 0 (fun q => b0 ≤ q)) (F0 m 46 ls [.int z0]) := by
  obtain ⟨hx, hb, hml, hr, hlocks, hown, hts, hE, hw⟩ := id C
  intro n n1 hn1 x2 x3 z0 M hf H locs hH hS ls hl
  unfold BX4_wanted_46 at hf
  cases hf
  exact oa_reti hx hb hr hlocks rfl hS hH dX4_wanted_46
set_option maxHeartbeats 4000000 in
set_option maxRecDepth 100000 in
theorem cX4_wanted_k (l : Launch) (D : va_G) (ca : Nat → ClassId) (ad : Nat → Nat → Nat) (b0 : Nat) (hw : oa_W ad b0) (n : Nat) (n1 : Nat) (hn1 : n1 < oa_n 9) (x2 : Int32) (M : oa_M) (o : Int32 × oa_M) (hf : FX4_wanted n n1 x2 M = some o) : oa_Mi l yX4_wanted (oa_w yX4_wanted cX4_wanted 4 (some .int)) ({ frames := 1, cells := 0, slots := 0, locals := 22 } : Room) D ca ad b0 [.ref (ad 0 0), .ref (ad 9 n1), .int x2] M o.1 o.2 := by
  refine oa_ofW (cc := cX4_wanted) (maxL := 4) (ret := some .int) (by decide) rfl (Nat.le_of_ble_eq_true rfl) ?_
  intro p e s m below meth c hx hb hml hr hlocks hown hts0 hP ls hl
  obtain ⟨hH, hE⟩ := hP
  have hts : ∀ w ∈ oa_T, w.before _ s = true := fun w h => hts0 w (List.mem_cons_of_mem _ h)
  have hS : va_S (fun q => b0 ≤ q) s.heap s.heap [] := va_S.rf
  have C : oa_Cx p s m _ meth c cX4_wanted 4 (some .int) RX4 D ca b0 ad := ⟨hx, hb, hml, hr, hlocks, hown, hts, hE, hw⟩
  have hl : lv_has ls 4 [(0, .ref (ad 0 0)), (1, .ref (ad 9 n1)), (2, .int x2)] := hl
  unfold FX4_wanted at hf
  refine lv_aload_n hx hb dX4_wanted_0 rfl (lv_at hl 1 rfl) ?_
  refine oa_get (ci := 1) (C := RX1) (T := TX1) (N := 7) (v := .ref (ad 10 n1)) hx hb hts inX1 hown hE hH 9 n1 hn1 rfl rfl 0 (by decide) (hts _ tw_153) rfl dX4_wanted_1 ?_
  refine lv_iload_n hx hb dX4_wanted_4 rfl (lv_at hl 2 rfl) ?_
  obtain ⟨hk1, hf⟩ := oa_ck hf
  refine oa_ild (v := (M 10 n1 x2.toNatClampNeg)) hx hb hE hH 10 n1 hn1 3 rfl rfl (oa_in_vp hk1) dX4_wanted_5 ?_
  refine lv_iconst (v := (-1 : Int32)) hx hb dX4_wanted_6 (by decide) ?_
  refine lv_icmp_ne (tgt := 17) hx hb dX4_wanted_7 (by decide) (fun hq2 => ?_) (fun hq2 => ?_)
  · rw [if_neg hq2] at hf
    refine lv_aload_n hx hb dX4_wanted_17 rfl (lv_at hl 0 rfl) ?_
    refine lv_aload_n hx hb dX4_wanted_18 rfl (lv_at hl 1 rfl) ?_
    refine oa_get (ci := 1) (C := RX1) (T := TX1) (N := 7) (v := .ref (ad 10 n1)) hx hb hts inX1 hown hE hH 9 n1 hn1 rfl rfl 0 (by decide) (hts _ tw_153) rfl dX4_wanted_19 ?_
    refine lv_iload_n hx hb dX4_wanted_22 rfl (lv_at hl 2 rfl) ?_
    obtain ⟨hk3, hf⟩ := oa_ck hf
    refine oa_ild (v := (M 10 n1 x2.toNatClampNeg)) hx hb hE hH 10 n1 hn1 3 rfl rfl (oa_in_vp hk3) dX4_wanted_23 ?_
    obtain ⟨r4, M5, hc6, hf⟩ := oa_bdE hf
    refine oa_cvi (As := [.int (M 10 n1 x2.toNatClampNeg)]) (rest := []) ⟨hx, hb, hml, hown, hts⟩ (cX4_findLabel_ok l D ca ad b0 hw n (M 10 n1 x2.toNatClampNeg) _ _ _ hc6) (cwV 1 hts (oa_gV tw_537 tw_539 tw_11 tw_44 tw_540) rfl rfl rfl (by decide +kernel) ⟨Nat.le_of_ble_eq_true rfl, Nat.le_of_ble_eq_true rfl⟩) hE hH hS (oa_recv (k := 0) (ci := 4) hE hH (by decide) rfl rfl) rfl hl.1 rfl (Nat.le_of_ble_eq_true rfl) dX4_wanted_24 ⟨by decide, by decide⟩ (fun H locs hH hS => ?_)
    refine lv_istore_n (lv' := [(3, .int r4), (0, .ref (ad 0 0)), (1, .ref (ad 9 n1)), (2, .int x2)]) hx hb dX4_wanted_27 rfl hl (by decide) rfl (fun ls hl => ?_)
    refine lv_iload_n hx hb dX4_wanted_28 rfl (lv_at hl 0 rfl) ?_
    refine lv_iconst (v := (-1 : Int32)) hx hb dX4_wanted_29 (by decide) ?_
    refine lv_icmp_ne (tgt := 37) hx hb dX4_wanted_30 (by decide) (fun hq7 => ?_) (fun hq7 => ?_)
    · rw [if_neg hq7] at hf
      refine lv_aload_n hx hb dX4_wanted_37 rfl (lv_at hl 1 rfl) ?_
      refine oa_get (ci := 4) (C := RX4) (T := TX4) (N := 9) (v := .ref (ad 8 0)) hx hb hts inX4 hown hE hH 0 0 (by decide) rfl rfl 4 (by decide) (hts _ tw_180) rfl dX4_wanted_38 ?_
      refine lv_iload_n hx hb dX4_wanted_41 rfl (lv_at hl 0 rfl) ?_
      obtain ⟨hk8, hf⟩ := oa_ck hf
      refine oa_ald (g := fun j => ad 9 j) hx hb hE hH 8 0 (by decide) 21 4 rfl rfl (oa_in_vp hk8) dX4_wanted_42 ?_
      refine oa_get (ci := 1) (C := RX1) (T := TX1) (N := 7) (v := .int (M5 9 r4.toNatClampNeg 5)) hx hb hts inX1 hown hE hH 9 r4.toNatClampNeg (oa_lt (oa_in_vp hk8)) rfl rfl 5 (by decide) (hts _ tw_159) rfl dX4_wanted_43 ?_
      exact bX4_wanted_46 C n n1 hn1 x2 r4 (M5 9 r4.toNatClampNeg 5) _ hf _ _ hH hS _ (lv_sub hl [1, 2, 3, 0] rfl)
    · rw [if_pos hq7] at hf
      refine lv_iconst (v := (0 : Int32)) hx hb dX4_wanted_33 (by decide) ?_
      refine lv_goto (tgt := 46) hx hb dX4_wanted_34 (by decide) ?_
      exact bX4_wanted_46 C n n1 hn1 x2 r4 (0 : Int32) _ hf _ _ hH hS _ (lv_sub hl [1, 2, 3, 0] rfl)
  · rw [if_pos hq2] at hf
    refine lv_aload_n hx hb dX4_wanted_10 rfl (lv_at hl 1 rfl) ?_
    refine oa_get (ci := 1) (C := RX1) (T := TX1) (N := 7) (v := .ref (ad 11 n1)) hx hb hts inX1 hown hE hH 9 n1 hn1 rfl rfl 1 (by decide) (hts _ tw_155) rfl dX4_wanted_11 ?_
    refine lv_iload_n hx hb dX4_wanted_14 rfl (lv_at hl 2 rfl) ?_
    obtain ⟨hk9, hf⟩ := oa_ck hf
    refine oa_ild (v := (M 11 n1 x2.toNatClampNeg)) hx hb hE hH 11 n1 hn1 3 rfl rfl (oa_in_vp hk9) dX4_wanted_15 ?_
    cases hf
    exact oa_reti hx hb hr hlocks rfl hS hH dX4_wanted_16
theorem cX4_wanted_ok (l : Launch) (D : va_G) (ca : Nat → ClassId) (ad : Nat → Nat → Nat) (b0 : Nat) (hw : oa_W ad b0) (n : Nat) (n1 : Nat) (hn1 : n1 < oa_n 9) (x2 : Int32) (M : oa_M) (r : Int32) (M' : oa_M) (hf : FX4_wanted n n1 x2 M = some (r, M')) : oa_Mi l yX4_wanted (oa_w yX4_wanted cX4_wanted 4 (some .int)) ({ frames := 1, cells := 0, slots := 0, locals := 22 } : Room) D ca ad b0 [.ref (ad 0 0), .ref (ad 9 n1), .int x2] M r M' := cX4_wanted_k l D ca ad b0 hw n n1 hn1 x2 M (r, M') hf
def BX4_fits_2 : Nat → Nat → Nat → Int32 → oa_M → Option (Int32 × oa_M)
  | 0, _, _, _, _ => none
  | n + 1, n1, n2, x3, M => (if (M 9 n1 4) ≤ x3 then (some ((1 : Int32), M)) else (if oa_in x3 3 = true then (oa_bd (FX4_wanted n n1 x3 M) (fun r3 M4 => (oa_bd (FX2_reaches n (3 * n2 + x3.toNatClampNeg) r3 ((M4 9 n1 5) + (M4 5 n2 2)) M4) (fun r6 M7 => (if r6 = 0 then (some ((0 : Int32), M7)) else (BX4_fits_2 n n1 n2 (x3 + (1 : Int32)) M7)))))) else none))
def FX4_fits (n : Nat) (n1 : Nat) (n2 : Nat) (M : oa_M) : Option (Int32 × oa_M) := (BX4_fits_2 n n1 n2 (0 : Int32) M)
set_option maxHeartbeats 4000000 in
set_option maxRecDepth 100000 in
theorem bX4_fits_2 {p : Program} {l : Launch} {e : Env} {s : State} {m : MethodId} {args : Array Value} {below : List Frame} {meth : Method} {c : Code} {D : va_G} {ca : Nat → ClassId} {ad : Nat → Nat → Nat} {b0 : Nat} {o : Int32 × oa_M} (C : oa_Cx p s m args meth c cX4_fits 4 (some .boolean) RX4 D ca b0 ad) : ∀ (n : Nat), ∀ (n1 : Nat) (hn1 : n1 < oa_n 9) (n2 : Nat) (hn2 : n2 < oa_n 5) (x3 : Int32) (M : oa_M), BX4_fits_2 n n1 n2 x3 M = some o → ∀ (H : Heap) (locs : List Loc), oa_H D ca ad M H → va_S (fun q => b0 ≤ q) s.heap H locs → ∀ (ls : Array Slot), lv_has ls 4 [(0, .ref (ad 0 0)), (1, .ref (ad 9 n1)), (2, .ref (ad 5 n2)), (3, .int x3)] → W p l e ({ frames := 3, cells := 0, slots := 0, locals := 64 } : Room) s m args below meth c H locs 0 0 (MQ below (va_Qi (fun (r' : Int32) (u : oa_M) => r' = o.1 ∧ u = o.2) (fun u t => oa_H D ca ad u t.heap) (fun q => b0 ≤ q)) args s 0 0 (fun q => b0 ≤ q)) (F0 m 2 ls []) := by
  obtain ⟨hx, hb, hml, hr, hlocks, hown, hts, hE, hw⟩ := id C
  intro n
  induction n with
  | zero => intro n1 hn1 n2 hn2 x3 M hf; cases hf
  | succ n ih =>
    intro n1 hn1 n2 hn2 x3 M hf H locs hH hS ls hl
    have hrec2 := ih
    unfold BX4_fits_2 at hf
    refine lv_iload_n hx hb dX4_fits_2 rfl (lv_at hl 3 rfl) ?_
    refine lv_aload_n hx hb dX4_fits_3 rfl (lv_at hl 1 rfl) ?_
    refine oa_get (ci := 1) (C := RX1) (T := TX1) (N := 7) (v := .int (M 9 n1 4)) hx hb hts inX1 hown hE hH 9 n1 hn1 rfl rfl 4 (by decide) (hts _ tw_158) rfl dX4_fits_4 ?_
    refine lv_icmp_ge (tgt := 45) hx hb dX4_fits_7 (by decide) (fun hq1 => ?_) (fun hq1 => ?_)
    · rw [if_pos hq1] at hf
      refine lv_iconst (v := (1 : Int32)) hx hb dX4_fits_45 (by decide) ?_
      cases hf
      exact oa_reti hx hb hr hlocks rfl hS hH dX4_fits_46
    · rw [if_neg hq1] at hf
      refine lv_aload_n hx hb dX4_fits_10 rfl (lv_at hl 2 rfl) ?_
      refine oa_get (ci := 0) (C := RX0) (T := TX0) (N := 6) (v := .ref (ad 6 n2)) hx hb hts inX0 hown hE hH 5 n2 hn2 rfl rfl 0 (by decide) (hts _ tw_122) rfl dX4_fits_11 ?_
      refine lv_iload_n hx hb dX4_fits_14 rfl (lv_at hl 3 rfl) ?_
      obtain ⟨hk2, hf⟩ := oa_ck hf
      refine oa_ald (g := fun j => ad 7 (3 * n2 + j)) hx hb hE hH 6 n2 hn2 3 5 rfl rfl (oa_in_vp hk2) dX4_fits_15 ?_
      refine lv_aload_n hx hb dX4_fits_16 rfl (lv_at hl 0 rfl) ?_
      refine lv_aload_n hx hb dX4_fits_17 rfl (lv_at hl 1 rfl) ?_
      refine lv_iload_n hx hb dX4_fits_18 rfl (lv_at hl 3 rfl) ?_
      obtain ⟨r3, M4, hc5, hf⟩ := oa_bdE hf
      refine oa_cvi (As := [.ref (ad 9 n1), .int x3]) (rest := [.ref (ad 7 (3 * n2 + x3.toNatClampNeg))]) ⟨hx, hb, hml, hown, hts⟩ (cX4_wanted_ok l D ca ad b0 hw n n1 hn1 x3 _ _ _ hc5) (cwV 2 hts (oa_gV tw_588 tw_590 tw_17 tw_44 tw_591) rfl rfl rfl (by decide +kernel) ⟨Nat.le_of_ble_eq_true rfl, Nat.le_of_ble_eq_true rfl⟩) hE hH hS (oa_recv (k := 0) (ci := 4) hE hH (by decide) rfl rfl) rfl hl.1 rfl (Nat.le_of_ble_eq_true rfl) dX4_fits_19 ⟨by decide, by decide⟩ (fun H locs hH hS => ?_)
      refine lv_aload_n hx hb dX4_fits_22 rfl (lv_at hl 1 rfl) ?_
      refine oa_get (ci := 1) (C := RX1) (T := TX1) (N := 7) (v := .int (M4 9 n1 5)) hx hb hts inX1 hown hE hH 9 n1 hn1 rfl rfl 5 (by decide) (hts _ tw_159) rfl dX4_fits_23 ?_
      refine lv_aload_n hx hb dX4_fits_26 rfl (lv_at hl 2 rfl) ?_
      refine oa_get (ci := 0) (C := RX0) (T := TX0) (N := 6) (v := .int (M4 5 n2 2)) hx hb hts inX0 hown hE hH 5 n2 hn2 rfl rfl 2 (by decide) (hts _ tw_126) rfl dX4_fits_27 ?_
      refine lv_iadd hx hb dX4_fits_30 ?_
      obtain ⟨r6, M7, hc8, hf⟩ := oa_bdE hf
      refine oa_cvi (As := [.int r3, .int ((M4 9 n1 5) + (M4 5 n2 2))]) (rest := []) ⟨hx, hb, hml, hown, hts⟩ (cX2_reaches_ok l D ca ad b0 hw n (3 * n2 + x3.toNatClampNeg) (oa_lt7 hn2 (oa_in_vp hk2)) r3 ((M4 9 n1 5) + (M4 5 n2 2)) _ _ _ hc8) (cwV 2 hts (oa_gV tw_592 tw_593 tw_594 tw_47 tw_595) rfl rfl rfl (by decide +kernel) ⟨Nat.le_of_ble_eq_true rfl, Nat.le_of_ble_eq_true rfl⟩) hE hH hS (oa_recv (k := 7) (ci := 2) hE hH (oa_lt7 hn2 (oa_in_vp hk2)) rfl rfl) rfl hl.1 rfl (Nat.le_of_ble_eq_true rfl) dX4_fits_31 ⟨by decide, by decide⟩ (fun H locs hH hS => ?_)
      refine lv_if_ne (tgt := 39) hx hb dX4_fits_34 (by decide) (fun hq9 => ?_) (fun hq9 => ?_)
      · rw [if_neg hq9] at hf
        refine lv_iinc (v := (x3 + (1 : Int32))) (lv' := [(3, .int (x3 + (1 : Int32))), (0, .ref (ad 0 0)), (1, .ref (ad 9 n1)), (2, .ref (ad 5 n2))]) hx hb dX4_fits_39 hl (k := 3) rfl rfl (by decide) rfl (fun ls hl => ?_)
        refine lv_goto (tgt := 2) hx hb dX4_fits_42 (by decide) ?_
        exact hrec2 n1 hn1 n2 hn2 (x3 + (1 : Int32)) _ hf _ _ hH hS _ (lv_sub hl [1, 2, 3, 0] rfl)
      · rw [if_pos hq9] at hf
        refine lv_iconst (v := (0 : Int32)) hx hb dX4_fits_37 (by decide) ?_
        cases hf
        exact oa_reti hx hb hr hlocks rfl hS hH dX4_fits_38
set_option maxHeartbeats 4000000 in
set_option maxRecDepth 100000 in
theorem cX4_fits_k (l : Launch) (D : va_G) (ca : Nat → ClassId) (ad : Nat → Nat → Nat) (b0 : Nat) (hw : oa_W ad b0) (n : Nat) (n1 : Nat) (hn1 : n1 < oa_n 9) (n2 : Nat) (hn2 : n2 < oa_n 5) (M : oa_M) (o : Int32 × oa_M) (hf : FX4_fits n n1 n2 M = some o) : oa_Mi l yX4_fits (oa_w yX4_fits cX4_fits 4 (some .boolean)) ({ frames := 3, cells := 0, slots := 0, locals := 64 } : Room) D ca ad b0 [.ref (ad 0 0), .ref (ad 9 n1), .ref (ad 5 n2)] M o.1 o.2 := by
  refine oa_ofW (cc := cX4_fits) (maxL := 4) (ret := some .boolean) (by decide) rfl (Nat.le_of_ble_eq_true rfl) ?_
  intro p e s m below meth c hx hb hml hr hlocks hown hts0 hP ls hl
  obtain ⟨hH, hE⟩ := hP
  have hts : ∀ w ∈ oa_T, w.before _ s = true := fun w h => hts0 w (List.mem_cons_of_mem _ h)
  have hS : va_S (fun q => b0 ≤ q) s.heap s.heap [] := va_S.rf
  have C : oa_Cx p s m _ meth c cX4_fits 4 (some .boolean) RX4 D ca b0 ad := ⟨hx, hb, hml, hr, hlocks, hown, hts, hE, hw⟩
  have hl : lv_has ls 4 [(0, .ref (ad 0 0)), (1, .ref (ad 9 n1)), (2, .ref (ad 5 n2))] := hl
  unfold FX4_fits at hf
  refine lv_iconst (v := (0 : Int32)) hx hb dX4_fits_0 (by decide) ?_
  refine lv_istore_n (lv' := [(3, .int (0 : Int32)), (0, .ref (ad 0 0)), (1, .ref (ad 9 n1)), (2, .ref (ad 5 n2))]) hx hb dX4_fits_1 rfl hl (by decide) rfl (fun ls hl => ?_)
  exact bX4_fits_2 C n n1 hn1 n2 hn2 (0 : Int32) _ hf _ _ hH hS _ (lv_sub hl [1, 2, 3, 0] rfl)
theorem cX4_fits_ok (l : Launch) (D : va_G) (ca : Nat → ClassId) (ad : Nat → Nat → Nat) (b0 : Nat) (hw : oa_W ad b0) (n : Nat) (n1 : Nat) (hn1 : n1 < oa_n 9) (n2 : Nat) (hn2 : n2 < oa_n 5) (M : oa_M) (r : Int32) (M' : oa_M) (hf : FX4_fits n n1 n2 M = some (r, M')) : oa_Mi l yX4_fits (oa_w yX4_fits cX4_fits 4 (some .boolean)) ({ frames := 3, cells := 0, slots := 0, locals := 64 } : Room) D ca ad b0 [.ref (ad 0 0), .ref (ad 9 n1), .ref (ad 5 n2)] M r M' := cX4_fits_k l D ca ad b0 hw n n1 hn1 n2 hn2 M (r, M') hf
def BX4_firstUnfit_46 (rec2 : Int32 → oa_M → Option (Int32 × oa_M)) (n : Nat) (x1 : Int32) (M : oa_M) : Option (Int32 × oa_M) := (rec2 (x1 + (1 : Int32)) M)
def BX4_firstUnfit_2 : Nat → Int32 → oa_M → Option (Int32 × oa_M)
  | 0, _, _ => none
  | n + 1, x1, M => (if (M 0 0 6) ≤ x1 then (some ((-1 : Int32), M)) else (if oa_in x1 21 = true then (if (M 9 x1.toNatClampNeg 6) < 0 then (BX4_firstUnfit_46 (BX4_firstUnfit_2 n) n x1 M) else (if oa_in x1 21 = true then (if oa_in x1 21 = true then (if oa_in (M 9 x1.toNatClampNeg 6) 13 = true then (oa_bd (FX4_fits n x1.toNatClampNeg ((M 9 x1.toNatClampNeg 6).toNatClampNeg) M) (fun r7 M8 => (if r7 = 0 then (some (x1, M8)) else (BX4_firstUnfit_46 (BX4_firstUnfit_2 n) n x1 M8)))) else none) else none) else none)) else none))
def FX4_firstUnfit (n : Nat)  (M : oa_M) : Option (Int32 × oa_M) := (BX4_firstUnfit_2 n (0 : Int32) M)
set_option maxHeartbeats 4000000 in
set_option maxRecDepth 100000 in
theorem bX4_firstUnfit_46 {p : Program} {l : Launch} {e : Env} {s : State} {m : MethodId} {args : Array Value} {below : List Frame} {meth : Method} {c : Code} {D : va_G} {ca : Nat → ClassId} {ad : Nat → Nat → Nat} {b0 : Nat} {o : Int32 × oa_M} (C : oa_Cx p s m args meth c cX4_firstUnfit 2 (some .int) RX4 D ca b0 ad) (rec2 : Int32 → oa_M → Option (Int32 × oa_M)) (hrec2 : ∀ (x1 : Int32) (M : oa_M), rec2 x1 M = some o → ∀ (H : Heap) (locs : List Loc), oa_H D ca ad M H → va_S (fun q => b0 ≤ q) s.heap H locs → ∀ (ls : Array Slot), lv_has ls 2 [(0, .ref (ad 0 0)), (1, .int x1)] → W p l e ({ frames := 4, cells := 0, slots := 0, locals := 87 } : Room) s m args below meth c H locs 0 0 (MQ below (va_Qi (fun (r' : Int32) (u : oa_M) => r' = o.1 ∧ u = o.2) (fun u t => oa_H D ca ad u t.heap) (fun q => b0 ≤ q)) args s 0 0 (fun q => b0 ≤ q)) (F0 m 2 ls [])) : ∀ (n : Nat), ∀ (x1 : Int32) (M : oa_M), BX4_firstUnfit_46 rec2 n x1 M = some o → ∀ (H : Heap) (locs : List Loc), oa_H D ca ad M H → va_S (fun q => b0 ≤ q) s.heap H locs → ∀ (ls : Array Slot), lv_has ls 2 [(0, .ref (ad 0 0)), (1, .int x1)] → W p l e ({ frames := 4, cells := 0, slots := 0, locals := 87 } : Room) s m args below meth c H locs 0 0 (MQ below (va_Qi (fun (r' : Int32) (u : oa_M) => r' = o.1 ∧ u = o.2) (fun u t => oa_H D ca ad u t.heap) (fun q => b0 ≤ q)) args s 0 0 (fun q => b0 ≤ q)) (F0 m 46 ls []) := by
  obtain ⟨hx, hb, hml, hr, hlocks, hown, hts, hE, hw⟩ := id C
  intro n x1 M hf H locs hH hS ls hl
  unfold BX4_firstUnfit_46 at hf
  refine lv_iinc (v := (x1 + (1 : Int32))) (lv' := [(1, .int (x1 + (1 : Int32))), (0, .ref (ad 0 0))]) hx hb dX4_firstUnfit_46 hl (k := 1) rfl rfl (by decide) rfl (fun ls hl => ?_)
  refine lv_goto (tgt := 2) hx hb dX4_firstUnfit_49 (by decide) ?_
  exact hrec2 (x1 + (1 : Int32)) _ hf _ _ hH hS _ (lv_sub hl [1, 0] rfl)
set_option maxHeartbeats 4000000 in
set_option maxRecDepth 100000 in
theorem bX4_firstUnfit_2 {p : Program} {l : Launch} {e : Env} {s : State} {m : MethodId} {args : Array Value} {below : List Frame} {meth : Method} {c : Code} {D : va_G} {ca : Nat → ClassId} {ad : Nat → Nat → Nat} {b0 : Nat} {o : Int32 × oa_M} (C : oa_Cx p s m args meth c cX4_firstUnfit 2 (some .int) RX4 D ca b0 ad) : ∀ (n : Nat), ∀ (x1 : Int32) (M : oa_M), BX4_firstUnfit_2 n x1 M = some o → ∀ (H : Heap) (locs : List Loc), oa_H D ca ad M H → va_S (fun q => b0 ≤ q) s.heap H locs → ∀ (ls : Array Slot), lv_has ls 2 [(0, .ref (ad 0 0)), (1, .int x1)] → W p l e ({ frames := 4, cells := 0, slots := 0, locals := 87 } : Room) s m args below meth c H locs 0 0 (MQ below (va_Qi (fun (r' : Int32) (u : oa_M) => r' = o.1 ∧ u = o.2) (fun u t => oa_H D ca ad u t.heap) (fun q => b0 ≤ q)) args s 0 0 (fun q => b0 ≤ q)) (F0 m 2 ls []) := by
  obtain ⟨hx, hb, hml, hr, hlocks, hown, hts, hE, hw⟩ := id C
  intro n
  induction n with
  | zero => intro x1 M hf; cases hf
  | succ n ih =>
    intro x1 M hf H locs hH hS ls hl
    have hrec2 := ih
    unfold BX4_firstUnfit_2 at hf
    refine lv_iload_n hx hb dX4_firstUnfit_2 rfl (lv_at hl 1 rfl) ?_
    refine lv_aload_n hx hb dX4_firstUnfit_3 rfl (lv_at hl 0 rfl) ?_
    refine oa_get (ci := 4) (C := RX4) (T := TX4) (N := 9) (v := .int (M 0 0 6)) hx hb hts inX4 hown hE hH 0 0 (by decide) rfl rfl 6 (by decide) (hts _ tw_182) rfl dX4_firstUnfit_4 ?_
    refine lv_icmp_ge (tgt := 52) hx hb dX4_firstUnfit_7 (by decide) (fun hq1 => ?_) (fun hq1 => ?_)
    · rw [if_pos hq1] at hf
      refine lv_iconst (v := (-1 : Int32)) hx hb dX4_firstUnfit_52 (by decide) ?_
      cases hf
      exact oa_reti hx hb hr hlocks rfl hS hH dX4_firstUnfit_53
    · rw [if_neg hq1] at hf
      refine lv_aload_n hx hb dX4_firstUnfit_10 rfl (lv_at hl 0 rfl) ?_
      refine oa_get (ci := 4) (C := RX4) (T := TX4) (N := 9) (v := .ref (ad 8 0)) hx hb hts inX4 hown hE hH 0 0 (by decide) rfl rfl 4 (by decide) (hts _ tw_180) rfl dX4_firstUnfit_11 ?_
      refine lv_iload_n hx hb dX4_firstUnfit_14 rfl (lv_at hl 1 rfl) ?_
      obtain ⟨hk2, hf⟩ := oa_ck hf
      refine oa_ald (g := fun j => ad 9 j) hx hb hE hH 8 0 (by decide) 21 4 rfl rfl (oa_in_vp hk2) dX4_firstUnfit_15 ?_
      refine oa_get (ci := 1) (C := RX1) (T := TX1) (N := 7) (v := oa_fr ad (M 9 x1.toNatClampNeg 6)) hx hb hts inX1 hown hE hH 9 x1.toNatClampNeg (oa_lt (oa_in_vp hk2)) rfl rfl 6 (by decide) (hts _ tw_160) rfl dX4_firstUnfit_16 ?_
      refine oa_ifnull (tgt := 46) hx hb dX4_firstUnfit_19 (by decide) (fun hq3 => ?_) (fun hq3 => ?_)
      · rw [if_pos hq3] at hf
        exact bX4_firstUnfit_46 C _ hrec2 n x1 _ hf _ _ hH hS _ (lv_sub hl [0, 1] rfl)
      · rw [if_neg hq3] at hf
        refine lv_aload_n hx hb dX4_firstUnfit_22 rfl (lv_at hl 0 rfl) ?_
        refine lv_aload_n hx hb dX4_firstUnfit_23 rfl (lv_at hl 0 rfl) ?_
        refine oa_get (ci := 4) (C := RX4) (T := TX4) (N := 9) (v := .ref (ad 8 0)) hx hb hts inX4 hown hE hH 0 0 (by decide) rfl rfl 4 (by decide) (hts _ tw_180) rfl dX4_firstUnfit_24 ?_
        refine lv_iload_n hx hb dX4_firstUnfit_27 rfl (lv_at hl 1 rfl) ?_
        obtain ⟨hk4, hf⟩ := oa_ck hf
        refine oa_ald (g := fun j => ad 9 j) hx hb hE hH 8 0 (by decide) 21 4 rfl rfl (oa_in_vp hk4) dX4_firstUnfit_28 ?_
        refine lv_aload_n hx hb dX4_firstUnfit_29 rfl (lv_at hl 0 rfl) ?_
        refine oa_get (ci := 4) (C := RX4) (T := TX4) (N := 9) (v := .ref (ad 8 0)) hx hb hts inX4 hown hE hH 0 0 (by decide) rfl rfl 4 (by decide) (hts _ tw_180) rfl dX4_firstUnfit_30 ?_
        refine lv_iload_n hx hb dX4_firstUnfit_33 rfl (lv_at hl 1 rfl) ?_
        obtain ⟨hk5, hf⟩ := oa_ck hf
        refine oa_ald (g := fun j => ad 9 j) hx hb hE hH 8 0 (by decide) 21 4 rfl rfl (oa_in_vp hk5) dX4_firstUnfit_34 ?_
        refine oa_get (ci := 1) (C := RX1) (T := TX1) (N := 7) (v := oa_fr ad (M 9 x1.toNatClampNeg 6)) hx hb hts inX1 hown hE hH 9 x1.toNatClampNeg (oa_lt (oa_in_vp hk5)) rfl rfl 6 (by decide) (hts _ tw_160) rfl dX4_firstUnfit_35 ?_
        obtain ⟨hk6, hf⟩ := oa_ck hf
        have hk6v := oa_frv (ad := ad) (oa_in_vp hk6)
        rw [hk6v]
        obtain ⟨r7, M8, hc9, hf⟩ := oa_bdE hf
        refine oa_cvi (As := [.ref (ad 9 x1.toNatClampNeg), .ref (ad 5 ((M 9 x1.toNatClampNeg 6).toNatClampNeg))]) (rest := []) ⟨hx, hb, hml, hown, hts⟩ (cX4_fits_ok l D ca ad b0 hw n x1.toNatClampNeg (oa_lt (oa_in_vp hk4)) ((M 9 x1.toNatClampNeg 6).toNatClampNeg) (oa_lt (oa_in_vp hk6)) _ _ _ hc9) (cwV 2 hts (oa_gV tw_584 tw_586 tw_16 tw_44 tw_587) rfl rfl rfl (by decide +kernel) ⟨Nat.le_of_ble_eq_true rfl, Nat.le_of_ble_eq_true rfl⟩) hE hH hS (oa_recv (k := 0) (ci := 4) hE hH (by decide) rfl rfl) rfl hl.1 rfl (Nat.le_of_ble_eq_true rfl) dX4_firstUnfit_38 ⟨by decide, by decide⟩ (fun H locs hH hS => ?_)
        refine lv_if_ne (tgt := 46) hx hb dX4_firstUnfit_41 (by decide) (fun hq10 => ?_) (fun hq10 => ?_)
        · rw [if_neg hq10] at hf
          exact bX4_firstUnfit_46 C _ hrec2 n x1 _ hf _ _ hH hS _ (lv_sub hl [0, 1] rfl)
        · rw [if_pos hq10] at hf
          refine lv_iload_n hx hb dX4_firstUnfit_44 rfl (lv_at hl 1 rfl) ?_
          cases hf
          exact oa_reti hx hb hr hlocks rfl hS hH dX4_firstUnfit_45
set_option maxHeartbeats 4000000 in
set_option maxRecDepth 100000 in
theorem cX4_firstUnfit_k (l : Launch) (D : va_G) (ca : Nat → ClassId) (ad : Nat → Nat → Nat) (b0 : Nat) (hw : oa_W ad b0) (n : Nat)  (M : oa_M) (o : Int32 × oa_M) (hf : FX4_firstUnfit n  M = some o) : oa_Mi l yX4_firstUnfit (oa_w yX4_firstUnfit cX4_firstUnfit 2 (some .int)) ({ frames := 4, cells := 0, slots := 0, locals := 87 } : Room) D ca ad b0 [.ref (ad 0 0)] M o.1 o.2 := by
  refine oa_ofW (cc := cX4_firstUnfit) (maxL := 2) (ret := some .int) (by decide) rfl (Nat.le_of_ble_eq_true rfl) ?_
  intro p e s m below meth c hx hb hml hr hlocks hown hts0 hP ls hl
  obtain ⟨hH, hE⟩ := hP
  have hts : ∀ w ∈ oa_T, w.before _ s = true := fun w h => hts0 w (List.mem_cons_of_mem _ h)
  have hS : va_S (fun q => b0 ≤ q) s.heap s.heap [] := va_S.rf
  have C : oa_Cx p s m _ meth c cX4_firstUnfit 2 (some .int) RX4 D ca b0 ad := ⟨hx, hb, hml, hr, hlocks, hown, hts, hE, hw⟩
  have hl : lv_has ls 2 [(0, .ref (ad 0 0))] := hl
  unfold FX4_firstUnfit at hf
  refine lv_iconst (v := (0 : Int32)) hx hb dX4_firstUnfit_0 (by decide) ?_
  refine lv_istore_n (lv' := [(1, .int (0 : Int32)), (0, .ref (ad 0 0))]) hx hb dX4_firstUnfit_1 rfl hl (by decide) rfl (fun ls hl => ?_)
  exact bX4_firstUnfit_2 C n (0 : Int32) _ hf _ _ hH hS _ (lv_sub hl [1, 0] rfl)
theorem cX4_firstUnfit_ok (l : Launch) (D : va_G) (ca : Nat → ClassId) (ad : Nat → Nat → Nat) (b0 : Nat) (hw : oa_W ad b0) (n : Nat)  (M : oa_M) (r : Int32) (M' : oa_M) (hf : FX4_firstUnfit n  M = some (r, M')) : oa_Mi l yX4_firstUnfit (oa_w yX4_firstUnfit cX4_firstUnfit 2 (some .int)) ({ frames := 4, cells := 0, slots := 0, locals := 87 } : Room) D ca ad b0 [.ref (ad 0 0)] M r M' := cX4_firstUnfit_k l D ca ad b0 hw n  M (r, M') hf
def BX4_putInstruction_106 (rec55 : Nat → Nat → Int32 → Int32 → oa_M → Option (oa_M)) (n : Nat) (n1 : Nat) (n2 : Nat) (x3 : Int32) (x4 : Int32) (x5 : Int32) (M : oa_M) : Option (oa_M) := (rec55 n1 n2 x3 (x4 + (1 : Int32)) M)
def BX4_putInstruction_55 : Nat → Nat → Nat → Int32 → Int32 → oa_M → Option (oa_M)
  | 0, _, _, _, _, _ => none
  | n + 1, n1, n2, x3, x4, M => (if (M 5 n2 2) ≤ x4 then (some M) else (if ((M 9 n1 5) + x4) < 0 then (BX4_putInstruction_106 (BX4_putInstruction_55 n) n n1 n2 x3 x4 ((M 9 n1 5) + x4) M) else (if (64 : Int32) ≤ ((M 9 n1 5) + x4) then (BX4_putInstruction_106 (BX4_putInstruction_55 n) n n1 n2 x3 x4 ((M 9 n1 5) + x4) M) else (if oa_in ((M 9 n1 5) + x4) 64 = true then (BX4_putInstruction_106 (BX4_putInstruction_55 n) n n1 n2 x3 x4 ((M 9 n1 5) + x4) (oa_up M 3 0 ((M 9 n1 5) + x4).toNatClampNeg ((x3 >>> (((16 : Int32) - ((8 : Int32) * x4)) &&& 31)) &&& (255 : Int32)))) else none))))
def BX4_putInstruction_8 : Nat → Nat → Nat → Int32 → Int32 → oa_M → Option (oa_M)
  | 0, _, _, _, _, _ => none
  | n + 1, n1, n2, x3, x4, M => (if (M 9 n1 4) ≤ x4 then (BX4_putInstruction_55 n n1 n2 x3 (0 : Int32) M) else (if oa_in x4 3 = true then (oa_bd (FX4_wanted n n1 x4 M) (fun r3 M4 => (oa_bd (FX2_bitsFor n (3 * n2 + x4.toNatClampNeg) r3 ((M4 9 n1 5) + (M4 5 n2 2)) M4) (fun r6 M7 => (BX4_putInstruction_8 n n1 n2 (x3 ||| r6) (x4 + (1 : Int32)) M7))))) else none))
def FX4_putInstruction (n : Nat) (n1 : Nat) (n2 : Nat) (M : oa_M) : Option (oa_M) := (BX4_putInstruction_8 n n1 n2 (M 5 n2 4) (0 : Int32) M)
set_option maxHeartbeats 4000000 in
set_option maxRecDepth 100000 in
theorem bX4_putInstruction_106 {p : Program} {l : Launch} {e : Env} {s : State} {m : MethodId} {args : Array Value} {below : List Frame} {meth : Method} {c : Code} {D : va_G} {ca : Nat → ClassId} {ad : Nat → Nat → Nat} {b0 : Nat} {o : oa_M} (C : oa_Cx p s m args meth c cX4_putInstruction 6 (none) RX4 D ca b0 ad) (rec55 : Nat → Nat → Int32 → Int32 → oa_M → Option (oa_M)) (hrec55 : ∀ (n1 : Nat) (hn1 : n1 < oa_n 9) (n2 : Nat) (hn2 : n2 < oa_n 5) (x3 : Int32) (x4 : Int32) (M : oa_M), rec55 n1 n2 x3 x4 M = some o → ∀ (H : Heap) (locs : List Loc), oa_H D ca ad M H → va_S (fun q => b0 ≤ q) s.heap H locs → ∀ (ls : Array Slot), lv_has ls 6 [(0, .ref (ad 0 0)), (1, .ref (ad 9 n1)), (2, .ref (ad 5 n2)), (3, .int x3), (4, .int x4)] → W p l e ({ frames := 2, cells := 0, slots := 0, locals := 46 } : Room) s m args below meth c H locs 0 0 (MQ below (va_Qv (fun (u : oa_M) => u = o) (fun u t => oa_H D ca ad u t.heap) (fun q => b0 ≤ q)) args s 0 0 (fun q => b0 ≤ q)) (F0 m 55 ls [])) : ∀ (n : Nat), ∀ (n1 : Nat) (hn1 : n1 < oa_n 9) (n2 : Nat) (hn2 : n2 < oa_n 5) (x3 : Int32) (x4 : Int32) (x5 : Int32) (M : oa_M), BX4_putInstruction_106 rec55 n n1 n2 x3 x4 x5 M = some o → ∀ (H : Heap) (locs : List Loc), oa_H D ca ad M H → va_S (fun q => b0 ≤ q) s.heap H locs → ∀ (ls : Array Slot), lv_has ls 6 [(0, .ref (ad 0 0)), (1, .ref (ad 9 n1)), (2, .ref (ad 5 n2)), (3, .int x3), (4, .int x4), (5, .int x5)] → W p l e ({ frames := 2, cells := 0, slots := 0, locals := 46 } : Room) s m args below meth c H locs 0 0 (MQ below (va_Qv (fun (u : oa_M) => u = o) (fun u t => oa_H D ca ad u t.heap) (fun q => b0 ≤ q)) args s 0 0 (fun q => b0 ≤ q)) (F0 m 106 ls []) := by
  obtain ⟨hx, hb, hml, hr, hlocks, hown, hts, hE, hw⟩ := id C
  intro n n1 hn1 n2 hn2 x3 x4 x5 M hf H locs hH hS ls hl
  unfold BX4_putInstruction_106 at hf
  refine lv_iinc (v := (x4 + (1 : Int32))) (lv' := [(4, .int (x4 + (1 : Int32))), (0, .ref (ad 0 0)), (1, .ref (ad 9 n1)), (2, .ref (ad 5 n2)), (3, .int x3), (5, .int x5)]) hx hb dX4_putInstruction_106 hl (k := 4) rfl rfl (by decide) rfl (fun ls hl => ?_)
  refine lv_goto (tgt := 55) hx hb dX4_putInstruction_109 (by decide) ?_
  exact hrec55 n1 hn1 n2 hn2 x3 (x4 + (1 : Int32)) _ hf _ _ hH hS _ (lv_sub hl [1, 2, 3, 4, 0] rfl)
set_option maxHeartbeats 4000000 in
set_option maxRecDepth 100000 in
theorem bX4_putInstruction_55 {p : Program} {l : Launch} {e : Env} {s : State} {m : MethodId} {args : Array Value} {below : List Frame} {meth : Method} {c : Code} {D : va_G} {ca : Nat → ClassId} {ad : Nat → Nat → Nat} {b0 : Nat} {o : oa_M} (C : oa_Cx p s m args meth c cX4_putInstruction 6 (none) RX4 D ca b0 ad) : ∀ (n : Nat), ∀ (n1 : Nat) (hn1 : n1 < oa_n 9) (n2 : Nat) (hn2 : n2 < oa_n 5) (x3 : Int32) (x4 : Int32) (M : oa_M), BX4_putInstruction_55 n n1 n2 x3 x4 M = some o → ∀ (H : Heap) (locs : List Loc), oa_H D ca ad M H → va_S (fun q => b0 ≤ q) s.heap H locs → ∀ (ls : Array Slot), lv_has ls 6 [(0, .ref (ad 0 0)), (1, .ref (ad 9 n1)), (2, .ref (ad 5 n2)), (3, .int x3), (4, .int x4)] → W p l e ({ frames := 2, cells := 0, slots := 0, locals := 46 } : Room) s m args below meth c H locs 0 0 (MQ below (va_Qv (fun (u : oa_M) => u = o) (fun u t => oa_H D ca ad u t.heap) (fun q => b0 ≤ q)) args s 0 0 (fun q => b0 ≤ q)) (F0 m 55 ls []) := by
  obtain ⟨hx, hb, hml, hr, hlocks, hown, hts, hE, hw⟩ := id C
  intro n
  induction n with
  | zero => intro n1 hn1 n2 hn2 x3 x4 M hf; cases hf
  | succ n ih =>
    intro n1 hn1 n2 hn2 x3 x4 M hf H locs hH hS ls hl
    have hrec55 := ih
    unfold BX4_putInstruction_55 at hf
    refine lv_iload hx hb dX4_putInstruction_55 (lv_at hl 4 rfl) ?_
    refine lv_aload_n hx hb dX4_putInstruction_57 rfl (lv_at hl 2 rfl) ?_
    refine oa_get (ci := 0) (C := RX0) (T := TX0) (N := 6) (v := .int (M 5 n2 2)) hx hb hts inX0 hown hE hH 5 n2 hn2 rfl rfl 2 (by decide) (hts _ tw_126) rfl dX4_putInstruction_58 ?_
    refine lv_icmp_ge (tgt := 112) hx hb dX4_putInstruction_61 (by decide) (fun hq1 => ?_) (fun hq1 => ?_)
    · rw [if_pos hq1] at hf
      cases hf
      exact oa_retv hx hb hr hlocks hS hH dX4_putInstruction_112
    · rw [if_neg hq1] at hf
      refine lv_aload_n hx hb dX4_putInstruction_64 rfl (lv_at hl 1 rfl) ?_
      refine oa_get (ci := 1) (C := RX1) (T := TX1) (N := 7) (v := .int (M 9 n1 5)) hx hb hts inX1 hown hE hH 9 n1 hn1 rfl rfl 5 (by decide) (hts _ tw_159) rfl dX4_putInstruction_65 ?_
      refine lv_iload hx hb dX4_putInstruction_68 (lv_at hl 4 rfl) ?_
      refine lv_iadd hx hb dX4_putInstruction_70 ?_
      refine lv_istore (lv' := [(5, .int ((M 9 n1 5) + x4)), (0, .ref (ad 0 0)), (1, .ref (ad 9 n1)), (2, .ref (ad 5 n2)), (3, .int x3), (4, .int x4)]) hx hb dX4_putInstruction_71 hl (by decide) rfl (fun ls hl => ?_)
      refine lv_iload hx hb dX4_putInstruction_73 (lv_at hl 0 rfl) ?_
      refine lv_if_lt (tgt := 106) hx hb dX4_putInstruction_75 (by decide) (fun hq2 => ?_) (fun hq2 => ?_)
      · rw [if_pos hq2] at hf
        exact bX4_putInstruction_106 C _ hrec55 n n1 hn1 n2 hn2 x3 x4 ((M 9 n1 5) + x4) _ hf _ _ hH hS _ (lv_sub hl [1, 2, 3, 4, 5, 0] rfl)
      · rw [if_neg hq2] at hf
        refine lv_iload hx hb dX4_putInstruction_78 (lv_at hl 0 rfl) ?_
        refine lv_bipush (v := (64 : Int32)) hx hb dX4_putInstruction_80 (by decide) ?_
        refine lv_icmp_ge (tgt := 106) hx hb dX4_putInstruction_82 (by decide) (fun hq3 => ?_) (fun hq3 => ?_)
        · rw [if_pos hq3] at hf
          exact bX4_putInstruction_106 C _ hrec55 n n1 hn1 n2 hn2 x3 x4 ((M 9 n1 5) + x4) _ hf _ _ hH hS _ (lv_sub hl [1, 2, 3, 4, 5, 0] rfl)
        · rw [if_neg hq3] at hf
          refine lv_aload_n hx hb dX4_putInstruction_85 rfl (lv_at hl 1 rfl) ?_
          refine oa_get (ci := 4) (C := RX4) (T := TX4) (N := 9) (v := .ref (ad 3 0)) hx hb hts inX4 hown hE hH 0 0 (by decide) rfl rfl 2 (by decide) (hts _ tw_178) rfl dX4_putInstruction_86 ?_
          refine lv_iload hx hb dX4_putInstruction_89 (lv_at hl 0 rfl) ?_
          refine lv_iload_n hx hb dX4_putInstruction_91 rfl (lv_at hl 4 rfl) ?_
          refine lv_bipush (v := (16 : Int32)) hx hb dX4_putInstruction_92 (by decide) ?_
          refine lv_bipush (v := (8 : Int32)) hx hb dX4_putInstruction_94 (by decide) ?_
          refine lv_iload hx hb dX4_putInstruction_96 (lv_at hl 5 rfl) ?_
          refine lv_imul hx hb dX4_putInstruction_98 ?_
          refine lv_isub hx hb dX4_putInstruction_99 ?_
          refine lv_ishr hx hb dX4_putInstruction_100 ?_
          refine lv_sipush (v := (255 : Int32)) hx hb dX4_putInstruction_101 (by decide) ?_
          refine lv_iand hx hb dX4_putInstruction_104 ?_
          obtain ⟨hk4, hf⟩ := oa_ck hf
          refine oa_ist hx hb hE hw hH hS 3 0 (by decide) 64 (fun _ => rfl) (oa_in_vp hk4) dX4_putInstruction_105 (fun H locs hH hS => ?_)
          exact bX4_putInstruction_106 C _ hrec55 n n1 hn1 n2 hn2 x3 x4 ((M 9 n1 5) + x4) _ hf _ _ hH hS _ (lv_sub hl [1, 2, 3, 4, 5, 0] rfl)
set_option maxHeartbeats 4000000 in
set_option maxRecDepth 100000 in
theorem bX4_putInstruction_8 {p : Program} {l : Launch} {e : Env} {s : State} {m : MethodId} {args : Array Value} {below : List Frame} {meth : Method} {c : Code} {D : va_G} {ca : Nat → ClassId} {ad : Nat → Nat → Nat} {b0 : Nat} {o : oa_M} (C : oa_Cx p s m args meth c cX4_putInstruction 6 (none) RX4 D ca b0 ad) : ∀ (n : Nat), ∀ (n1 : Nat) (hn1 : n1 < oa_n 9) (n2 : Nat) (hn2 : n2 < oa_n 5) (x3 : Int32) (x4 : Int32) (M : oa_M), BX4_putInstruction_8 n n1 n2 x3 x4 M = some o → ∀ (H : Heap) (locs : List Loc), oa_H D ca ad M H → va_S (fun q => b0 ≤ q) s.heap H locs → ∀ (ls : Array Slot), lv_has ls 6 [(0, .ref (ad 0 0)), (1, .ref (ad 9 n1)), (2, .ref (ad 5 n2)), (3, .int x3), (4, .int x4)] → W p l e ({ frames := 2, cells := 0, slots := 0, locals := 46 } : Room) s m args below meth c H locs 0 0 (MQ below (va_Qv (fun (u : oa_M) => u = o) (fun u t => oa_H D ca ad u t.heap) (fun q => b0 ≤ q)) args s 0 0 (fun q => b0 ≤ q)) (F0 m 8 ls []) := by
  obtain ⟨hx, hb, hml, hr, hlocks, hown, hts, hE, hw⟩ := id C
  intro n
  induction n with
  | zero => intro n1 hn1 n2 hn2 x3 x4 M hf; cases hf
  | succ n ih =>
    intro n1 hn1 n2 hn2 x3 x4 M hf H locs hH hS ls hl
    have hrec8 := ih
    unfold BX4_putInstruction_8 at hf
    refine lv_iload hx hb dX4_putInstruction_8 (lv_at hl 4 rfl) ?_
    refine lv_aload_n hx hb dX4_putInstruction_10 rfl (lv_at hl 1 rfl) ?_
    refine oa_get (ci := 1) (C := RX1) (T := TX1) (N := 7) (v := .int (M 9 n1 4)) hx hb hts inX1 hown hE hH 9 n1 hn1 rfl rfl 4 (by decide) (hts _ tw_158) rfl dX4_putInstruction_11 ?_
    refine lv_icmp_ge (tgt := 52) hx hb dX4_putInstruction_14 (by decide) (fun hq1 => ?_) (fun hq1 => ?_)
    · rw [if_pos hq1] at hf
      refine lv_iconst (v := (0 : Int32)) hx hb dX4_putInstruction_52 (by decide) ?_
      refine lv_istore (lv' := [(4, .int (0 : Int32)), (0, .ref (ad 0 0)), (1, .ref (ad 9 n1)), (2, .ref (ad 5 n2)), (3, .int x3)]) hx hb dX4_putInstruction_53 hl (by decide) rfl (fun ls hl => ?_)
      exact bX4_putInstruction_55 C n n1 hn1 n2 hn2 x3 (0 : Int32) _ hf _ _ hH hS _ (lv_sub hl [1, 2, 3, 4, 0] rfl)
    · rw [if_neg hq1] at hf
      refine lv_iload_n hx hb dX4_putInstruction_17 rfl (lv_at hl 3 rfl) ?_
      refine lv_aload_n hx hb dX4_putInstruction_18 rfl (lv_at hl 2 rfl) ?_
      refine oa_get (ci := 0) (C := RX0) (T := TX0) (N := 6) (v := .ref (ad 6 n2)) hx hb hts inX0 hown hE hH 5 n2 hn2 rfl rfl 0 (by decide) (hts _ tw_122) rfl dX4_putInstruction_19 ?_
      refine lv_iload hx hb dX4_putInstruction_22 (lv_at hl 4 rfl) ?_
      obtain ⟨hk2, hf⟩ := oa_ck hf
      refine oa_ald (g := fun j => ad 7 (3 * n2 + j)) hx hb hE hH 6 n2 hn2 3 5 rfl rfl (oa_in_vp hk2) dX4_putInstruction_24 ?_
      refine lv_aload_n hx hb dX4_putInstruction_25 rfl (lv_at hl 0 rfl) ?_
      refine lv_aload_n hx hb dX4_putInstruction_26 rfl (lv_at hl 1 rfl) ?_
      refine lv_iload hx hb dX4_putInstruction_27 (lv_at hl 4 rfl) ?_
      obtain ⟨r3, M4, hc5, hf⟩ := oa_bdE hf
      refine oa_cvi (As := [.ref (ad 9 n1), .int x4]) (rest := [.ref (ad 7 (3 * n2 + x4.toNatClampNeg)), .int x3]) ⟨hx, hb, hml, hown, hts⟩ (cX4_wanted_ok l D ca ad b0 hw n n1 hn1 x4 _ _ _ hc5) (cwV 2 hts (oa_gV tw_588 tw_590 tw_17 tw_44 tw_591) rfl rfl rfl (by decide +kernel) ⟨Nat.le_of_ble_eq_true rfl, Nat.le_of_ble_eq_true rfl⟩) hE hH hS (oa_recv (k := 0) (ci := 4) hE hH (by decide) rfl rfl) rfl hl.1 rfl (Nat.le_of_ble_eq_true rfl) dX4_putInstruction_29 ⟨by decide, by decide⟩ (fun H locs hH hS => ?_)
      refine lv_aload_n hx hb dX4_putInstruction_32 rfl (lv_at hl 1 rfl) ?_
      refine oa_get (ci := 1) (C := RX1) (T := TX1) (N := 7) (v := .int (M4 9 n1 5)) hx hb hts inX1 hown hE hH 9 n1 hn1 rfl rfl 5 (by decide) (hts _ tw_159) rfl dX4_putInstruction_33 ?_
      refine lv_aload_n hx hb dX4_putInstruction_36 rfl (lv_at hl 2 rfl) ?_
      refine oa_get (ci := 0) (C := RX0) (T := TX0) (N := 6) (v := .int (M4 5 n2 2)) hx hb hts inX0 hown hE hH 5 n2 hn2 rfl rfl 2 (by decide) (hts _ tw_126) rfl dX4_putInstruction_37 ?_
      refine lv_iadd hx hb dX4_putInstruction_40 ?_
      obtain ⟨r6, M7, hc8, hf⟩ := oa_bdE hf
      refine oa_cvi (As := [.int r3, .int ((M4 9 n1 5) + (M4 5 n2 2))]) (rest := [.int x3]) ⟨hx, hb, hml, hown, hts⟩ (cX2_bitsFor_ok l D ca ad b0 hw n (3 * n2 + x4.toNatClampNeg) (oa_lt7 hn2 (oa_in_vp hk2)) r3 ((M4 9 n1 5) + (M4 5 n2 2)) _ _ _ hc8) (cwV 2 hts (oa_gV tw_605 tw_606 tw_607 tw_47 tw_608) rfl rfl rfl (by decide +kernel) ⟨Nat.le_of_ble_eq_true rfl, Nat.le_of_ble_eq_true rfl⟩) hE hH hS (oa_recv (k := 7) (ci := 2) hE hH (oa_lt7 hn2 (oa_in_vp hk2)) rfl rfl) rfl hl.1 rfl (Nat.le_of_ble_eq_true rfl) dX4_putInstruction_41 ⟨by decide, by decide⟩ (fun H locs hH hS => ?_)
      refine lv_ior hx hb dX4_putInstruction_44 ?_
      refine lv_istore_n (lv' := [(3, .int (x3 ||| r6)), (0, .ref (ad 0 0)), (1, .ref (ad 9 n1)), (2, .ref (ad 5 n2)), (4, .int x4)]) hx hb dX4_putInstruction_45 rfl hl (by decide) rfl (fun ls hl => ?_)
      refine lv_iinc (v := (x4 + (1 : Int32))) (lv' := [(4, .int (x4 + (1 : Int32))), (3, .int (x3 ||| r6)), (0, .ref (ad 0 0)), (1, .ref (ad 9 n1)), (2, .ref (ad 5 n2))]) hx hb dX4_putInstruction_46 hl (k := 4) rfl rfl (by decide) rfl (fun ls hl => ?_)
      refine lv_goto (tgt := 8) hx hb dX4_putInstruction_49 (by decide) ?_
      exact hrec8 n1 hn1 n2 hn2 (x3 ||| r6) (x4 + (1 : Int32)) _ hf _ _ hH hS _ (lv_sub hl [2, 3, 4, 1, 0] rfl)
set_option maxHeartbeats 4000000 in
set_option maxRecDepth 100000 in
theorem cX4_putInstruction_k (l : Launch) (D : va_G) (ca : Nat → ClassId) (ad : Nat → Nat → Nat) (b0 : Nat) (hw : oa_W ad b0) (n : Nat) (n1 : Nat) (hn1 : n1 < oa_n 9) (n2 : Nat) (hn2 : n2 < oa_n 5) (M : oa_M) (o : oa_M) (hf : FX4_putInstruction n n1 n2 M = some o) : oa_Mv l yX4_putInstruction (oa_w yX4_putInstruction cX4_putInstruction 6 none) ({ frames := 2, cells := 0, slots := 0, locals := 46 } : Room) D ca ad b0 [.ref (ad 0 0), .ref (ad 9 n1), .ref (ad 5 n2)] M o := by
  refine oa_ofW (cc := cX4_putInstruction) (maxL := 6) (ret := none) (by decide) rfl (Nat.le_of_ble_eq_true rfl) ?_
  intro p e s m below meth c hx hb hml hr hlocks hown hts0 hP ls hl
  obtain ⟨hH, hE⟩ := hP
  have hts : ∀ w ∈ oa_T, w.before _ s = true := fun w h => hts0 w (List.mem_cons_of_mem _ h)
  have hS : va_S (fun q => b0 ≤ q) s.heap s.heap [] := va_S.rf
  have C : oa_Cx p s m _ meth c cX4_putInstruction 6 (none) RX4 D ca b0 ad := ⟨hx, hb, hml, hr, hlocks, hown, hts, hE, hw⟩
  have hl : lv_has ls 6 [(0, .ref (ad 0 0)), (1, .ref (ad 9 n1)), (2, .ref (ad 5 n2))] := hl
  unfold FX4_putInstruction at hf
  refine lv_aload_n hx hb dX4_putInstruction_0 rfl (lv_at hl 2 rfl) ?_
  refine oa_get (ci := 0) (C := RX0) (T := TX0) (N := 6) (v := .int (M 5 n2 4)) hx hb hts inX0 hown hE hH 5 n2 hn2 rfl rfl 4 (by decide) (hts _ tw_129) rfl dX4_putInstruction_1 ?_
  refine lv_istore_n (lv' := [(3, .int (M 5 n2 4)), (0, .ref (ad 0 0)), (1, .ref (ad 9 n1)), (2, .ref (ad 5 n2))]) hx hb dX4_putInstruction_4 rfl hl (by decide) rfl (fun ls hl => ?_)
  refine lv_iconst (v := (0 : Int32)) hx hb dX4_putInstruction_5 (by decide) ?_
  refine lv_istore (lv' := [(4, .int (0 : Int32)), (3, .int (M 5 n2 4)), (0, .ref (ad 0 0)), (1, .ref (ad 9 n1)), (2, .ref (ad 5 n2))]) hx hb dX4_putInstruction_6 hl (by decide) rfl (fun ls hl => ?_)
  exact bX4_putInstruction_8 C n n1 hn1 n2 hn2 (M 5 n2 4) (0 : Int32) _ hf _ _ hH hS _ (lv_sub hl [2, 3, 4, 1, 0] rfl)
theorem cX4_putInstruction_ok (l : Launch) (D : va_G) (ca : Nat → ClassId) (ad : Nat → Nat → Nat) (b0 : Nat) (hw : oa_W ad b0) (n : Nat) (n1 : Nat) (hn1 : n1 < oa_n 9) (n2 : Nat) (hn2 : n2 < oa_n 5) (M : oa_M) (o : oa_M) (hf : FX4_putInstruction n n1 n2 M = some o) : oa_Mv l yX4_putInstruction (oa_w yX4_putInstruction cX4_putInstruction 6 none) ({ frames := 2, cells := 0, slots := 0, locals := 46 } : Room) D ca ad b0 [.ref (ad 0 0), .ref (ad 9 n1), .ref (ad 5 n2)] M o := cX4_putInstruction_k l D ca ad b0 hw n n1 hn1 n2 hn2 M o hf
def BX4_putLines_41 (rec2 : Int32 → oa_M → Option (oa_M)) (n : Nat) (x1 : Int32) (M : oa_M) : Option (oa_M) := (rec2 (x1 + (1 : Int32)) M)
def BX4_putLines_2 : Nat → Int32 → oa_M → Option (oa_M)
  | 0, _, _ => none
  | n + 1, x1, M => (if (M 0 0 6) ≤ x1 then (some M) else (if oa_in x1 21 = true then (if (M 9 x1.toNatClampNeg 6) < 0 then (BX4_putLines_41 (BX4_putLines_2 n) n x1 M) else (if oa_in x1 21 = true then (if oa_in x1 21 = true then (if oa_in (M 9 x1.toNatClampNeg 6) 13 = true then (oa_bv (FX4_putInstruction n x1.toNatClampNeg ((M 9 x1.toNatClampNeg 6).toNatClampNeg) M) (fun M8 => (BX4_putLines_41 (BX4_putLines_2 n) n x1 M8))) else none) else none) else none)) else none))
def FX4_putLines (n : Nat)  (M : oa_M) : Option (oa_M) := (BX4_putLines_2 n (0 : Int32) M)
set_option maxHeartbeats 4000000 in
set_option maxRecDepth 100000 in
theorem bX4_putLines_41 {p : Program} {l : Launch} {e : Env} {s : State} {m : MethodId} {args : Array Value} {below : List Frame} {meth : Method} {c : Code} {D : va_G} {ca : Nat → ClassId} {ad : Nat → Nat → Nat} {b0 : Nat} {o : oa_M} (C : oa_Cx p s m args meth c cX4_putLines 2 (none) RX4 D ca b0 ad) (rec2 : Int32 → oa_M → Option (oa_M)) (hrec2 : ∀ (x1 : Int32) (M : oa_M), rec2 x1 M = some o → ∀ (H : Heap) (locs : List Loc), oa_H D ca ad M H → va_S (fun q => b0 ≤ q) s.heap H locs → ∀ (ls : Array Slot), lv_has ls 2 [(0, .ref (ad 0 0)), (1, .int x1)] → W p l e ({ frames := 3, cells := 0, slots := 0, locals := 71 } : Room) s m args below meth c H locs 0 0 (MQ below (va_Qv (fun (u : oa_M) => u = o) (fun u t => oa_H D ca ad u t.heap) (fun q => b0 ≤ q)) args s 0 0 (fun q => b0 ≤ q)) (F0 m 2 ls [])) : ∀ (n : Nat), ∀ (x1 : Int32) (M : oa_M), BX4_putLines_41 rec2 n x1 M = some o → ∀ (H : Heap) (locs : List Loc), oa_H D ca ad M H → va_S (fun q => b0 ≤ q) s.heap H locs → ∀ (ls : Array Slot), lv_has ls 2 [(0, .ref (ad 0 0)), (1, .int x1)] → W p l e ({ frames := 3, cells := 0, slots := 0, locals := 71 } : Room) s m args below meth c H locs 0 0 (MQ below (va_Qv (fun (u : oa_M) => u = o) (fun u t => oa_H D ca ad u t.heap) (fun q => b0 ≤ q)) args s 0 0 (fun q => b0 ≤ q)) (F0 m 41 ls []) := by
  obtain ⟨hx, hb, hml, hr, hlocks, hown, hts, hE, hw⟩ := id C
  intro n x1 M hf H locs hH hS ls hl
  unfold BX4_putLines_41 at hf
  refine lv_iinc (v := (x1 + (1 : Int32))) (lv' := [(1, .int (x1 + (1 : Int32))), (0, .ref (ad 0 0))]) hx hb dX4_putLines_41 hl (k := 1) rfl rfl (by decide) rfl (fun ls hl => ?_)
  refine lv_goto (tgt := 2) hx hb dX4_putLines_44 (by decide) ?_
  exact hrec2 (x1 + (1 : Int32)) _ hf _ _ hH hS _ (lv_sub hl [1, 0] rfl)
set_option maxHeartbeats 4000000 in
set_option maxRecDepth 100000 in
theorem bX4_putLines_2 {p : Program} {l : Launch} {e : Env} {s : State} {m : MethodId} {args : Array Value} {below : List Frame} {meth : Method} {c : Code} {D : va_G} {ca : Nat → ClassId} {ad : Nat → Nat → Nat} {b0 : Nat} {o : oa_M} (C : oa_Cx p s m args meth c cX4_putLines 2 (none) RX4 D ca b0 ad) : ∀ (n : Nat), ∀ (x1 : Int32) (M : oa_M), BX4_putLines_2 n x1 M = some o → ∀ (H : Heap) (locs : List Loc), oa_H D ca ad M H → va_S (fun q => b0 ≤ q) s.heap H locs → ∀ (ls : Array Slot), lv_has ls 2 [(0, .ref (ad 0 0)), (1, .int x1)] → W p l e ({ frames := 3, cells := 0, slots := 0, locals := 71 } : Room) s m args below meth c H locs 0 0 (MQ below (va_Qv (fun (u : oa_M) => u = o) (fun u t => oa_H D ca ad u t.heap) (fun q => b0 ≤ q)) args s 0 0 (fun q => b0 ≤ q)) (F0 m 2 ls []) := by
  obtain ⟨hx, hb, hml, hr, hlocks, hown, hts, hE, hw⟩ := id C
  intro n
  induction n with
  | zero => intro x1 M hf; cases hf
  | succ n ih =>
    intro x1 M hf H locs hH hS ls hl
    have hrec2 := ih
    unfold BX4_putLines_2 at hf
    refine lv_iload_n hx hb dX4_putLines_2 rfl (lv_at hl 1 rfl) ?_
    refine lv_aload_n hx hb dX4_putLines_3 rfl (lv_at hl 0 rfl) ?_
    refine oa_get (ci := 4) (C := RX4) (T := TX4) (N := 9) (v := .int (M 0 0 6)) hx hb hts inX4 hown hE hH 0 0 (by decide) rfl rfl 6 (by decide) (hts _ tw_182) rfl dX4_putLines_4 ?_
    refine lv_icmp_ge (tgt := 47) hx hb dX4_putLines_7 (by decide) (fun hq1 => ?_) (fun hq1 => ?_)
    · rw [if_pos hq1] at hf
      cases hf
      exact oa_retv hx hb hr hlocks hS hH dX4_putLines_47
    · rw [if_neg hq1] at hf
      refine lv_aload_n hx hb dX4_putLines_10 rfl (lv_at hl 0 rfl) ?_
      refine oa_get (ci := 4) (C := RX4) (T := TX4) (N := 9) (v := .ref (ad 8 0)) hx hb hts inX4 hown hE hH 0 0 (by decide) rfl rfl 4 (by decide) (hts _ tw_180) rfl dX4_putLines_11 ?_
      refine lv_iload_n hx hb dX4_putLines_14 rfl (lv_at hl 1 rfl) ?_
      obtain ⟨hk2, hf⟩ := oa_ck hf
      refine oa_ald (g := fun j => ad 9 j) hx hb hE hH 8 0 (by decide) 21 4 rfl rfl (oa_in_vp hk2) dX4_putLines_15 ?_
      refine oa_get (ci := 1) (C := RX1) (T := TX1) (N := 7) (v := oa_fr ad (M 9 x1.toNatClampNeg 6)) hx hb hts inX1 hown hE hH 9 x1.toNatClampNeg (oa_lt (oa_in_vp hk2)) rfl rfl 6 (by decide) (hts _ tw_160) rfl dX4_putLines_16 ?_
      refine oa_ifnull (tgt := 41) hx hb dX4_putLines_19 (by decide) (fun hq3 => ?_) (fun hq3 => ?_)
      · rw [if_pos hq3] at hf
        exact bX4_putLines_41 C _ hrec2 n x1 _ hf _ _ hH hS _ (lv_sub hl [0, 1] rfl)
      · rw [if_neg hq3] at hf
        refine lv_aload_n hx hb dX4_putLines_22 rfl (lv_at hl 0 rfl) ?_
        refine lv_aload_n hx hb dX4_putLines_23 rfl (lv_at hl 0 rfl) ?_
        refine oa_get (ci := 4) (C := RX4) (T := TX4) (N := 9) (v := .ref (ad 8 0)) hx hb hts inX4 hown hE hH 0 0 (by decide) rfl rfl 4 (by decide) (hts _ tw_180) rfl dX4_putLines_24 ?_
        refine lv_iload_n hx hb dX4_putLines_27 rfl (lv_at hl 1 rfl) ?_
        obtain ⟨hk4, hf⟩ := oa_ck hf
        refine oa_ald (g := fun j => ad 9 j) hx hb hE hH 8 0 (by decide) 21 4 rfl rfl (oa_in_vp hk4) dX4_putLines_28 ?_
        refine lv_aload_n hx hb dX4_putLines_29 rfl (lv_at hl 0 rfl) ?_
        refine oa_get (ci := 4) (C := RX4) (T := TX4) (N := 9) (v := .ref (ad 8 0)) hx hb hts inX4 hown hE hH 0 0 (by decide) rfl rfl 4 (by decide) (hts _ tw_180) rfl dX4_putLines_30 ?_
        refine lv_iload_n hx hb dX4_putLines_33 rfl (lv_at hl 1 rfl) ?_
        obtain ⟨hk5, hf⟩ := oa_ck hf
        refine oa_ald (g := fun j => ad 9 j) hx hb hE hH 8 0 (by decide) 21 4 rfl rfl (oa_in_vp hk5) dX4_putLines_34 ?_
        refine oa_get (ci := 1) (C := RX1) (T := TX1) (N := 7) (v := oa_fr ad (M 9 x1.toNatClampNeg 6)) hx hb hts inX1 hown hE hH 9 x1.toNatClampNeg (oa_lt (oa_in_vp hk5)) rfl rfl 6 (by decide) (hts _ tw_160) rfl dX4_putLines_35 ?_
        obtain ⟨hk6, hf⟩ := oa_ck hf
        have hk6v := oa_frv (ad := ad) (oa_in_vp hk6)
        rw [hk6v]
        obtain ⟨M8, hc9, hf⟩ := oa_bvE hf
        refine oa_cvv (As := [.ref (ad 9 x1.toNatClampNeg), .ref (ad 5 ((M 9 x1.toNatClampNeg 6).toNatClampNeg))]) (rest := []) ⟨hx, hb, hml, hown, hts⟩ (cX4_putInstruction_ok l D ca ad b0 hw n x1.toNatClampNeg (oa_lt (oa_in_vp hk4)) ((M 9 x1.toNatClampNeg 6).toNatClampNeg) (oa_lt (oa_in_vp hk6)) _ _ hc9) (cwV 2 hts (oa_gV tw_601 tw_603 tw_19 tw_44 tw_604) rfl rfl rfl (by decide +kernel) ⟨Nat.le_of_ble_eq_true rfl, Nat.le_of_ble_eq_true rfl⟩) hE hH hS (oa_recv (k := 0) (ci := 4) hE hH (by decide) rfl rfl) rfl hl.1 rfl (Nat.le_of_ble_eq_true rfl) dX4_putLines_38 ⟨by decide, by decide⟩ (fun H locs hH hS => ?_)
        exact bX4_putLines_41 C _ hrec2 n x1 _ hf _ _ hH hS _ (lv_sub hl [0, 1] rfl)
set_option maxHeartbeats 4000000 in
set_option maxRecDepth 100000 in
theorem cX4_putLines_k (l : Launch) (D : va_G) (ca : Nat → ClassId) (ad : Nat → Nat → Nat) (b0 : Nat) (hw : oa_W ad b0) (n : Nat)  (M : oa_M) (o : oa_M) (hf : FX4_putLines n  M = some o) : oa_Mv l yX4_putLines (oa_w yX4_putLines cX4_putLines 2 none) ({ frames := 3, cells := 0, slots := 0, locals := 71 } : Room) D ca ad b0 [.ref (ad 0 0)] M o := by
  refine oa_ofW (cc := cX4_putLines) (maxL := 2) (ret := none) (by decide) rfl (Nat.le_of_ble_eq_true rfl) ?_
  intro p e s m below meth c hx hb hml hr hlocks hown hts0 hP ls hl
  obtain ⟨hH, hE⟩ := hP
  have hts : ∀ w ∈ oa_T, w.before _ s = true := fun w h => hts0 w (List.mem_cons_of_mem _ h)
  have hS : va_S (fun q => b0 ≤ q) s.heap s.heap [] := va_S.rf
  have C : oa_Cx p s m _ meth c cX4_putLines 2 (none) RX4 D ca b0 ad := ⟨hx, hb, hml, hr, hlocks, hown, hts, hE, hw⟩
  have hl : lv_has ls 2 [(0, .ref (ad 0 0))] := hl
  unfold FX4_putLines at hf
  refine lv_iconst (v := (0 : Int32)) hx hb dX4_putLines_0 (by decide) ?_
  refine lv_istore_n (lv' := [(1, .int (0 : Int32)), (0, .ref (ad 0 0))]) hx hb dX4_putLines_1 rfl hl (by decide) rfl (fun ls hl => ?_)
  exact bX4_putLines_2 C n (0 : Int32) _ hf _ _ hH hS _ (lv_sub hl [1, 0] rfl)
theorem cX4_putLines_ok (l : Launch) (D : va_G) (ca : Nat → ClassId) (ad : Nat → Nat → Nat) (b0 : Nat) (hw : oa_W ad b0) (n : Nat)  (M : oa_M) (o : oa_M) (hf : FX4_putLines n  M = some o) : oa_Mv l yX4_putLines (oa_w yX4_putLines cX4_putLines 2 none) ({ frames := 3, cells := 0, slots := 0, locals := 71 } : Room) D ca ad b0 [.ref (ad 0 0)] M o := cX4_putLines_k l D ca ad b0 hw n  M o hf
def FX4_fault (n : Nat)  (M : oa_M) : Option (Int32 × oa_M) := (some ((M 0 0 7), M))
set_option maxHeartbeats 4000000 in
set_option maxRecDepth 100000 in
theorem cX4_fault_k (l : Launch) (D : va_G) (ca : Nat → ClassId) (ad : Nat → Nat → Nat) (b0 : Nat) (hw : oa_W ad b0) (n : Nat)  (M : oa_M) (o : Int32 × oa_M) (hf : FX4_fault n  M = some o) : oa_Mi l yX4_fault (oa_w yX4_fault cX4_fault 1 (some .int)) ({ frames := 0, cells := 0, slots := 0, locals := 0 } : Room) D ca ad b0 [.ref (ad 0 0)] M o.1 o.2 := by
  refine oa_ofW (cc := cX4_fault) (maxL := 1) (ret := some .int) (by decide) rfl (Nat.le_of_ble_eq_true rfl) ?_
  intro p e s m below meth c hx hb hml hr hlocks hown hts0 hP ls hl
  obtain ⟨hH, hE⟩ := hP
  have hts : ∀ w ∈ oa_T, w.before _ s = true := fun w h => hts0 w (List.mem_cons_of_mem _ h)
  have hS : va_S (fun q => b0 ≤ q) s.heap s.heap [] := va_S.rf
  have C : oa_Cx p s m _ meth c cX4_fault 1 (some .int) RX4 D ca b0 ad := ⟨hx, hb, hml, hr, hlocks, hown, hts, hE, hw⟩
  have hl : lv_has ls 1 [(0, .ref (ad 0 0))] := hl
  unfold FX4_fault at hf
  refine lv_aload_n hx hb dX4_fault_0 rfl (lv_at hl 0 rfl) ?_
  refine oa_get (ci := 4) (C := RX4) (T := TX4) (N := 9) (v := .int (M 0 0 7)) hx hb hts inX4 hown hE hH 0 0 (by decide) rfl rfl 7 (by decide) (hts _ tw_183) rfl dX4_fault_1 ?_
  cases hf
  exact oa_reti hx hb hr hlocks rfl hS hH dX4_fault_4
theorem cX4_fault_ok (l : Launch) (D : va_G) (ca : Nat → ClassId) (ad : Nat → Nat → Nat) (b0 : Nat) (hw : oa_W ad b0) (n : Nat)  (M : oa_M) (r : Int32) (M' : oa_M) (hf : FX4_fault n  M = some (r, M')) : oa_Mi l yX4_fault (oa_w yX4_fault cX4_fault 1 (some .int)) ({ frames := 0, cells := 0, slots := 0, locals := 0 } : Room) D ca ad b0 [.ref (ad 0 0)] M r M' := cX4_fault_k l D ca ad b0 hw n  M (r, M') hf
def BX4_count_54 (n : Nat) (x1 : Int32) (z0 : Int32) (M : oa_M) : Option (Int32 × oa_M) := (some (z0, M))
def FX4_count (n : Nat) (x1 : Int32) (M : oa_M) : Option (Int32 × oa_M) := (if x1 = (0 : Int32) then (some ((M 0 0 5), M)) else (if x1 = (1 : Int32) then (some ((M 0 0 6), M)) else (if x1 = (2 : Int32) then (if (M 0 0 8) = 0 then (BX4_count_54 n x1 (0 : Int32) M) else (BX4_count_54 n x1 (1 : Int32) M)) else (if x1 = (3 : Int32) then (some ((M 1 0 1), M)) else (some ((-1 : Int32), M))))))
set_option maxHeartbeats 4000000 in
set_option maxRecDepth 100000 in
theorem bX4_count_54 {p : Program} {l : Launch} {e : Env} {s : State} {m : MethodId} {args : Array Value} {below : List Frame} {meth : Method} {c : Code} {D : va_G} {ca : Nat → ClassId} {ad : Nat → Nat → Nat} {b0 : Nat} {o : Int32 × oa_M} (C : oa_Cx p s m args meth c cX4_count 2 (some .int) RX4 D ca b0 ad) : ∀ (n : Nat), ∀ (x1 : Int32) (z0 : Int32) (M : oa_M), BX4_count_54 n x1 z0 M = some o → ∀ (H : Heap) (locs : List Loc), oa_H D ca ad M H → va_S (fun q => b0 ≤ q) s.heap H locs → ∀ (ls : Array Slot), lv_has ls 2 [(0, .ref (ad 0 0)), (1, .int x1)] → W p l e ({ frames := 0, cells := 0, slots := 0, locals := 0 } : Room) s m args below meth c H locs 0 0 (MQ below (va_Qi (fun (r' : Int32) (u : oa_M) => r' = o.1 ∧ u = o.2) (fun u t => oa_H D ca ad u t.heap) (fun q => b0 ≤ q)) args s 0 0 (fun q => b0 ≤ q)) (F0 m 54 ls [.int z0]) := by
  obtain ⟨hx, hb, hml, hr, hlocks, hown, hts, hE, hw⟩ := id C
  intro n x1 z0 M hf H locs hH hS ls hl
  unfold BX4_count_54 at hf
  cases hf
  exact oa_reti hx hb hr hlocks rfl hS hH dX4_count_54
set_option maxHeartbeats 4000000 in
set_option maxRecDepth 100000 in
theorem cX4_count_k (l : Launch) (D : va_G) (ca : Nat → ClassId) (ad : Nat → Nat → Nat) (b0 : Nat) (hw : oa_W ad b0) (n : Nat) (x1 : Int32) (M : oa_M) (o : Int32 × oa_M) (hf : FX4_count n x1 M = some o) : oa_Mi l yX4_count (oa_w yX4_count cX4_count 2 (some .int)) ({ frames := 0, cells := 0, slots := 0, locals := 0 } : Room) D ca ad b0 [.ref (ad 0 0), .int x1] M o.1 o.2 := by
  refine oa_ofW (cc := cX4_count) (maxL := 2) (ret := some .int) (by decide) rfl (Nat.le_of_ble_eq_true rfl) ?_
  intro p e s m below meth c hx hb hml hr hlocks hown hts0 hP ls hl
  obtain ⟨hH, hE⟩ := hP
  have hts : ∀ w ∈ oa_T, w.before _ s = true := fun w h => hts0 w (List.mem_cons_of_mem _ h)
  have hS : va_S (fun q => b0 ≤ q) s.heap s.heap [] := va_S.rf
  have C : oa_Cx p s m _ meth c cX4_count 2 (some .int) RX4 D ca b0 ad := ⟨hx, hb, hml, hr, hlocks, hown, hts, hE, hw⟩
  have hl : lv_has ls 2 [(0, .ref (ad 0 0)), (1, .int x1)] := hl
  unfold FX4_count at hf
  refine lv_iload_n hx hb dX4_count_0 rfl (lv_at hl 1 rfl) ?_
  by_cases hq1 : x1 = (0 : Int32)
  · rw [if_pos hq1] at hf
    refine lv_tableIn (tgt := 32) hx hb dX4_count_1 (by rw [hq1]; decide) (by rw [hq1]; decide) (by rw [hq1]; rfl) (by decide) ?_
    refine lv_aload_n hx hb dX4_count_32 rfl (lv_at hl 0 rfl) ?_
    refine oa_get (ci := 4) (C := RX4) (T := TX4) (N := 9) (v := .int (M 0 0 5)) hx hb hts inX4 hown hE hH 0 0 (by decide) rfl rfl 5 (by decide) (hts _ tw_181) rfl dX4_count_33 ?_
    cases hf
    exact oa_reti hx hb hr hlocks rfl hS hH dX4_count_36
  rw [if_neg hq1] at hf
  by_cases hq2 : x1 = (1 : Int32)
  · rw [if_pos hq2] at hf
    refine lv_tableIn (tgt := 37) hx hb dX4_count_1 (by rw [hq2]; decide) (by rw [hq2]; decide) (by rw [hq2]; rfl) (by decide) ?_
    refine lv_aload_n hx hb dX4_count_37 rfl (lv_at hl 0 rfl) ?_
    refine oa_get (ci := 4) (C := RX4) (T := TX4) (N := 9) (v := .int (M 0 0 6)) hx hb hts inX4 hown hE hH 0 0 (by decide) rfl rfl 6 (by decide) (hts _ tw_182) rfl dX4_count_38 ?_
    cases hf
    exact oa_reti hx hb hr hlocks rfl hS hH dX4_count_41
  rw [if_neg hq2] at hf
  by_cases hq3 : x1 = (2 : Int32)
  · rw [if_pos hq3] at hf
    refine lv_tableIn (tgt := 42) hx hb dX4_count_1 (by rw [hq3]; decide) (by rw [hq3]; decide) (by rw [hq3]; rfl) (by decide) ?_
    refine lv_aload_n hx hb dX4_count_42 rfl (lv_at hl 0 rfl) ?_
    refine oa_get (ci := 4) (C := RX4) (T := TX4) (N := 9) (v := .int (M 0 0 8)) hx hb hts inX4 hown hE hH 0 0 (by decide) rfl rfl 8 (by decide) (hts _ tw_184) rfl dX4_count_43 ?_
    refine lv_if_eq (tgt := 53) hx hb dX4_count_46 (by decide) (fun hq4 => ?_) (fun hq4 => ?_)
    · rw [if_pos hq4] at hf
      refine lv_iconst (v := (0 : Int32)) hx hb dX4_count_53 (by decide) ?_
      exact bX4_count_54 C n x1 (0 : Int32) _ hf _ _ hH hS _ (lv_sub hl [0, 1] rfl)
    · rw [if_neg hq4] at hf
      refine lv_iconst (v := (1 : Int32)) hx hb dX4_count_49 (by decide) ?_
      refine lv_goto (tgt := 54) hx hb dX4_count_50 (by decide) ?_
      exact bX4_count_54 C n x1 (1 : Int32) _ hf _ _ hH hS _ (lv_sub hl [0, 1] rfl)
  rw [if_neg hq3] at hf
  by_cases hq5 : x1 = (3 : Int32)
  · rw [if_pos hq5] at hf
    refine lv_tableIn (tgt := 55) hx hb dX4_count_1 (by rw [hq5]; decide) (by rw [hq5]; decide) (by rw [hq5]; rfl) (by decide) ?_
    refine lv_aload_n hx hb dX4_count_55 rfl (lv_at hl 0 rfl) ?_
    refine oa_get (ci := 4) (C := RX4) (T := TX4) (N := 9) (v := .ref (ad 1 0)) hx hb hts inX4 hown hE hH 0 0 (by decide) rfl rfl 0 (by decide) (hts _ tw_176) rfl dX4_count_56 ?_
    refine oa_get (ci := 3) (C := RX3) (T := TX3) (N := 3) (v := .int (M 1 0 1)) hx hb hts inX3 hown hE hH 1 0 (by decide) rfl rfl 1 (by decide) (hts _ tw_74) rfl dX4_count_59 ?_
    cases hf
    exact oa_reti hx hb hr hlocks rfl hS hH dX4_count_62
  rw [if_neg hq5] at hf
  refine lv_tableOut (tgt := 63) hx hb dX4_count_1 (oa_out3 hq1 hq2 hq3 hq5) (by decide) ?_
  refine lv_iconst (v := (-1 : Int32)) hx hb dX4_count_63 (by decide) ?_
  cases hf
  exact oa_reti hx hb hr hlocks rfl hS hH dX4_count_64
theorem cX4_count_ok (l : Launch) (D : va_G) (ca : Nat → ClassId) (ad : Nat → Nat → Nat) (b0 : Nat) (hw : oa_W ad b0) (n : Nat) (x1 : Int32) (M : oa_M) (r : Int32) (M' : oa_M) (hf : FX4_count n x1 M = some (r, M')) : oa_Mi l yX4_count (oa_w yX4_count cX4_count 2 (some .int)) ({ frames := 0, cells := 0, slots := 0, locals := 0 } : Room) D ca ad b0 [.ref (ad 0 0), .int x1] M r M' := cX4_count_k l D ca ad b0 hw n x1 M (r, M') hf

theorem tw_48 : (Cond.initialized RX1) ∈ oa_T := oa_mem (i := 48) (by decide +kernel) (by decide +kernel)
theorem tw_63 : (Cond.methodLink RX4 1 objectInit) ∈ oa_T := oa_mem (i := 63) (by decide +kernel) (by decide +kernel)
theorem tw_64 : (Cond.instanceMethod objectInit) ∈ oa_T := oa_mem (i := 64) (by decide +kernel) (by decide +kernel)
theorem tw_65 : (Cond.code objectInit ⟨#[0xb1]⟩ 1 none) ∈ oa_T := oa_mem (i := 65) (by decide +kernel) (by decide +kernel)
theorem tw_66 : (Cond.classLink RX4 7 "OpcodeAtlas$Text") ∈ oa_T := oa_mem (i := 66) (by decide +kernel) (by decide +kernel)
theorem tw_67 : (Cond.instantiable RX3 3) ∈ oa_T := oa_mem (i := 67) (by decide +kernel) (by decide +kernel)
theorem tw_69 : (Cond.instanceMethod yX3_init) ∈ oa_T := oa_mem (i := 69) (by decide +kernel) (by decide +kernel)
theorem tw_70 : (Cond.code yX3_init cX3_init 1 none) ∈ oa_T := oa_mem (i := 70) (by decide +kernel) (by decide +kernel)
theorem tw_71 : (Cond.methodLink RX3 3 objectInit) ∈ oa_T := oa_mem (i := 71) (by decide +kernel) (by decide +kernel)
theorem tw_83 : (Cond.arrayClass .char) ∈ oa_T := oa_mem (i := 83) (by decide +kernel) (by decide +kernel)
theorem tw_84 : (Cond.classLink RX4 23 "OpcodeAtlas$Form") ∈ oa_T := oa_mem (i := 84) (by decide +kernel) (by decide +kernel)
theorem tw_86 : (Cond.instantiable RX0 6) ∈ oa_T := oa_mem (i := 86) (by decide +kernel) (by decide +kernel)
theorem tw_87 : (Cond.methodLink RX4 29 yX0_init) ∈ oa_T := oa_mem (i := 87) (by decide +kernel) (by decide +kernel)
theorem tw_88 : (Cond.instanceMethod yX0_init) ∈ oa_T := oa_mem (i := 88) (by decide +kernel) (by decide +kernel)
theorem tw_89 : (Cond.code yX0_init cX0_init 2 none) ∈ oa_T := oa_mem (i := 89) (by decide +kernel) (by decide +kernel)
theorem tw_90 : (Cond.methodLink RX0 3 objectInit) ∈ oa_T := oa_mem (i := 90) (by decide +kernel) (by decide +kernel)
theorem tw_91 : (Cond.classLink RX0 9 "OpcodeAtlas$Operand") ∈ oa_T := oa_mem (i := 91) (by decide +kernel) (by decide +kernel)
theorem tw_93 : (Cond.instantiable RX2 5) ∈ oa_T := oa_mem (i := 93) (by decide +kernel) (by decide +kernel)
theorem tw_95 : (Cond.instanceMethod yX2_init) ∈ oa_T := oa_mem (i := 95) (by decide +kernel) (by decide +kernel)
theorem tw_96 : (Cond.code yX2_init cX2_init 1 none) ∈ oa_T := oa_mem (i := 96) (by decide +kernel) (by decide +kernel)
theorem tw_97 : (Cond.methodLink RX2 3 objectInit) ∈ oa_T := oa_mem (i := 97) (by decide +kernel) (by decide +kernel)
theorem tw_120 : (Cond.arrayClass .int) ∈ oa_T := oa_mem (i := 120) (by decide +kernel) (by decide +kernel)
theorem tw_145 : (Cond.classLink RX4 30 "OpcodeAtlas$Line") ∈ oa_T := oa_mem (i := 145) (by decide +kernel) (by decide +kernel)
theorem tw_147 : (Cond.instantiable RX1 7) ∈ oa_T := oa_mem (i := 147) (by decide +kernel) (by decide +kernel)
theorem tw_149 : (Cond.instanceMethod yX1_init) ∈ oa_T := oa_mem (i := 149) (by decide +kernel) (by decide +kernel)
theorem tw_150 : (Cond.code yX1_init cX1_init 1 none) ∈ oa_T := oa_mem (i := 150) (by decide +kernel) (by decide +kernel)
theorem tw_151 : (Cond.methodLink RX1 3 objectInit) ∈ oa_T := oa_mem (i := 151) (by decide +kernel) (by decide +kernel)
theorem tw_152 : (Cond.fieldLink RX1 9 "OpcodeAtlas$Line" "labels" "[I") ∈ oa_T := oa_mem (i := 152) (by decide +kernel) (by decide +kernel)
theorem tw_154 : (Cond.fieldLink RX1 15 "OpcodeAtlas$Line" "numbers" "[I") ∈ oa_T := oa_mem (i := 154) (by decide +kernel) (by decide +kernel)
theorem tw_614 : (Cond.methodLink RX5 1 objectInit) ∈ oa_T := oa_mem (i := 614) (by decide +kernel) (by decide +kernel)
theorem tw_709 : (Cond.arrayClass .boolean) ∈ oa_T := oa_mem (i := 709) (by decide +kernel) (by decide +kernel)
theorem oc_oinit {p : Program} {l : Launch} {e : Env} {R : Room} {s : State} {m : MethodId} {args : Array Value} {below : List Frame} {meth : Method} {c : Code} {H : Heap} {locs : List Loc} {cells slots : Nat} {Q : State → Prop} {cc : ByteArray} {pc : Nat} {ls : Array Slot} {a : Nat} (hexec : p.tables.exec = Jvm.exec) (hb : c.code = cc) {own : String} (hown : s.vm.findClass own = some m.cls) {idx : Nat} (hlink : (Cond.methodLink own idx objectInit).before args s = true) (hinst : (Cond.instanceMethod objectInit).before args s = true) (hcode : (Cond.code objectInit ⟨#[0xb1]⟩ 1 none).before args s = true) (hsize : ls.size = c.maxLocals) (hd : decode cc pc = .ok (.invokespecial idx, 3)) (hframes : 1 ≤ R.frames) (hlocals : 12 ≤ R.locals) (kk : W p l e R s m args below meth c H locs cells slots Q (F0 m (pc + 3) ls [])) : W p l e R s m args below meth c H locs cells slots Q (F0 m pc ls [.ref a]) :=
  W.objInit hexec hb hown hlink hinst hcode (g := F0 m pc ls [.ref a]) rfl hsize rfl hd hframes hlocals kk
theorem oc_upup {α : Type} (f : Nat → α) (k : Nat) (a b : α) : va_up (va_up f k a) k b = va_up f k b := by
  funext j
  by_cases h : j = k
  · subst h; rw [va_up_self, va_up_self]
  · rw [va_up_ne _ _ h, va_up_ne _ _ h, va_up_ne _ _ h]
theorem oc_swap {α : Type} (f : Nat → α) {k k' : Nat} (hk : k ≠ k') (a b c : α) : va_up (va_up (va_up f k a) k' b) k c = va_up (va_up f k c) k' b := by
  funext j
  by_cases h : j = k
  · subst h; rw [va_up_self, va_up_ne _ _ hk, va_up_self]
  · rw [va_up_ne _ _ h]
    by_cases h2 : j = k'
    · subst h2; rw [va_up_self, va_up_self]
    · rw [va_up_ne _ _ h2, va_up_ne _ _ h2, va_up_ne _ _ h, va_up_ne _ _ h]
set_option maxHeartbeats 4000000 in
set_option maxRecDepth 100000 in
theorem oc_operand (l : Launch) (D : va_G) (ca : Nat → ClassId) (b0 : Nat) (k n : Nat) (f : Nat → va_E) (hk : k < n) (hf : f k = .inr (2, [.int 0, .int 0, .int 0, .int 0, .int 0])) : oc_Met l yX2_init (oa_w yX2_init cX2_init 1 none) ({ frames := 1, cells := 0, slots := 0, locals := 12 } : Room) D ca b0 k f n (va_up f k (.inr (2, [.int 0, .int 0, .int 0, .int 1, .int 0]))) n 0 0 := by
  refine oc_ofW (cc := cX2_init) (maxL := 1) (by decide) rfl (Nat.le_of_ble_eq_true rfl) ?_
  intro p e s m below meth c hx hb hml hr hlocks hown hname hts0 hB ls hl
  obtain ⟨hP, hE⟩ := hB
  have hts : ∀ w ∈ oa_T, w.before _ s = true := fun w h => hts0 w (List.mem_cons_of_mem _ h)
  have hS : va_S (fun q => b0 ≤ q) s.heap s.heap [] := va_S.rf
  have hl : lv_has ls 1 [(0, .ref (b0 + k))] := hl
  refine lv_aload_n hx hb dX2_init_0 rfl (lv_at hl 0 rfl) ?_
  refine oc_oinit hx hb hown (hts _ tw_97) (hts _ tw_64) (hts _ tw_65) (by rw [hml]; exact hl.1) dX2_init_1 (Nat.le_of_ble_eq_true rfl) (Nat.le_of_ble_eq_true rfl) ?_
  refine lv_aload_n hx hb dX2_init_4 rfl (lv_at hl 0 rfl) ?_
  refine lv_iconst (v := (0 : Int32)) hx hb dX2_init_5 (by decide) ?_
  refine oc_put (ci := 2) (C := RX2) (T := TX2) (N := 5) (v := .int 0) (fs := [.int 0, .int 0, .int 0, .int 0, .int 0]) hx hb hts inX2 tyX2 tyX2_ok nmX2 hown hE.1 hP hS (k) (hk) hf rfl 2 (by decide) (hts _ tw_103) hname rfl rfl rfl (Nat.le_of_ble_eq_true rfl) dX2_init_6 (fun H locs hP hS => ?_)
  refine lv_aload_n hx hb dX2_init_9 rfl (lv_at hl 0 rfl) ?_
  refine lv_iconst (v := (1 : Int32)) hx hb dX2_init_10 (by decide) ?_
  refine oc_put (ci := 2) (C := RX2) (T := TX2) (N := 5) (v := .int 1) (fs := [.int 0, .int 0, .int 0, .int 0, .int 0]) hx hb hts inX2 tyX2 tyX2_ok nmX2 hown hE.1 hP hS (k) (hk) (va_up_self _ _ _) rfl 3 (by decide) (hts _ tw_105) hname rfl rfl rfl (Nat.le_of_ble_eq_true rfl) dX2_init_11 (fun H locs hP hS => ?_)
  rw [oc_upup] at hP
  exact oc_ret hx hb hr hlocks hS hP (fun j _ => oc_sm.of rfl) dX2_init_14
set_option maxHeartbeats 4000000 in
set_option maxRecDepth 100000 in
theorem oc_text (l : Launch) (D : va_G) (ca : Nat → ClassId) (b0 : Nat) (k : Nat) (f : Nat → va_E) (hf : f k = .inr (3, [.null, .int 0, .int 0])) : oc_Met l yX3_init (oa_w yX3_init cX3_init 1 none) ({ frames := 1, cells := 1, slots := 40, locals := 12 } : Room) D ca b0 k f (k + 1) (va_up (va_up f (k + 1) (.inl (ca 0, 40, .inl (fun _ => 0)))) k (.inr (3, [.ref (b0 + (k + 1)), .int 0, .int 0]))) (k + 2) 1 40 := by
  refine oc_ofW (cc := cX3_init) (maxL := 1) (by decide) rfl (Nat.le_of_ble_eq_true rfl) ?_
  intro p e s m below meth c hx hb hml hr hlocks hown hname hts0 hB ls hl
  obtain ⟨hP, hE⟩ := hB
  have hts : ∀ w ∈ oa_T, w.before _ s = true := fun w h => hts0 w (List.mem_cons_of_mem _ h)
  have hS : va_S (fun q => b0 ≤ q) s.heap s.heap [] := va_S.rf
  have hl : lv_has ls 1 [(0, .ref (b0 + k))] := hl
  refine lv_aload_n hx hb dX3_init_0 rfl (lv_at hl 0 rfl) ?_
  refine oc_oinit hx hb hown (hts _ tw_71) (hts _ tw_64) (hts _ tw_65) (by rw [hml]; exact hl.1) dX3_init_1 (Nat.le_of_ble_eq_true rfl) (Nat.le_of_ble_eq_true rfl) ?_
  refine lv_aload_n hx hb dX3_init_4 rfl (lv_at hl 0 rfl) ?_
  refine lv_bipush (v := (40 : Int32)) hx hb dX3_init_5 (by decide) ?_
  refine oc_newa (atype := .char) (a0 := (40, .inl (fun _ => 0))) (N' := 40) hx hb (hts _ tw_83) rfl hE.1 hP hS 0 rfl (fun C h => by cases h) (fun _ => rfl) (by decide) (by decide) (by decide) (by decide) (by decide) dX3_init_7 (fun H hP hS => ?_)
  refine oc_put (ci := 3) (C := RX3) (T := TX3) (N := 3) (v := .ref (b0 + (k + 1))) (fs := [.null, .int 0, .int 0]) hx hb hts inX3 tyX3 tyX3_ok nmX3 hown hE.1 hP hS (k) (by omega) ((va_up_ne _ _ (by omega)).trans hf) rfl 0 (by decide) (hts _ tw_72) hname rfl rfl rfl (Nat.le_of_ble_eq_true rfl) dX3_init_9 (fun H locs hP hS => ?_)
  exact oc_ret hx hb hr hlocks hS hP (fun j _ => oc_sm.of rfl) dX3_init_12
set_option maxHeartbeats 4000000 in
set_option maxRecDepth 100000 in
theorem oc_line (l : Launch) (D : va_G) (ca : Nat → ClassId) (b0 : Nat) (k : Nat) (f : Nat → va_E) (hf : f k = .inr (1, [.null, .null, .int 0, .int 0, .int 0, .int 0, .null])) : oc_Met l yX1_init (oa_w yX1_init cX1_init 1 none) ({ frames := 1, cells := 2, slots := 6, locals := 12 } : Room) D ca b0 k f (k + 1) (va_up (va_up (va_up (va_up f (k + 1) (.inl (ca 1, 3, .inl (fun _ => 0)))) k (.inr (1, [.ref (b0 + (k + 1)), .null, .int 0, .int 0, .int 0, .int 0, .null]))) (k + 2) (.inl (ca 1, 3, .inl (fun _ => 0)))) k (.inr (1, [.ref (b0 + (k + 1)), .ref (b0 + (k + 2)), .int 0, .int 0, .int 0, .int 0, .null]))) (k + 3) 2 6 := by
  refine oc_ofW (cc := cX1_init) (maxL := 1) (by decide) rfl (Nat.le_of_ble_eq_true rfl) ?_
  intro p e s m below meth c hx hb hml hr hlocks hown hname hts0 hB ls hl
  obtain ⟨hP, hE⟩ := hB
  have hts : ∀ w ∈ oa_T, w.before _ s = true := fun w h => hts0 w (List.mem_cons_of_mem _ h)
  have hS : va_S (fun q => b0 ≤ q) s.heap s.heap [] := va_S.rf
  have hl : lv_has ls 1 [(0, .ref (b0 + k))] := hl
  refine lv_aload_n hx hb dX1_init_0 rfl (lv_at hl 0 rfl) ?_
  refine oc_oinit hx hb hown (hts _ tw_151) (hts _ tw_64) (hts _ tw_65) (by rw [hml]; exact hl.1) dX1_init_1 (Nat.le_of_ble_eq_true rfl) (Nat.le_of_ble_eq_true rfl) ?_
  refine lv_aload_n hx hb dX1_init_4 rfl (lv_at hl 0 rfl) ?_
  refine lv_iconst (v := (3 : Int32)) hx hb dX1_init_5 (by decide) ?_
  refine oc_newa (atype := .int) (a0 := (3, .inl (fun _ => 0))) (N' := 3) hx hb (hts _ tw_120) rfl hE.1 hP hS 1 rfl (fun C h => by cases h) (fun _ => rfl) (by decide) (by decide) (by decide) (by decide) (by decide) dX1_init_6 (fun H hP hS => ?_)
  refine oc_put (ci := 1) (C := RX1) (T := TX1) (N := 7) (v := .ref (b0 + (k + 1))) (fs := [.null, .null, .int 0, .int 0, .int 0, .int 0, .null]) hx hb hts inX1 tyX1 tyX1_ok nmX1 hown hE.1 hP hS (k) (by omega) ((va_up_ne _ _ (by omega)).trans hf) rfl 0 (by decide) (hts _ tw_152) hname rfl rfl rfl (Nat.le_of_ble_eq_true rfl) dX1_init_8 (fun H locs hP hS => ?_)
  refine lv_aload_n hx hb dX1_init_11 rfl (lv_at hl 0 rfl) ?_
  refine lv_iconst (v := (3 : Int32)) hx hb dX1_init_12 (by decide) ?_
  refine oc_newa (atype := .int) (a0 := (3, .inl (fun _ => 0))) (N' := 3) hx hb (hts _ tw_120) rfl hE.1 hP hS 1 rfl (fun C h => by cases h) (fun _ => rfl) (by decide) (by decide) (by decide) (by decide) (by decide) dX1_init_13 (fun H hP hS => ?_)
  refine oc_put (ci := 1) (C := RX1) (T := TX1) (N := 7) (v := .ref (b0 + (k + 2))) (fs := [.ref (b0 + (k + 1)), .null, .int 0, .int 0, .int 0, .int 0, .null]) hx hb hts inX1 tyX1 tyX1_ok nmX1 hown hE.1 hP hS (k) (by omega) ((va_up_ne _ _ (by omega)).trans (va_up_self _ _ _)) rfl 1 (by decide) (hts _ tw_154) hname rfl rfl rfl (Nat.le_of_ble_eq_true rfl) dX1_init_15 (fun H locs hP hS => ?_)
  exact oc_ret hx hb hr hlocks hS hP (fun j _ => oc_sm.of rfl) dX1_init_18
set_option maxHeartbeats 4000000 in
set_option maxRecDepth 100000 in
theorem oc_form (l : Launch) (D : va_G) (ca : Nat → ClassId) (b0 : Nat) (k : Nat) (f : Nat → va_E) (hf : f k = .inr (0, [.null, .int 0, .int 0, .int 0, .int 0, .int 0])) : oc_Met l yX0_init (oa_w yX0_init cX0_init 2 none) ({ frames := 2, cells := 4, slots := 18, locals := 40 } : Room) D ca b0 k f (k + 1) (va_up (va_up (va_up (va_up (va_up f (k + 1) (.inl (ca 5, 3, .inr (.inr (.inr (.inr (fun j => some (b0 + (k + 2 + j))))))))) k (.inr (0, [.ref (b0 + (k + 1)), .int 0, .int 0, .int 0, .int 0, .int 0]))) (k + 2) (.inr (2, [.int 0, .int 0, .int 0, .int 1, .int 0]))) (k + 3) (.inr (2, [.int 0, .int 0, .int 0, .int 1, .int 0]))) (k + 4) (.inr (2, [.int 0, .int 0, .int 0, .int 1, .int 0]))) (k + 5) 4 18 := by
  refine oc_ofW (cc := cX0_init) (maxL := 2) (by decide) rfl (Nat.le_of_ble_eq_true rfl) ?_
  intro p e s m below meth c hx hb hml hr hlocks hown hname hts0 hB ls hl
  obtain ⟨hP, hE⟩ := hB
  have hts : ∀ w ∈ oa_T, w.before _ s = true := fun w h => hts0 w (List.mem_cons_of_mem _ h)
  have hS : va_S (fun q => b0 ≤ q) s.heap s.heap [] := va_S.rf
  have hl : lv_has ls 2 [(0, .ref (b0 + k))] := hl
  refine lv_aload_n hx hb dX0_init_0 rfl (lv_at hl 0 rfl) ?_
  refine oc_oinit hx hb hown (hts _ tw_90) (hts _ tw_64) (hts _ tw_65) (by rw [hml]; exact hl.1) dX0_init_1 (Nat.le_of_ble_eq_true rfl) (Nat.le_of_ble_eq_true rfl) ?_
  refine lv_aload_n hx hb dX0_init_4 rfl (lv_at hl 0 rfl) ?_
  refine lv_iconst (v := (3 : Int32)) hx hb dX0_init_5 (by decide) ?_
  refine oc_newq (N' := 3) hx hb hown (hts _ tw_91) (hE.2.2 RX2 (by decide)) hE.1 hP hS 5 rfl (by decide) (by decide) (by decide) (by decide) (by decide) dX0_init_6 (fun H hP hS => ?_)
  refine oc_put (ci := 0) (C := RX0) (T := TX0) (N := 6) (v := .ref (b0 + (k + 1))) (fs := [.null, .int 0, .int 0, .int 0, .int 0, .int 0]) hx hb hts inX0 tyX0 tyX0_ok nmX0 hown hE.1 hP hS (k) (by omega) ((va_up_ne _ _ (by omega)).trans hf) rfl 0 (by decide) (hts _ tw_121) hname rfl rfl rfl (Nat.le_of_ble_eq_true rfl) dX0_init_9 (fun H locs hP hS => ?_)
  refine lv_iconst (v := (0 : Int32)) hx hb dX0_init_12 (by decide) ?_
  refine lv_istore_n (lv' := [(1, .int 0), (0, .ref (b0 + k))]) hx hb dX0_init_13 rfl hl (by decide) rfl (fun ls hl => ?_)
  have hP : oc_P D b0 (va_up (va_up f (k + 1) (.inl (ca 5, 3, .inr (.inr (.inr (.inr (fun _ => none))))))) k (.inr (0, [.ref (b0 + (k + 1)), .int 0, .int 0, .int 0, .int 0, .int 0]))) (k + 2) H := hP
  have hk0 : (va_up (va_up f (k + 1) (.inl (ca 5, 3, .inr (.inr (.inr (.inr (fun _ => none))))))) k (.inr (0, [.ref (b0 + (k + 1)), .int 0, .int 0, .int 0, .int 0, .int 0]))) k = .inr (0, [.ref (b0 + (k + 1)), .int 0, .int 0, .int 0, .int 0, .int 0]) := by simp [va_up]
  have hk1 : (va_up (va_up f (k + 1) (.inl (ca 5, 3, .inr (.inr (.inr (.inr (fun _ => none))))))) k (.inr (0, [.ref (b0 + (k + 1)), .int 0, .int 0, .int 0, .int 0, .int 0]))) (k + 1) = .inl (ca 5, 3, .inr (.inr (.inr (.inr (fun _ => none))))) := by simp [va_up]
  refine lv_iload_n hx hb dX0_init_14 rfl (lv_at hl 0 rfl) ?_
  refine lv_aload_n hx hb dX0_init_15 rfl (lv_at hl 1 rfl) ?_
  refine oc_get (ci := 0) (C := RX0) (T := TX0) (N := 6) (v := .ref (b0 + (k + 1))) hx hb hts inX0 hown hE.1 hP k (by omega) hk0 rfl 0 (by decide) (hts _ tw_121) rfl dX0_init_16 ?_
  refine oc_len (v := (3 : Int32)) hx hb hE.1 hP (k + 1) (by omega) 5 rfl hk1 rfl dX0_init_19 ?_
  refine lv_icmp_ge (tgt := 42) hx hb dX0_init_20 (by decide) (fun h => absurd h (by decide)) (fun _ => ?_)
  refine lv_aload_n hx hb dX0_init_23 rfl (lv_at hl 1 rfl) ?_
  refine oc_get (ci := 0) (C := RX0) (T := TX0) (N := 6) (v := .ref (b0 + (k + 1))) hx hb hts inX0 hown hE.1 hP k (by omega) hk0 rfl 0 (by decide) (hts _ tw_121) rfl dX0_init_24 ?_
  refine lv_iload_n hx hb dX0_init_27 rfl (lv_at hl 0 rfl) ?_
  refine oc_new (ci := 2) (fs := [.int 0, .int 0, .int 0, .int 0, .int 0]) (C := RX2) (T := TX2) (N := 5) hx hb hts inX2 tyX2 tyX2_ok hown (hts _ tw_91) (hts _ tw_93) (hts _ tw_47) hE.1 hP hS rfl (fun j hj => by rcases (show j = 0 ∨ j = 1 ∨ j = 2 ∨ j = 3 ∨ j = 4 by omega) with rfl | rfl | rfl | rfl | rfl <;> rfl) (by decide) (by decide) dX0_init_28 (fun H hP hS => ?_)
  refine lv_dup hx hb dX0_init_31 rfl ?_
  refine oc_callN (rest := [.ref (b0 + (k + 2)), .int (0 : Int32), .ref (b0 + (k + 1))]) ⟨hx, hb, hml, hown, hts⟩ (oc_operand l D ca b0 (k + 2) _ _ (by omega) (va_up_self _ _ _)) (oa_gw tw_96) rfl rfl (by decide) (hts _ tw_47) (hts _ tw_95) rfl (by decide +kernel) ⟨Nat.le_of_ble_eq_true rfl, Nat.le_of_ble_eq_true rfl⟩ hE hP hS hl.1 rfl (Nat.le_of_ble_eq_true rfl) dX0_init_32 ⟨by decide, by decide⟩ (fun H locs hP hS => ?_)
  rw [oc_upup] at hP
  have hk1 : (va_up (va_up (va_up f (k + 1) (.inl (ca 5, 3, .inr (.inr (.inr (.inr (fun _ => none))))))) k (.inr (0, [.ref (b0 + (k + 1)), .int 0, .int 0, .int 0, .int 0, .int 0]))) (k + 2) (.inr (2, [.int 0, .int 0, .int 0, .int 1, .int 0]))) (k + 1) = .inl (ca 5, 3, .inr (.inr (.inr (.inr (fun _ => none))))) := by simp [va_up]
  refine oc_ast hx hb hE.1 hP hS (k + 1) (k + 2) 5 2 (by omega) (by omega) hk1 rfl (va_up_self _ _ _) rfl (by show ¬ ((0 : Int32) < 0 ∨ 3 ≤ (0 : Int32).toNatClampNeg); decide) dX0_init_35 (fun H locs hP hS => ?_)
  have hP : oc_P D b0 (va_up (va_up (va_up (va_up f (k + 1) (.inl (ca 5, 3, .inr (.inr (.inr (.inr (fun _ => none))))))) k (.inr (0, [.ref (b0 + (k + 1)), .int 0, .int 0, .int 0, .int 0, .int 0]))) (k + 2) (.inr (2, [.int 0, .int 0, .int 0, .int 1, .int 0]))) (k + 1) (.inl (ca 5, 3, .inr (.inr (.inr (.inr (va_up (fun _ => none) 0 (some (b0 + (k + 2)))))))))) (k + 3) H := hP
  refine lv_iinc (v := (1 : Int32)) (lv' := [(1, .int (1 : Int32)), (0, .ref (b0 + k))]) hx hb dX0_init_36 hl (k := 0) rfl (by decide) (by decide) rfl (fun ls hl => ?_)
  refine lv_goto (tgt := 14) hx hb dX0_init_39 (by decide) ?_
  have hk0 : (va_up (va_up (va_up (va_up f (k + 1) (.inl (ca 5, 3, .inr (.inr (.inr (.inr (fun _ => none))))))) k (.inr (0, [.ref (b0 + (k + 1)), .int 0, .int 0, .int 0, .int 0, .int 0]))) (k + 2) (.inr (2, [.int 0, .int 0, .int 0, .int 1, .int 0]))) (k + 1) (.inl (ca 5, 3, .inr (.inr (.inr (.inr (va_up (fun _ => none) 0 (some (b0 + (k + 2)))))))))) k = .inr (0, [.ref (b0 + (k + 1)), .int 0, .int 0, .int 0, .int 0, .int 0]) := by simp [va_up]
  have hk1 : (va_up (va_up (va_up (va_up f (k + 1) (.inl (ca 5, 3, .inr (.inr (.inr (.inr (fun _ => none))))))) k (.inr (0, [.ref (b0 + (k + 1)), .int 0, .int 0, .int 0, .int 0, .int 0]))) (k + 2) (.inr (2, [.int 0, .int 0, .int 0, .int 1, .int 0]))) (k + 1) (.inl (ca 5, 3, .inr (.inr (.inr (.inr (va_up (fun _ => none) 0 (some (b0 + (k + 2)))))))))) (k + 1) = .inl (ca 5, 3, .inr (.inr (.inr (.inr (va_up (fun _ => none) 0 (some (b0 + (k + 2)))))))) := by simp [va_up]
  refine lv_iload_n hx hb dX0_init_14 rfl (lv_at hl 0 rfl) ?_
  refine lv_aload_n hx hb dX0_init_15 rfl (lv_at hl 1 rfl) ?_
  refine oc_get (ci := 0) (C := RX0) (T := TX0) (N := 6) (v := .ref (b0 + (k + 1))) hx hb hts inX0 hown hE.1 hP k (by omega) hk0 rfl 0 (by decide) (hts _ tw_121) rfl dX0_init_16 ?_
  refine oc_len (v := (3 : Int32)) hx hb hE.1 hP (k + 1) (by omega) 5 rfl hk1 rfl dX0_init_19 ?_
  refine lv_icmp_ge (tgt := 42) hx hb dX0_init_20 (by decide) (fun h => absurd h (by decide)) (fun _ => ?_)
  refine lv_aload_n hx hb dX0_init_23 rfl (lv_at hl 1 rfl) ?_
  refine oc_get (ci := 0) (C := RX0) (T := TX0) (N := 6) (v := .ref (b0 + (k + 1))) hx hb hts inX0 hown hE.1 hP k (by omega) hk0 rfl 0 (by decide) (hts _ tw_121) rfl dX0_init_24 ?_
  refine lv_iload_n hx hb dX0_init_27 rfl (lv_at hl 0 rfl) ?_
  refine oc_new (ci := 2) (fs := [.int 0, .int 0, .int 0, .int 0, .int 0]) (C := RX2) (T := TX2) (N := 5) hx hb hts inX2 tyX2 tyX2_ok hown (hts _ tw_91) (hts _ tw_93) (hts _ tw_47) hE.1 hP hS rfl (fun j hj => by rcases (show j = 0 ∨ j = 1 ∨ j = 2 ∨ j = 3 ∨ j = 4 by omega) with rfl | rfl | rfl | rfl | rfl <;> rfl) (by decide) (by decide) dX0_init_28 (fun H hP hS => ?_)
  refine lv_dup hx hb dX0_init_31 rfl ?_
  refine oc_callN (rest := [.ref (b0 + (k + 3)), .int (1 : Int32), .ref (b0 + (k + 1))]) ⟨hx, hb, hml, hown, hts⟩ (oc_operand l D ca b0 (k + 3) _ _ (by omega) (va_up_self _ _ _)) (oa_gw tw_96) rfl rfl (by decide) (hts _ tw_47) (hts _ tw_95) rfl (by decide +kernel) ⟨Nat.le_of_ble_eq_true rfl, Nat.le_of_ble_eq_true rfl⟩ hE hP hS hl.1 rfl (Nat.le_of_ble_eq_true rfl) dX0_init_32 ⟨by decide, by decide⟩ (fun H locs hP hS => ?_)
  rw [oc_upup] at hP
  have hk1 : (va_up (va_up (va_up (va_up (va_up f (k + 1) (.inl (ca 5, 3, .inr (.inr (.inr (.inr (fun _ => none))))))) k (.inr (0, [.ref (b0 + (k + 1)), .int 0, .int 0, .int 0, .int 0, .int 0]))) (k + 2) (.inr (2, [.int 0, .int 0, .int 0, .int 1, .int 0]))) (k + 1) (.inl (ca 5, 3, .inr (.inr (.inr (.inr (va_up (fun _ => none) 0 (some (b0 + (k + 2)))))))))) (k + 3) (.inr (2, [.int 0, .int 0, .int 0, .int 1, .int 0]))) (k + 1) = .inl (ca 5, 3, .inr (.inr (.inr (.inr (va_up (fun _ => none) 0 (some (b0 + (k + 2)))))))) := by simp [va_up]
  refine oc_ast hx hb hE.1 hP hS (k + 1) (k + 3) 5 2 (by omega) (by omega) hk1 rfl (va_up_self _ _ _) rfl (by show ¬ ((1 : Int32) < 0 ∨ 3 ≤ (1 : Int32).toNatClampNeg); decide) dX0_init_35 (fun H locs hP hS => ?_)
  have hP : oc_P D b0 (va_up (va_up (va_up (va_up (va_up (va_up f (k + 1) (.inl (ca 5, 3, .inr (.inr (.inr (.inr (fun _ => none))))))) k (.inr (0, [.ref (b0 + (k + 1)), .int 0, .int 0, .int 0, .int 0, .int 0]))) (k + 2) (.inr (2, [.int 0, .int 0, .int 0, .int 1, .int 0]))) (k + 1) (.inl (ca 5, 3, .inr (.inr (.inr (.inr (va_up (fun _ => none) 0 (some (b0 + (k + 2)))))))))) (k + 3) (.inr (2, [.int 0, .int 0, .int 0, .int 1, .int 0]))) (k + 1) (.inl (ca 5, 3, .inr (.inr (.inr (.inr (va_up (va_up (fun _ => none) 0 (some (b0 + (k + 2)))) 1 (some (b0 + (k + 3)))))))))) (k + 4) H := hP
  refine lv_iinc (v := (2 : Int32)) (lv' := [(1, .int (2 : Int32)), (0, .ref (b0 + k))]) hx hb dX0_init_36 hl (k := 0) rfl (by decide) (by decide) rfl (fun ls hl => ?_)
  refine lv_goto (tgt := 14) hx hb dX0_init_39 (by decide) ?_
  have hk0 : (va_up (va_up (va_up (va_up (va_up (va_up f (k + 1) (.inl (ca 5, 3, .inr (.inr (.inr (.inr (fun _ => none))))))) k (.inr (0, [.ref (b0 + (k + 1)), .int 0, .int 0, .int 0, .int 0, .int 0]))) (k + 2) (.inr (2, [.int 0, .int 0, .int 0, .int 1, .int 0]))) (k + 1) (.inl (ca 5, 3, .inr (.inr (.inr (.inr (va_up (fun _ => none) 0 (some (b0 + (k + 2)))))))))) (k + 3) (.inr (2, [.int 0, .int 0, .int 0, .int 1, .int 0]))) (k + 1) (.inl (ca 5, 3, .inr (.inr (.inr (.inr (va_up (va_up (fun _ => none) 0 (some (b0 + (k + 2)))) 1 (some (b0 + (k + 3)))))))))) k = .inr (0, [.ref (b0 + (k + 1)), .int 0, .int 0, .int 0, .int 0, .int 0]) := by simp [va_up]
  have hk1 : (va_up (va_up (va_up (va_up (va_up (va_up f (k + 1) (.inl (ca 5, 3, .inr (.inr (.inr (.inr (fun _ => none))))))) k (.inr (0, [.ref (b0 + (k + 1)), .int 0, .int 0, .int 0, .int 0, .int 0]))) (k + 2) (.inr (2, [.int 0, .int 0, .int 0, .int 1, .int 0]))) (k + 1) (.inl (ca 5, 3, .inr (.inr (.inr (.inr (va_up (fun _ => none) 0 (some (b0 + (k + 2)))))))))) (k + 3) (.inr (2, [.int 0, .int 0, .int 0, .int 1, .int 0]))) (k + 1) (.inl (ca 5, 3, .inr (.inr (.inr (.inr (va_up (va_up (fun _ => none) 0 (some (b0 + (k + 2)))) 1 (some (b0 + (k + 3)))))))))) (k + 1) = .inl (ca 5, 3, .inr (.inr (.inr (.inr (va_up (va_up (fun _ => none) 0 (some (b0 + (k + 2)))) 1 (some (b0 + (k + 3)))))))) := by simp [va_up]
  refine lv_iload_n hx hb dX0_init_14 rfl (lv_at hl 0 rfl) ?_
  refine lv_aload_n hx hb dX0_init_15 rfl (lv_at hl 1 rfl) ?_
  refine oc_get (ci := 0) (C := RX0) (T := TX0) (N := 6) (v := .ref (b0 + (k + 1))) hx hb hts inX0 hown hE.1 hP k (by omega) hk0 rfl 0 (by decide) (hts _ tw_121) rfl dX0_init_16 ?_
  refine oc_len (v := (3 : Int32)) hx hb hE.1 hP (k + 1) (by omega) 5 rfl hk1 rfl dX0_init_19 ?_
  refine lv_icmp_ge (tgt := 42) hx hb dX0_init_20 (by decide) (fun h => absurd h (by decide)) (fun _ => ?_)
  refine lv_aload_n hx hb dX0_init_23 rfl (lv_at hl 1 rfl) ?_
  refine oc_get (ci := 0) (C := RX0) (T := TX0) (N := 6) (v := .ref (b0 + (k + 1))) hx hb hts inX0 hown hE.1 hP k (by omega) hk0 rfl 0 (by decide) (hts _ tw_121) rfl dX0_init_24 ?_
  refine lv_iload_n hx hb dX0_init_27 rfl (lv_at hl 0 rfl) ?_
  refine oc_new (ci := 2) (fs := [.int 0, .int 0, .int 0, .int 0, .int 0]) (C := RX2) (T := TX2) (N := 5) hx hb hts inX2 tyX2 tyX2_ok hown (hts _ tw_91) (hts _ tw_93) (hts _ tw_47) hE.1 hP hS rfl (fun j hj => by rcases (show j = 0 ∨ j = 1 ∨ j = 2 ∨ j = 3 ∨ j = 4 by omega) with rfl | rfl | rfl | rfl | rfl <;> rfl) (by decide) (by decide) dX0_init_28 (fun H hP hS => ?_)
  refine lv_dup hx hb dX0_init_31 rfl ?_
  refine oc_callN (rest := [.ref (b0 + (k + 4)), .int (2 : Int32), .ref (b0 + (k + 1))]) ⟨hx, hb, hml, hown, hts⟩ (oc_operand l D ca b0 (k + 4) _ _ (by omega) (va_up_self _ _ _)) (oa_gw tw_96) rfl rfl (by decide) (hts _ tw_47) (hts _ tw_95) rfl (by decide +kernel) ⟨Nat.le_of_ble_eq_true rfl, Nat.le_of_ble_eq_true rfl⟩ hE hP hS hl.1 rfl (Nat.le_of_ble_eq_true rfl) dX0_init_32 ⟨by decide, by decide⟩ (fun H locs hP hS => ?_)
  rw [oc_upup] at hP
  have hk1 : (va_up (va_up (va_up (va_up (va_up (va_up (va_up f (k + 1) (.inl (ca 5, 3, .inr (.inr (.inr (.inr (fun _ => none))))))) k (.inr (0, [.ref (b0 + (k + 1)), .int 0, .int 0, .int 0, .int 0, .int 0]))) (k + 2) (.inr (2, [.int 0, .int 0, .int 0, .int 1, .int 0]))) (k + 1) (.inl (ca 5, 3, .inr (.inr (.inr (.inr (va_up (fun _ => none) 0 (some (b0 + (k + 2)))))))))) (k + 3) (.inr (2, [.int 0, .int 0, .int 0, .int 1, .int 0]))) (k + 1) (.inl (ca 5, 3, .inr (.inr (.inr (.inr (va_up (va_up (fun _ => none) 0 (some (b0 + (k + 2)))) 1 (some (b0 + (k + 3)))))))))) (k + 4) (.inr (2, [.int 0, .int 0, .int 0, .int 1, .int 0]))) (k + 1) = .inl (ca 5, 3, .inr (.inr (.inr (.inr (va_up (va_up (fun _ => none) 0 (some (b0 + (k + 2)))) 1 (some (b0 + (k + 3)))))))) := by simp [va_up]
  refine oc_ast hx hb hE.1 hP hS (k + 1) (k + 4) 5 2 (by omega) (by omega) hk1 rfl (va_up_self _ _ _) rfl (by show ¬ ((2 : Int32) < 0 ∨ 3 ≤ (2 : Int32).toNatClampNeg); decide) dX0_init_35 (fun H locs hP hS => ?_)
  have hP : oc_P D b0 (va_up (va_up (va_up (va_up (va_up (va_up (va_up (va_up f (k + 1) (.inl (ca 5, 3, .inr (.inr (.inr (.inr (fun _ => none))))))) k (.inr (0, [.ref (b0 + (k + 1)), .int 0, .int 0, .int 0, .int 0, .int 0]))) (k + 2) (.inr (2, [.int 0, .int 0, .int 0, .int 1, .int 0]))) (k + 1) (.inl (ca 5, 3, .inr (.inr (.inr (.inr (va_up (fun _ => none) 0 (some (b0 + (k + 2)))))))))) (k + 3) (.inr (2, [.int 0, .int 0, .int 0, .int 1, .int 0]))) (k + 1) (.inl (ca 5, 3, .inr (.inr (.inr (.inr (va_up (va_up (fun _ => none) 0 (some (b0 + (k + 2)))) 1 (some (b0 + (k + 3)))))))))) (k + 4) (.inr (2, [.int 0, .int 0, .int 0, .int 1, .int 0]))) (k + 1) (.inl (ca 5, 3, .inr (.inr (.inr (.inr (va_up (va_up (va_up (fun _ => none) 0 (some (b0 + (k + 2)))) 1 (some (b0 + (k + 3)))) 2 (some (b0 + (k + 4)))))))))) (k + 5) H := hP
  refine lv_iinc (v := (3 : Int32)) (lv' := [(1, .int (3 : Int32)), (0, .ref (b0 + k))]) hx hb dX0_init_36 hl (k := 0) rfl (by decide) (by decide) rfl (fun ls hl => ?_)
  refine lv_goto (tgt := 14) hx hb dX0_init_39 (by decide) ?_
  have hk0 : (va_up (va_up (va_up (va_up (va_up (va_up (va_up (va_up f (k + 1) (.inl (ca 5, 3, .inr (.inr (.inr (.inr (fun _ => none))))))) k (.inr (0, [.ref (b0 + (k + 1)), .int 0, .int 0, .int 0, .int 0, .int 0]))) (k + 2) (.inr (2, [.int 0, .int 0, .int 0, .int 1, .int 0]))) (k + 1) (.inl (ca 5, 3, .inr (.inr (.inr (.inr (va_up (fun _ => none) 0 (some (b0 + (k + 2)))))))))) (k + 3) (.inr (2, [.int 0, .int 0, .int 0, .int 1, .int 0]))) (k + 1) (.inl (ca 5, 3, .inr (.inr (.inr (.inr (va_up (va_up (fun _ => none) 0 (some (b0 + (k + 2)))) 1 (some (b0 + (k + 3)))))))))) (k + 4) (.inr (2, [.int 0, .int 0, .int 0, .int 1, .int 0]))) (k + 1) (.inl (ca 5, 3, .inr (.inr (.inr (.inr (va_up (va_up (va_up (fun _ => none) 0 (some (b0 + (k + 2)))) 1 (some (b0 + (k + 3)))) 2 (some (b0 + (k + 4)))))))))) k = .inr (0, [.ref (b0 + (k + 1)), .int 0, .int 0, .int 0, .int 0, .int 0]) := by simp [va_up]
  have hk1 : (va_up (va_up (va_up (va_up (va_up (va_up (va_up (va_up f (k + 1) (.inl (ca 5, 3, .inr (.inr (.inr (.inr (fun _ => none))))))) k (.inr (0, [.ref (b0 + (k + 1)), .int 0, .int 0, .int 0, .int 0, .int 0]))) (k + 2) (.inr (2, [.int 0, .int 0, .int 0, .int 1, .int 0]))) (k + 1) (.inl (ca 5, 3, .inr (.inr (.inr (.inr (va_up (fun _ => none) 0 (some (b0 + (k + 2)))))))))) (k + 3) (.inr (2, [.int 0, .int 0, .int 0, .int 1, .int 0]))) (k + 1) (.inl (ca 5, 3, .inr (.inr (.inr (.inr (va_up (va_up (fun _ => none) 0 (some (b0 + (k + 2)))) 1 (some (b0 + (k + 3)))))))))) (k + 4) (.inr (2, [.int 0, .int 0, .int 0, .int 1, .int 0]))) (k + 1) (.inl (ca 5, 3, .inr (.inr (.inr (.inr (va_up (va_up (va_up (fun _ => none) 0 (some (b0 + (k + 2)))) 1 (some (b0 + (k + 3)))) 2 (some (b0 + (k + 4)))))))))) (k + 1) = .inl (ca 5, 3, .inr (.inr (.inr (.inr (va_up (va_up (va_up (fun _ => none) 0 (some (b0 + (k + 2)))) 1 (some (b0 + (k + 3)))) 2 (some (b0 + (k + 4)))))))) := by simp [va_up]
  refine lv_iload_n hx hb dX0_init_14 rfl (lv_at hl 0 rfl) ?_
  refine lv_aload_n hx hb dX0_init_15 rfl (lv_at hl 1 rfl) ?_
  refine oc_get (ci := 0) (C := RX0) (T := TX0) (N := 6) (v := .ref (b0 + (k + 1))) hx hb hts inX0 hown hE.1 hP k (by omega) hk0 rfl 0 (by decide) (hts _ tw_121) rfl dX0_init_16 ?_
  refine oc_len (v := (3 : Int32)) hx hb hE.1 hP (k + 1) (by omega) 5 rfl hk1 rfl dX0_init_19 ?_
  refine lv_icmp_ge (tgt := 42) hx hb dX0_init_20 (by decide) (fun _ => ?_) (fun h => absurd (by decide) h)
  refine oc_ret hx hb hr hlocks hS hP (fun j hj => ?_) dX0_init_42
  by_cases j1 : j = k + 1
  · subst j1
    rw [hk1, show (va_up (va_up (va_up (va_up (va_up f (k + 1) (.inl (ca 5, 3, .inr (.inr (.inr (.inr (fun j => some (b0 + (k + 2 + j))))))))) k (.inr (0, [.ref (b0 + (k + 1)), .int 0, .int 0, .int 0, .int 0, .int 0]))) (k + 2) (.inr (2, [.int 0, .int 0, .int 0, .int 1, .int 0]))) (k + 3) (.inr (2, [.int 0, .int 0, .int 0, .int 1, .int 0]))) (k + 4) (.inr (2, [.int 0, .int 0, .int 0, .int 1, .int 0]))) (k + 1) = .inl (ca 5, 3, .inr (.inr (.inr (.inr (fun j => some (b0 + (k + 2 + j))))))) from by simp [va_up]]
    exact oc_sm.arr (fun q hq => by rcases (show q = 0 ∨ q = 1 ∨ q = 2 by omega) with rfl | rfl | rfl <;> simp [va_up])
  · refine oc_sm.of ?_
    simp [va_up, j1]
-- the row of OpcodeAtlas$Form, one by one
set_option maxHeartbeats 4000000 in
set_option maxRecDepth 100000 in
theorem oc_forms {p : Program} {l : Launch} {e : Env} {s : State} {m : MethodId} {args : Array Value} {below : List Frame} {meth : Method} {c : Code} {D : va_G} {ca : Nat → ClassId} {b0 : Nat} {Q : State → Prop} {cells slots : Nat} (hx : p.tables.exec = Jvm.exec) (hb : c.code = cX4_init) (hml : c.maxLocals = 2) (hown : s.vm.findClass RX4 = some m.cls) (hts : ∀ w ∈ oa_T, w.before args s = true) (hE : oc_E D ca b0 s) (hc : cells + 65 ≤ 135) (hs : slots + 312 ≤ 769) :
    ∀ (r i : Nat), i + r = 13 → ∀ (x1 : Int32), x1 = nI i → ∀ (H : Heap) (locs : List Loc), oc_P D b0 (va_up (va_up (oc_fin ca b0) 0 (.inr (4, [.ref (b0 + 1), .ref (b0 + 3), .ref (b0 + 5), .ref (b0 + 6), .null, .int 0, .int 0, .int 0, .int 0]))) 6 (.inl (ca 3, 13, .inr (.inr (.inr (.inr (fun j => if j < i then some (b0 + (7 + 5 * j)) else none))))))) (7 + 5 * i) H → va_S (fun q => b0 ≤ q) s.heap H locs → ∀ (ls : Array Slot), lv_has ls 2 [(0, .ref (b0 + 0)), (1, .int x1)] →
    (∀ (H : Heap) (locs : List Loc), oc_P D b0 (va_up (oc_fin ca b0) 0 (.inr (4, [.ref (b0 + 1), .ref (b0 + 3), .ref (b0 + 5), .ref (b0 + 6), .null, .int 0, .int 0, .int 0, .int 0]))) 72 H → va_S (fun q => b0 ≤ q) s.heap H locs → ∀ (ls : Array Slot), lv_has ls 2 [(0, .ref (b0 + 0))] → W p l e ({ frames := 3, cells := 135, slots := 769, locals := 80 } : Room) s m args below meth c H locs (cells + 65) (slots + 312) Q (F0 m 73 ls [])) →
    W p l e ({ frames := 3, cells := 135, slots := 769, locals := 80 } : Room) s m args below meth c H locs (cells + 5 * i) (slots + 24 * i) Q (F0 m 45 ls []) := by
  intro r
  induction r with
  | zero =>
    intro i hi x1 ex H locs hP hS ls hl kk
    have hi : i = 13 := by omega
    subst hi
    subst ex
    have hk0 : (va_up (va_up (oc_fin ca b0) 0 (.inr (4, [.ref (b0 + 1), .ref (b0 + 3), .ref (b0 + 5), .ref (b0 + 6), .null, .int 0, .int 0, .int 0, .int 0]))) 6 (.inl (ca 3, 13, .inr (.inr (.inr (.inr (fun j => if j < 13 then some (b0 + (7 + 5 * j)) else none))))))) 0 = .inr (4, [.ref (b0 + 1), .ref (b0 + 3), .ref (b0 + 5), .ref (b0 + 6), .null, .int 0, .int 0, .int 0, .int 0]) := by simp [va_up]
    have hk6 : (va_up (va_up (oc_fin ca b0) 0 (.inr (4, [.ref (b0 + 1), .ref (b0 + 3), .ref (b0 + 5), .ref (b0 + 6), .null, .int 0, .int 0, .int 0, .int 0]))) 6 (.inl (ca 3, 13, .inr (.inr (.inr (.inr (fun j => if j < 13 then some (b0 + (7 + 5 * j)) else none))))))) 6 = .inl (ca 3, 13, .inr (.inr (.inr (.inr (fun j => if j < 13 then some (b0 + (7 + 5 * j)) else none))))) := by rw [va_up_self]
    refine lv_iload_n hx hb dX4_init_45 rfl (lv_at hl 1 rfl) ?_
    refine lv_aload_n hx hb dX4_init_46 rfl (lv_at hl 0 rfl) ?_
    refine oc_get (ci := 4) (C := RX4) (T := TX4) (N := 9) (v := .ref (b0 + 6)) hx hb hts inX4 hown hE.1 hP 0 (by omega) hk0 rfl 3 (by decide) (hts _ tw_179) rfl dX4_init_47 ?_
    refine oc_len (v := (13 : Int32)) hx hb hE.1 hP 6 (by omega) 3 rfl hk6 rfl dX4_init_50 ?_
    refine lv_icmp_ge (tgt := 73) hx hb dX4_init_51 (by decide) (fun _ => ?_) (fun h => absurd (by decide) h)
    refine kk H locs (hP.to (fun j hj => ?_)) hS ls (lv_sub hl [0] rfl)
    by_cases j6 : j = 6
    · subst j6
      rw [hk6, va_up_ne _ _ (by decide), oc_fin_at ca b0 (k := 4) (i := 0) (by decide)]
      exact oc_sm.arr (fun q hq => by rw [if_pos hq]; rfl)
    · rw [va_up_ne _ _ j6]
      exact oc_sm.of rfl
  | succ r ih =>
    intro i hi x1 ex H locs hP hS ls hl kk
    have hi2 : i < 13 := by omega
    have hk0 : (va_up (va_up (oc_fin ca b0) 0 (.inr (4, [.ref (b0 + 1), .ref (b0 + 3), .ref (b0 + 5), .ref (b0 + 6), .null, .int 0, .int 0, .int 0, .int 0]))) 6 (.inl (ca 3, 13, .inr (.inr (.inr (.inr (fun j => if j < i then some (b0 + (7 + 5 * j)) else none))))))) 0 = .inr (4, [.ref (b0 + 1), .ref (b0 + 3), .ref (b0 + 5), .ref (b0 + 6), .null, .int 0, .int 0, .int 0, .int 0]) := by simp [va_up]
    have hk6 : (va_up (va_up (oc_fin ca b0) 0 (.inr (4, [.ref (b0 + 1), .ref (b0 + 3), .ref (b0 + 5), .ref (b0 + 6), .null, .int 0, .int 0, .int 0, .int 0]))) 6 (.inl (ca 3, 13, .inr (.inr (.inr (.inr (fun j => if j < i then some (b0 + (7 + 5 * j)) else none))))))) 6 = .inl (ca 3, 13, .inr (.inr (.inr (.inr (fun j => if j < i then some (b0 + (7 + 5 * j)) else none))))) := by rw [va_up_self]
    refine lv_iload_n hx hb dX4_init_45 rfl (lv_at hl 1 rfl) ?_
    refine lv_aload_n hx hb dX4_init_46 rfl (lv_at hl 0 rfl) ?_
    refine oc_get (ci := 4) (C := RX4) (T := TX4) (N := 9) (v := .ref (b0 + 6)) hx hb hts inX4 hown hE.1 hP 0 (by omega) hk0 rfl 3 (by decide) (hts _ tw_179) rfl dX4_init_47 ?_
    refine oc_len (v := (13 : Int32)) hx hb hE.1 hP 6 (by omega) 3 rfl hk6 rfl dX4_init_50 ?_
    refine lv_icmp_ge (tgt := 73) hx hb dX4_init_51 (by decide) (fun h => absurd h (by rw [ex]; exact nI_ge hi2 (by decide))) (fun _ => ?_)
    refine lv_aload_n hx hb dX4_init_54 rfl (lv_at hl 0 rfl) ?_
    refine oc_get (ci := 4) (C := RX4) (T := TX4) (N := 9) (v := .ref (b0 + 6)) hx hb hts inX4 hown hE.1 hP 0 (by omega) hk0 rfl 3 (by decide) (hts _ tw_179) rfl dX4_init_55 ?_
    refine lv_iload_n hx hb dX4_init_58 rfl (lv_at hl 1 rfl) ?_
    refine oc_new (ci := 0) (fs := [.null, .int 0, .int 0, .int 0, .int 0, .int 0]) (C := RX0) (T := TX0) (N := 6) hx hb hts inX0 tyX0 tyX0_ok hown (hts _ tw_84) (hts _ tw_86) (hts _ tw_46) hE.1 hP hS rfl (fun j hj => by rcases (show j = 0 ∨ j = 1 ∨ j = 2 ∨ j = 3 ∨ j = 4 ∨ j = 5 by omega) with rfl | rfl | rfl | rfl | rfl | rfl <;> rfl) (by show cells + 5 * i + 1 ≤ 135; omega) (by show slots + 24 * i + 6 ≤ 769; omega) dX4_init_59 (fun H hP hS => ?_)
    refine lv_dup hx hb dX4_init_62 rfl ?_
    refine oc_callI (rest := [.ref (b0 + (7 + 5 * i)), .int x1, .ref (b0 + 6)]) ⟨hx, hb, hml, hown, hts⟩ (oc_form l D ca b0 (7 + 5 * i) _ (va_up_self _ _ _)) (oa_gw tw_89) rfl rfl (hts _ tw_87) (hts _ tw_46) (hts _ tw_88) rfl (by decide +kernel) ⟨Nat.le_of_ble_eq_true rfl, Nat.le_of_ble_eq_true rfl⟩ hE hP hS hl.1 rfl (Nat.le_of_ble_eq_true rfl) dX4_init_63 ⟨by show cells + 5 * i + 1 + 4 ≤ 135; omega, by show slots + 24 * i + 6 + 18 ≤ 769; omega⟩ (fun H locs hP hS => ?_)
    have hP : oc_P D b0 (va_up (va_up (oc_fin ca b0) 0 (.inr (4, [.ref (b0 + 1), .ref (b0 + 3), .ref (b0 + 5), .ref (b0 + 6), .null, .int 0, .int 0, .int 0, .int 0]))) 6 (.inl (ca 3, 13, .inr (.inr (.inr (.inr (fun j => if j < i then some (b0 + (7 + 5 * j)) else none))))))) (7 + 5 * (i + 1)) H := by
      rw [show 7 + 5 * (i + 1) = (7 + 5 * i) + 5 by omega]
      refine hP.to (fun j hj => ?_)
      have b5 : oc_inv (7 + 5 * i) = (5, i) := (oc_invoff 5 (by decide) i hi2).1
      have b6 : oc_inv ((7 + 5 * i) + 1) = (6, i) := by rw [show (7 + 5 * i) + 1 = oc_off 6 i from by show _ = 8 + 5 * i; omega]; exact (oc_invoff 6 (by decide) i hi2).1
      have b70 : oc_inv ((7 + 5 * i) + 2) = (7, 3 * i + 0) := by rw [show (7 + 5 * i) + 2 = oc_off 7 (3 * i + 0) from by show _ = 9 + 5 * ((3 * i + 0) / 3) + (3 * i + 0) % 3; omega]; exact (oc_invoff 7 (by decide) (3 * i + 0) (by show 3 * i + 0 < 39; omega)).1
      have b71 : oc_inv ((7 + 5 * i) + 3) = (7, 3 * i + 1) := by rw [show (7 + 5 * i) + 3 = oc_off 7 (3 * i + 1) from by show _ = 9 + 5 * ((3 * i + 1) / 3) + (3 * i + 1) % 3; omega]; exact (oc_invoff 7 (by decide) (3 * i + 1) (by show 3 * i + 1 < 39; omega)).1
      have b72 : oc_inv ((7 + 5 * i) + 4) = (7, 3 * i + 2) := by rw [show (7 + 5 * i) + 4 = oc_off 7 (3 * i + 2) from by show _ = 9 + 5 * ((3 * i + 2) / 3) + (3 * i + 2) % 3; omega]; exact (oc_invoff 7 (by decide) (3 * i + 2) (by show 3 * i + 2 < 39; omega)).1
      by_cases j0 : j = (7 + 5 * i)
      · subst j0
        refine oc_sm.of ?_
        rw [show (va_up (va_up (oc_fin ca b0) 0 (.inr (4, [.ref (b0 + 1), .ref (b0 + 3), .ref (b0 + 5), .ref (b0 + 6), .null, .int 0, .int 0, .int 0, .int 0]))) 6 (.inl (ca 3, 13, .inr (.inr (.inr (.inr (fun j => if j < i then some (b0 + (7 + 5 * j)) else none))))))) (7 + 5 * i) = oc_fin ca b0 (7 + 5 * i) from by rw [va_up_ne _ _ (by omega), va_up_ne _ _ (by omega)], oc_fin_at ca b0 b5]
        simp [va_up, oa_cr, oc_M0, oc_ad, oc_off]
        try omega
      by_cases j1 : j = (7 + 5 * i) + 1
      · subst j1
        rw [show (va_up (va_up (oc_fin ca b0) 0 (.inr (4, [.ref (b0 + 1), .ref (b0 + 3), .ref (b0 + 5), .ref (b0 + 6), .null, .int 0, .int 0, .int 0, .int 0]))) 6 (.inl (ca 3, 13, .inr (.inr (.inr (.inr (fun j => if j < i then some (b0 + (7 + 5 * j)) else none))))))) ((7 + 5 * i) + 1) = oc_fin ca b0 ((7 + 5 * i) + 1) from by rw [va_up_ne _ _ (by omega), va_up_ne _ _ (by omega)], oc_fin_at ca b0 b6, va_up_ne _ _ (by omega), va_up_ne _ _ (by omega), va_up_ne _ _ (by omega), va_up_ne _ _ (by omega), va_up_self]
        refine oc_sm.arr (fun q hq => ?_)
        show some _ = some (b0 + (9 + 5 * ((3 * i + q) / 3) + (3 * i + q) % 3))
        congr 2
        omega
      by_cases j2 : j = (7 + 5 * i) + 2
      · subst j2
        refine oc_sm.of ?_
        rw [show (va_up (va_up (oc_fin ca b0) 0 (.inr (4, [.ref (b0 + 1), .ref (b0 + 3), .ref (b0 + 5), .ref (b0 + 6), .null, .int 0, .int 0, .int 0, .int 0]))) 6 (.inl (ca 3, 13, .inr (.inr (.inr (.inr (fun j => if j < i then some (b0 + (7 + 5 * j)) else none))))))) ((7 + 5 * i) + 2) = oc_fin ca b0 ((7 + 5 * i) + 2) from by rw [va_up_ne _ _ (by omega), va_up_ne _ _ (by omega)], oc_fin_at ca b0 b70]
        simp [va_up, oa_cr, oc_M0]
      by_cases j3 : j = (7 + 5 * i) + 3
      · subst j3
        refine oc_sm.of ?_
        rw [show (va_up (va_up (oc_fin ca b0) 0 (.inr (4, [.ref (b0 + 1), .ref (b0 + 3), .ref (b0 + 5), .ref (b0 + 6), .null, .int 0, .int 0, .int 0, .int 0]))) 6 (.inl (ca 3, 13, .inr (.inr (.inr (.inr (fun j => if j < i then some (b0 + (7 + 5 * j)) else none))))))) ((7 + 5 * i) + 3) = oc_fin ca b0 ((7 + 5 * i) + 3) from by rw [va_up_ne _ _ (by omega), va_up_ne _ _ (by omega)], oc_fin_at ca b0 b71]
        simp [va_up, oa_cr, oc_M0]
      by_cases j4 : j = (7 + 5 * i) + 4
      · subst j4
        refine oc_sm.of ?_
        rw [show (va_up (va_up (oc_fin ca b0) 0 (.inr (4, [.ref (b0 + 1), .ref (b0 + 3), .ref (b0 + 5), .ref (b0 + 6), .null, .int 0, .int 0, .int 0, .int 0]))) 6 (.inl (ca 3, 13, .inr (.inr (.inr (.inr (fun j => if j < i then some (b0 + (7 + 5 * j)) else none))))))) ((7 + 5 * i) + 4) = oc_fin ca b0 ((7 + 5 * i) + 4) from by rw [va_up_ne _ _ (by omega), va_up_ne _ _ (by omega)], oc_fin_at ca b0 b72]
        simp [va_up, oa_cr, oc_M0]
      refine oc_sm.of ?_
      rw [va_up_ne _ _ j4, va_up_ne _ _ j3, va_up_ne _ _ j2, va_up_ne _ _ j0, va_up_ne _ _ j1, va_up_ne _ _ j0]
    have hkv : (va_up (va_up (oc_fin ca b0) 0 (.inr (4, [.ref (b0 + 1), .ref (b0 + 3), .ref (b0 + 5), .ref (b0 + 6), .null, .int 0, .int 0, .int 0, .int 0]))) 6 (.inl (ca 3, 13, .inr (.inr (.inr (.inr (fun j => if j < i then some (b0 + (7 + 5 * j)) else none))))))) (7 + 5 * i) = .inr (0, [.ref (oc_ad b0 6 i), .int 0, .int 0, .int 0, .int 0, .int 0]) := by
      rw [va_up_ne _ _ (by omega), va_up_ne _ _ (by omega), oc_fin_at ca b0 (j := (7 + 5 * i)) (oc_invoff 5 (by decide) i hi2).1]
      rfl
    refine oc_ast hx hb hE.1 hP hS 6 (7 + 5 * i) 3 0 (by omega) (by omega) hk6 rfl hkv rfl (by rw [ex]; exact vp_in_nI hi2 (by decide)) dX4_init_66 (fun H locs hP hS => ?_)
    have hP : oc_P D b0 (va_up (va_up (oc_fin ca b0) 0 (.inr (4, [.ref (b0 + 1), .ref (b0 + 3), .ref (b0 + 5), .ref (b0 + 6), .null, .int 0, .int 0, .int 0, .int 0]))) 6 (.inl (ca 3, 13, .inr (.inr (.inr (.inr (fun j => if j < (i + 1) then some (b0 + (7 + 5 * j)) else none))))))) (7 + 5 * (i + 1)) H := by
      rw [oc_upup] at hP
      refine hP.to (fun j hj => ?_)
      by_cases j6 : j = 6
      · subst j6
        rw [va_up_self, va_up_self]
        refine oc_sm.arr (fun q hq => ?_)
        rw [ex, nI_clamp (by omega)]
        unfold va_up
        by_cases hqi : q = i
        · subst hqi
          simp
        · rw [if_neg hqi]
          show (if q < i then _ else _) = _
          by_cases hq2 : q < i
          · rw [if_pos hq2, if_pos (by omega)]
          · rw [if_neg hq2, if_neg (by omega)]
      · rw [va_up_ne _ _ j6, va_up_ne _ _ j6]
        exact oc_sm.of rfl
    refine lv_iinc (v := x1 + (1 : Int32)) (lv' := [(1, .int (x1 + (1 : Int32))), (0, .ref (b0 + 0))]) hx hb dX4_init_67 hl (k := 1) rfl rfl (by decide) rfl (fun ls hl => ?_)
    refine lv_goto (tgt := 45) hx hb dX4_init_70 (by decide) ?_
    have hnx := ih (i + 1) (by omega) (x1 + (1 : Int32)) (by rw [ex]; exact nI_1 i) H locs hP hS ls (lv_sub hl [1, 0] rfl) kk
    refine W.widen (k := cells + 5 * (i + 1)) (n := slots + 24 * (i + 1)) (by omega) (by omega) ?_
    exact hnx
-- the row of OpcodeAtlas$Line, one by one
set_option maxHeartbeats 4000000 in
set_option maxRecDepth 100000 in
theorem oc_lines {p : Program} {l : Launch} {e : Env} {s : State} {m : MethodId} {args : Array Value} {below : List Frame} {meth : Method} {c : Code} {D : va_G} {ca : Nat → ClassId} {b0 : Nat} {Q : State → Prop} {cells slots : Nat} (hx : p.tables.exec = Jvm.exec) (hb : c.code = cX4_init) (hml : c.maxLocals = 2) (hown : s.vm.findClass RX4 = some m.cls) (hts : ∀ w ∈ oa_T, w.before args s = true) (hE : oc_E D ca b0 s) (hc : cells + 63 ≤ 135) (hs : slots + 273 ≤ 769) :
    ∀ (r i : Nat), i + r = 21 → ∀ (x1 : Int32), x1 = nI i → ∀ (H : Heap) (locs : List Loc), oc_P D b0 (va_up (va_up (oc_fin ca b0) 0 (.inr (4, [.ref (b0 + 1), .ref (b0 + 3), .ref (b0 + 5), .ref (b0 + 6), .ref (b0 + 72), .int 0, .int 0, .int 0, .int 0]))) 72 (.inl (ca 4, 21, .inr (.inr (.inr (.inr (fun j => if j < i then some (b0 + (73 + 3 * j)) else none))))))) (73 + 3 * i) H → va_S (fun q => b0 ≤ q) s.heap H locs → ∀ (ls : Array Slot), lv_has ls 2 [(0, .ref (b0 + 0)), (1, .int x1)] →
    (∀ (H : Heap) (locs : List Loc), oc_P D b0 (va_up (oc_fin ca b0) 0 (.inr (4, [.ref (b0 + 1), .ref (b0 + 3), .ref (b0 + 5), .ref (b0 + 6), .ref (b0 + 72), .int 0, .int 0, .int 0, .int 0]))) 136 H → va_S (fun q => b0 ≤ q) s.heap H locs → ∀ (ls : Array Slot), lv_has ls 2 [(0, .ref (b0 + 0))] → W p l e ({ frames := 3, cells := 135, slots := 769, locals := 80 } : Room) s m args below meth c H locs (cells + 63) (slots + 273) Q (F0 m 112 ls [])) →
    W p l e ({ frames := 3, cells := 135, slots := 769, locals := 80 } : Room) s m args below meth c H locs (cells + 3 * i) (slots + 13 * i) Q (F0 m 84 ls []) := by
  intro r
  induction r with
  | zero =>
    intro i hi x1 ex H locs hP hS ls hl kk
    have hi : i = 21 := by omega
    subst hi
    subst ex
    have hk0 : (va_up (va_up (oc_fin ca b0) 0 (.inr (4, [.ref (b0 + 1), .ref (b0 + 3), .ref (b0 + 5), .ref (b0 + 6), .ref (b0 + 72), .int 0, .int 0, .int 0, .int 0]))) 72 (.inl (ca 4, 21, .inr (.inr (.inr (.inr (fun j => if j < 21 then some (b0 + (73 + 3 * j)) else none))))))) 0 = .inr (4, [.ref (b0 + 1), .ref (b0 + 3), .ref (b0 + 5), .ref (b0 + 6), .ref (b0 + 72), .int 0, .int 0, .int 0, .int 0]) := by simp [va_up]
    have hk6 : (va_up (va_up (oc_fin ca b0) 0 (.inr (4, [.ref (b0 + 1), .ref (b0 + 3), .ref (b0 + 5), .ref (b0 + 6), .ref (b0 + 72), .int 0, .int 0, .int 0, .int 0]))) 72 (.inl (ca 4, 21, .inr (.inr (.inr (.inr (fun j => if j < 21 then some (b0 + (73 + 3 * j)) else none))))))) 72 = .inl (ca 4, 21, .inr (.inr (.inr (.inr (fun j => if j < 21 then some (b0 + (73 + 3 * j)) else none))))) := by rw [va_up_self]
    refine lv_iload_n hx hb dX4_init_84 rfl (lv_at hl 1 rfl) ?_
    refine lv_aload_n hx hb dX4_init_85 rfl (lv_at hl 0 rfl) ?_
    refine oc_get (ci := 4) (C := RX4) (T := TX4) (N := 9) (v := .ref (b0 + 72)) hx hb hts inX4 hown hE.1 hP 0 (by omega) hk0 rfl 4 (by decide) (hts _ tw_180) rfl dX4_init_86 ?_
    refine oc_len (v := (21 : Int32)) hx hb hE.1 hP 72 (by omega) 4 rfl hk6 rfl dX4_init_89 ?_
    refine lv_icmp_ge (tgt := 112) hx hb dX4_init_90 (by decide) (fun _ => ?_) (fun h => absurd (by decide) h)
    refine kk H locs (hP.to (fun j hj => ?_)) hS ls (lv_sub hl [0] rfl)
    by_cases j6 : j = 72
    · subst j6
      rw [hk6, va_up_ne _ _ (by decide), oc_fin_at ca b0 (k := 8) (i := 0) (by decide)]
      exact oc_sm.arr (fun q hq => by rw [if_pos hq]; rfl)
    · rw [va_up_ne _ _ j6]
      exact oc_sm.of rfl
  | succ r ih =>
    intro i hi x1 ex H locs hP hS ls hl kk
    have hi2 : i < 21 := by omega
    have hk0 : (va_up (va_up (oc_fin ca b0) 0 (.inr (4, [.ref (b0 + 1), .ref (b0 + 3), .ref (b0 + 5), .ref (b0 + 6), .ref (b0 + 72), .int 0, .int 0, .int 0, .int 0]))) 72 (.inl (ca 4, 21, .inr (.inr (.inr (.inr (fun j => if j < i then some (b0 + (73 + 3 * j)) else none))))))) 0 = .inr (4, [.ref (b0 + 1), .ref (b0 + 3), .ref (b0 + 5), .ref (b0 + 6), .ref (b0 + 72), .int 0, .int 0, .int 0, .int 0]) := by simp [va_up]
    have hk6 : (va_up (va_up (oc_fin ca b0) 0 (.inr (4, [.ref (b0 + 1), .ref (b0 + 3), .ref (b0 + 5), .ref (b0 + 6), .ref (b0 + 72), .int 0, .int 0, .int 0, .int 0]))) 72 (.inl (ca 4, 21, .inr (.inr (.inr (.inr (fun j => if j < i then some (b0 + (73 + 3 * j)) else none))))))) 72 = .inl (ca 4, 21, .inr (.inr (.inr (.inr (fun j => if j < i then some (b0 + (73 + 3 * j)) else none))))) := by rw [va_up_self]
    refine lv_iload_n hx hb dX4_init_84 rfl (lv_at hl 1 rfl) ?_
    refine lv_aload_n hx hb dX4_init_85 rfl (lv_at hl 0 rfl) ?_
    refine oc_get (ci := 4) (C := RX4) (T := TX4) (N := 9) (v := .ref (b0 + 72)) hx hb hts inX4 hown hE.1 hP 0 (by omega) hk0 rfl 4 (by decide) (hts _ tw_180) rfl dX4_init_86 ?_
    refine oc_len (v := (21 : Int32)) hx hb hE.1 hP 72 (by omega) 4 rfl hk6 rfl dX4_init_89 ?_
    refine lv_icmp_ge (tgt := 112) hx hb dX4_init_90 (by decide) (fun h => absurd h (by rw [ex]; exact nI_ge hi2 (by decide))) (fun _ => ?_)
    refine lv_aload_n hx hb dX4_init_93 rfl (lv_at hl 0 rfl) ?_
    refine oc_get (ci := 4) (C := RX4) (T := TX4) (N := 9) (v := .ref (b0 + 72)) hx hb hts inX4 hown hE.1 hP 0 (by omega) hk0 rfl 4 (by decide) (hts _ tw_180) rfl dX4_init_94 ?_
    refine lv_iload_n hx hb dX4_init_97 rfl (lv_at hl 1 rfl) ?_
    refine oc_new (ci := 1) (fs := [.null, .null, .int 0, .int 0, .int 0, .int 0, .null]) (C := RX1) (T := TX1) (N := 7) hx hb hts inX1 tyX1 tyX1_ok hown (hts _ tw_145) (hts _ tw_147) (hts _ tw_48) hE.1 hP hS rfl (fun j hj => by rcases (show j = 0 ∨ j = 1 ∨ j = 2 ∨ j = 3 ∨ j = 4 ∨ j = 5 ∨ j = 6 by omega) with rfl | rfl | rfl | rfl | rfl | rfl | rfl <;> rfl) (by show cells + 3 * i + 1 ≤ 135; omega) (by show slots + 13 * i + 7 ≤ 769; omega) dX4_init_98 (fun H hP hS => ?_)
    refine lv_dup hx hb dX4_init_101 rfl ?_
    refine oc_callN (rest := [.ref (b0 + (73 + 3 * i)), .int x1, .ref (b0 + 72)]) ⟨hx, hb, hml, hown, hts⟩ (oc_line l D ca b0 (73 + 3 * i) _ (va_up_self _ _ _)) (oa_gw tw_150) rfl rfl (by decide) (hts _ tw_48) (hts _ tw_149) rfl (by decide +kernel) ⟨Nat.le_of_ble_eq_true rfl, Nat.le_of_ble_eq_true rfl⟩ hE hP hS hl.1 rfl (Nat.le_of_ble_eq_true rfl) dX4_init_102 ⟨by show cells + 3 * i + 1 + 2 ≤ 135; omega, by show slots + 13 * i + 7 + 6 ≤ 769; omega⟩ (fun H locs hP hS => ?_)
    have hP : oc_P D b0 (va_up (va_up (oc_fin ca b0) 0 (.inr (4, [.ref (b0 + 1), .ref (b0 + 3), .ref (b0 + 5), .ref (b0 + 6), .ref (b0 + 72), .int 0, .int 0, .int 0, .int 0]))) 72 (.inl (ca 4, 21, .inr (.inr (.inr (.inr (fun j => if j < i then some (b0 + (73 + 3 * j)) else none))))))) (73 + 3 * (i + 1)) H := by
      rw [show 73 + 3 * (i + 1) = (73 + 3 * i) + 3 by omega]
      refine hP.to (fun j hj => ?_)
      have b9 : oc_inv (73 + 3 * i) = (9, i) := (oc_invoff 9 (by decide) i hi2).1
      have b91 : oc_inv ((73 + 3 * i) + 1) = (10, i) := by rw [show (73 + 3 * i) + 1 = oc_off 10 i from by show _ = 74 + 3 * i; omega]; exact (oc_invoff 10 (by decide) i hi2).1
      have b92 : oc_inv ((73 + 3 * i) + 2) = (11, i) := by rw [show (73 + 3 * i) + 2 = oc_off 11 i from by show _ = 75 + 3 * i; omega]; exact (oc_invoff 11 (by decide) i hi2).1
      by_cases j0 : j = (73 + 3 * i)
      · subst j0
        refine oc_sm.of ?_
        rw [show (va_up (va_up (oc_fin ca b0) 0 (.inr (4, [.ref (b0 + 1), .ref (b0 + 3), .ref (b0 + 5), .ref (b0 + 6), .ref (b0 + 72), .int 0, .int 0, .int 0, .int 0]))) 72 (.inl (ca 4, 21, .inr (.inr (.inr (.inr (fun j => if j < i then some (b0 + (73 + 3 * j)) else none))))))) (73 + 3 * i) = oc_fin ca b0 (73 + 3 * i) from by rw [va_up_ne _ _ (by omega), va_up_ne _ _ (by omega)], oc_fin_at ca b0 b9]
        simp [va_up, oa_cr, oc_M0, oc_ad, oc_off, oa_fr]
        try omega
      by_cases j1 : j = (73 + 3 * i) + 1
      · subst j1
        refine oc_sm.of ?_
        rw [show (va_up (va_up (oc_fin ca b0) 0 (.inr (4, [.ref (b0 + 1), .ref (b0 + 3), .ref (b0 + 5), .ref (b0 + 6), .ref (b0 + 72), .int 0, .int 0, .int 0, .int 0]))) 72 (.inl (ca 4, 21, .inr (.inr (.inr (.inr (fun j => if j < i then some (b0 + (73 + 3 * j)) else none))))))) ((73 + 3 * i) + 1) = oc_fin ca b0 ((73 + 3 * i) + 1) from by rw [va_up_ne _ _ (by omega), va_up_ne _ _ (by omega)], oc_fin_at ca b0 b91]
        simp [va_up, oa_cr, oc_M0]
      by_cases j2 : j = (73 + 3 * i) + 2
      · subst j2
        refine oc_sm.of ?_
        rw [show (va_up (va_up (oc_fin ca b0) 0 (.inr (4, [.ref (b0 + 1), .ref (b0 + 3), .ref (b0 + 5), .ref (b0 + 6), .ref (b0 + 72), .int 0, .int 0, .int 0, .int 0]))) 72 (.inl (ca 4, 21, .inr (.inr (.inr (.inr (fun j => if j < i then some (b0 + (73 + 3 * j)) else none))))))) ((73 + 3 * i) + 2) = oc_fin ca b0 ((73 + 3 * i) + 2) from by rw [va_up_ne _ _ (by omega), va_up_ne _ _ (by omega)], oc_fin_at ca b0 b92]
        simp [va_up, oa_cr, oc_M0]
      refine oc_sm.of ?_
      rw [va_up_ne _ _ j0, va_up_ne _ _ j2, va_up_ne _ _ j0, va_up_ne _ _ j1, va_up_ne _ _ j0]
    have hkv : (va_up (va_up (oc_fin ca b0) 0 (.inr (4, [.ref (b0 + 1), .ref (b0 + 3), .ref (b0 + 5), .ref (b0 + 6), .ref (b0 + 72), .int 0, .int 0, .int 0, .int 0]))) 72 (.inl (ca 4, 21, .inr (.inr (.inr (.inr (fun j => if j < i then some (b0 + (73 + 3 * j)) else none))))))) (73 + 3 * i) = .inr (1, [.ref (oc_ad b0 10 i), .ref (oc_ad b0 11 i), .int 0, .int 0, .int 0, .int 0, oa_fr (oc_ad b0) (-1)]) := by
      rw [va_up_ne _ _ (by omega), va_up_ne _ _ (by omega), oc_fin_at ca b0 (j := (73 + 3 * i)) (oc_invoff 9 (by decide) i hi2).1]
      rfl
    refine oc_ast hx hb hE.1 hP hS 72 (73 + 3 * i) 4 1 (by omega) (by omega) hk6 rfl hkv rfl (by rw [ex]; exact vp_in_nI hi2 (by decide)) dX4_init_105 (fun H locs hP hS => ?_)
    have hP : oc_P D b0 (va_up (va_up (oc_fin ca b0) 0 (.inr (4, [.ref (b0 + 1), .ref (b0 + 3), .ref (b0 + 5), .ref (b0 + 6), .ref (b0 + 72), .int 0, .int 0, .int 0, .int 0]))) 72 (.inl (ca 4, 21, .inr (.inr (.inr (.inr (fun j => if j < (i + 1) then some (b0 + (73 + 3 * j)) else none))))))) (73 + 3 * (i + 1)) H := by
      rw [oc_upup] at hP
      refine hP.to (fun j hj => ?_)
      by_cases j6 : j = 72
      · subst j6
        rw [va_up_self, va_up_self]
        refine oc_sm.arr (fun q hq => ?_)
        rw [ex, nI_clamp (by omega)]
        unfold va_up
        by_cases hqi : q = i
        · subst hqi
          simp
        · rw [if_neg hqi]
          show (if q < i then _ else _) = _
          by_cases hq2 : q < i
          · rw [if_pos hq2, if_pos (by omega)]
          · rw [if_neg hq2, if_neg (by omega)]
      · rw [va_up_ne _ _ j6, va_up_ne _ _ j6]
        exact oc_sm.of rfl
    refine lv_iinc (v := x1 + (1 : Int32)) (lv' := [(1, .int (x1 + (1 : Int32))), (0, .ref (b0 + 0))]) hx hb dX4_init_106 hl (k := 1) rfl rfl (by decide) rfl (fun ls hl => ?_)
    refine lv_goto (tgt := 84) hx hb dX4_init_109 (by decide) ?_
    have hnx := ih (i + 1) (by omega) (x1 + (1 : Int32)) (by rw [ex]; exact nI_1 i) H locs hP hS ls (lv_sub hl [1, 0] rfl) kk
    refine W.widen (k := cells + 3 * (i + 1)) (n := slots + 13 * (i + 1)) (by omega) (by omega) ?_
    exact hnx
set_option maxHeartbeats 4000000 in
set_option maxRecDepth 100000 in
theorem oc_atlas (l : Launch) (D : va_G) (ca : Nat → ClassId) (b0 : Nat) : oc_Met l yX4_init (oa_w yX4_init cX4_init 2 none) ({ frames := 3, cells := 135, slots := 769, locals := 80 } : Room) D ca b0 0 (va_up (oc_fin ca b0) 0 (.inr (4, [.null, .null, .null, .null, .null, .int 0, .int 0, .int 0, .int 0]))) 1 (oc_fin ca b0) 136 135 769 := by
  refine oc_ofW (cc := cX4_init) (maxL := 2) (by decide) rfl (Nat.le_of_ble_eq_true rfl) ?_
  intro p e s m below meth c hx hb hml hr hlocks hown hname hts0 hB ls hl
  obtain ⟨hP, hE⟩ := hB
  have hts : ∀ w ∈ oa_T, w.before _ s = true := fun w h => hts0 w (List.mem_cons_of_mem _ h)
  have hS : va_S (fun q => b0 ≤ q) s.heap s.heap [] := va_S.rf
  have hl : lv_has ls 2 [(0, .ref (b0 + 0))] := hl
  refine lv_aload_n hx hb dX4_init_0 rfl (lv_at hl 0 rfl) ?_
  refine oc_oinit hx hb hown (hts _ tw_63) (hts _ tw_64) (hts _ tw_65) (by rw [hml]; exact hl.1) dX4_init_1 (Nat.le_of_ble_eq_true rfl) (Nat.le_of_ble_eq_true rfl) ?_
  refine lv_aload_n hx hb dX4_init_4 rfl (lv_at hl 0 rfl) ?_
  refine oc_new (ci := 3) (fs := [.null, .int 0, .int 0]) (C := RX3) (T := TX3) (N := 3) hx hb hts inX3 tyX3 tyX3_ok hown (hts _ tw_66) (hts _ tw_67) (hts _ tw_45) hE.1 hP hS rfl (fun j hj => by rcases (show j = 0 ∨ j = 1 ∨ j = 2 by omega) with rfl | rfl | rfl <;> rfl) (by decide) (by decide) dX4_init_5 (fun H hP hS => ?_)
  refine lv_dup hx hb dX4_init_8 rfl ?_
  refine oc_callN (rest := [.ref (b0 + 1), .ref (b0 + 0)]) ⟨hx, hb, hml, hown, hts⟩ (oc_text l D ca b0 1 _ (va_up_self _ _ _)) (oa_gw tw_70) rfl rfl (by decide) (hts _ tw_45) (hts _ tw_69) rfl (by decide +kernel) ⟨Nat.le_of_ble_eq_true rfl, Nat.le_of_ble_eq_true rfl⟩ hE hP hS hl.1 rfl (Nat.le_of_ble_eq_true rfl) dX4_init_9 ⟨by decide, by decide⟩ (fun H locs hP hS => ?_)
  have hP : oc_P D b0 (va_up (oc_fin ca b0) 0 (.inr (4, [.null, .null, .null, .null, .null, .int 0, .int 0, .int 0, .int 0]))) 3 H := hP.to (fun j hj => by
    by_cases j1 : j = 1
    · subst j1; exact oc_sm.of rfl
    by_cases j2 : j = 2
    · subst j2; exact oc_sm.of rfl
    refine oc_sm.of ?_
    rw [va_up_ne _ _ j1, va_up_ne _ _ j2, va_up_ne _ _ j1])
  refine oc_put (ci := 4) (C := RX4) (T := TX4) (N := 9) (v := .ref (b0 + 1)) (fs := [.null, .null, .null, .null, .null, .int 0, .int 0, .int 0, .int 0]) hx hb hts inX4 tyX4 tyX4_ok nmX4 hown hE.1 hP hS (0) (by omega) (va_up_self _ _ _) rfl 0 (by decide) (hts _ tw_176) hname rfl rfl rfl (Nat.le_of_ble_eq_true rfl) dX4_init_12 (fun H locs hP hS => ?_)
  rw [oc_upup] at hP
  have hP : oc_P D b0 (va_up (oc_fin ca b0) 0 (.inr (4, [.ref (b0 + 1), .null, .null, .null, .null, .int 0, .int 0, .int 0, .int 0]))) 3 H := hP
  refine lv_aload_n hx hb dX4_init_15 rfl (lv_at hl 0 rfl) ?_
  refine oc_new (ci := 3) (fs := [.null, .int 0, .int 0]) (C := RX3) (T := TX3) (N := 3) hx hb hts inX3 tyX3 tyX3_ok hown (hts _ tw_66) (hts _ tw_67) (hts _ tw_45) hE.1 hP hS rfl (fun j hj => by rcases (show j = 0 ∨ j = 1 ∨ j = 2 by omega) with rfl | rfl | rfl <;> rfl) (by decide) (by decide) dX4_init_16 (fun H hP hS => ?_)
  refine lv_dup hx hb dX4_init_19 rfl ?_
  refine oc_callN (rest := [.ref (b0 + 3), .ref (b0 + 0)]) ⟨hx, hb, hml, hown, hts⟩ (oc_text l D ca b0 3 _ (va_up_self _ _ _)) (oa_gw tw_70) rfl rfl (by decide) (hts _ tw_45) (hts _ tw_69) rfl (by decide +kernel) ⟨Nat.le_of_ble_eq_true rfl, Nat.le_of_ble_eq_true rfl⟩ hE hP hS hl.1 rfl (Nat.le_of_ble_eq_true rfl) dX4_init_20 ⟨by decide, by decide⟩ (fun H locs hP hS => ?_)
  have hP : oc_P D b0 (va_up (oc_fin ca b0) 0 (.inr (4, [.ref (b0 + 1), .null, .null, .null, .null, .int 0, .int 0, .int 0, .int 0]))) 5 H := hP.to (fun j hj => by
    by_cases j1 : j = 3
    · subst j1; exact oc_sm.of rfl
    by_cases j2 : j = 4
    · subst j2; exact oc_sm.of rfl
    refine oc_sm.of ?_
    rw [va_up_ne _ _ j1, va_up_ne _ _ j2, va_up_ne _ _ j1])
  refine oc_put (ci := 4) (C := RX4) (T := TX4) (N := 9) (v := .ref (b0 + 3)) (fs := [.ref (b0 + 1), .null, .null, .null, .null, .int 0, .int 0, .int 0, .int 0]) hx hb hts inX4 tyX4 tyX4_ok nmX4 hown hE.1 hP hS (0) (by omega) (va_up_self _ _ _) rfl 1 (by decide) (hts _ tw_177) hname rfl rfl rfl (Nat.le_of_ble_eq_true rfl) dX4_init_23 (fun H locs hP hS => ?_)
  rw [oc_upup] at hP
  have hP : oc_P D b0 (va_up (oc_fin ca b0) 0 (.inr (4, [.ref (b0 + 1), .ref (b0 + 3), .null, .null, .null, .int 0, .int 0, .int 0, .int 0]))) 5 H := hP
  refine lv_aload_n hx hb dX4_init_26 rfl (lv_at hl 0 rfl) ?_
  refine lv_bipush (v := (64 : Int32)) hx hb dX4_init_27 (by decide) ?_
  refine oc_newa (atype := .int) (a0 := (64, .inl (fun _ => 0))) (N' := 64) hx hb (hts _ tw_120) rfl hE.1 hP hS 1 rfl (fun C h => by cases h) (fun _ => rfl) (by decide) (by decide) (by decide) (by decide) (by decide) dX4_init_29 (fun H hP hS => ?_)
  have hP : oc_P D b0 (va_up (oc_fin ca b0) 0 (.inr (4, [.ref (b0 + 1), .ref (b0 + 3), .null, .null, .null, .int 0, .int 0, .int 0, .int 0]))) 6 H := hP.to (fun j hj => by
    by_cases j1 : j = 5
    · subst j1; exact oc_sm.of rfl
    exact oc_sm.of (va_up_ne _ _ j1))
  refine oc_put (ci := 4) (C := RX4) (T := TX4) (N := 9) (v := .ref (b0 + 5)) (fs := [.ref (b0 + 1), .ref (b0 + 3), .null, .null, .null, .int 0, .int 0, .int 0, .int 0]) hx hb hts inX4 tyX4 tyX4_ok nmX4 hown hE.1 hP hS (0) (by omega) (va_up_self _ _ _) rfl 2 (by decide) (hts _ tw_178) hname rfl rfl rfl (Nat.le_of_ble_eq_true rfl) dX4_init_31 (fun H locs hP hS => ?_)
  rw [oc_upup] at hP
  have hP : oc_P D b0 (va_up (oc_fin ca b0) 0 (.inr (4, [.ref (b0 + 1), .ref (b0 + 3), .ref (b0 + 5), .null, .null, .int 0, .int 0, .int 0, .int 0]))) 6 H := hP
  refine lv_aload_n hx hb dX4_init_34 rfl (lv_at hl 0 rfl) ?_
  refine lv_bipush (v := (13 : Int32)) hx hb dX4_init_35 (by decide) ?_
  refine oc_newq (N' := 13) hx hb hown (hts _ tw_84) (hE.2.2 RX0 (by decide)) hE.1 hP hS 3 rfl (by decide) (by decide) (by decide) (by decide) (by decide) dX4_init_37 (fun H hP hS => ?_)
  refine oc_put (ci := 4) (C := RX4) (T := TX4) (N := 9) (v := .ref (b0 + 6)) (fs := [.ref (b0 + 1), .ref (b0 + 3), .ref (b0 + 5), .null, .null, .int 0, .int 0, .int 0, .int 0]) hx hb hts inX4 tyX4 tyX4_ok nmX4 hown hE.1 hP hS (0) (by omega) ((va_up_ne _ _ (by decide)).trans (va_up_self _ _ _)) rfl 3 (by decide) (hts _ tw_179) hname rfl rfl rfl (Nat.le_of_ble_eq_true rfl) dX4_init_40 (fun H locs hP hS => ?_)
  rw [oc_swap _ (by decide)] at hP
  refine lv_iconst (v := (0 : Int32)) hx hb dX4_init_43 (by decide) ?_
  refine lv_istore_n (lv' := [(1, .int 0), (0, .ref (b0 + 0))]) hx hb dX4_init_44 rfl hl (by decide) rfl (fun ls hl => ?_)
  have hP : oc_P D b0 (va_up (va_up (oc_fin ca b0) 0 (.inr (4, [.ref (b0 + 1), .ref (b0 + 3), .ref (b0 + 5), .ref (b0 + 6), .null, .int 0, .int 0, .int 0, .int 0]))) 6 (.inl (ca 3, 13, .inr (.inr (.inr (.inr (fun j => if j < 0 then some (b0 + (7 + 5 * j)) else none))))))) (7 + 5 * 0) H := hP.to (fun j hj => by
    by_cases j6 : j = 6
    · subst j6
      rw [va_up_self, va_up_self]
      exact oc_sm.arr (fun q hq => by rw [if_neg (Nat.not_lt_zero _)])
    · rw [va_up_ne _ _ j6, va_up_ne _ _ j6]
      exact oc_sm.of rfl)
  refine oc_forms (cells := 6) (slots := 163) hx hb hml hown hts hE (by decide) (by decide) 13 0 rfl 0 nI_0.symm H _ hP hS ls (lv_sub hl [1, 0] rfl) (fun H locs hP hS ls hl => ?_)
  refine lv_aload_n hx hb dX4_init_73 rfl (lv_at hl 0 rfl) ?_
  refine lv_bipush (v := (21 : Int32)) hx hb dX4_init_74 (by decide) ?_
  refine oc_newq (N' := 21) hx hb hown (hts _ tw_145) (hE.2.2 RX1 (by decide)) hE.1 hP hS 4 rfl (by decide) (by decide) (by decide) (by decide) (by decide) dX4_init_76 (fun H hP hS => ?_)
  refine oc_put (ci := 4) (C := RX4) (T := TX4) (N := 9) (v := .ref (b0 + 72)) (fs := [.ref (b0 + 1), .ref (b0 + 3), .ref (b0 + 5), .ref (b0 + 6), .null, .int 0, .int 0, .int 0, .int 0]) hx hb hts inX4 tyX4 tyX4_ok nmX4 hown hE.1 hP hS (0) (by omega) ((va_up_ne _ _ (by decide)).trans (va_up_self _ _ _)) rfl 4 (by decide) (hts _ tw_180) hname rfl rfl rfl (Nat.le_of_ble_eq_true rfl) dX4_init_79 (fun H locs hP hS => ?_)
  rw [oc_swap _ (by decide)] at hP
  refine lv_iconst (v := (0 : Int32)) hx hb dX4_init_82 (by decide) ?_
  refine lv_istore_n (lv' := [(1, .int 0), (0, .ref (b0 + 0))]) hx hb dX4_init_83 rfl hl (by decide) rfl (fun ls hl => ?_)
  have hP : oc_P D b0 (va_up (va_up (oc_fin ca b0) 0 (.inr (4, [.ref (b0 + 1), .ref (b0 + 3), .ref (b0 + 5), .ref (b0 + 6), .ref (b0 + 72), .int 0, .int 0, .int 0, .int 0]))) 72 (.inl (ca 4, 21, .inr (.inr (.inr (.inr (fun j => if j < 0 then some (b0 + (73 + 3 * j)) else none))))))) (73 + 3 * 0) H := hP.to (fun j hj => by
    by_cases j6 : j = 72
    · subst j6
      rw [va_up_self, va_up_self]
      exact oc_sm.arr (fun q hq => by rw [if_neg (Nat.not_lt_zero _)])
    · rw [va_up_ne _ _ j6, va_up_ne _ _ j6]
      exact oc_sm.of rfl)
  refine oc_lines (cells := 72) (slots := 496) hx hb hml hown hts hE (by decide) (by decide) 21 0 rfl 0 nI_0.symm H _ hP hS ls (lv_sub hl [1, 0] rfl) (fun H locs hP hS ls hl => ?_)
  refine lv_aload_n hx hb dX4_init_112 rfl (lv_at hl 0 rfl) ?_
  refine lv_iconst (v := (-1 : Int32)) hx hb dX4_init_113 (by decide) ?_
  refine oc_put (ci := 4) (C := RX4) (T := TX4) (N := 9) (v := .int (-1)) (fs := [.ref (b0 + 1), .ref (b0 + 3), .ref (b0 + 5), .ref (b0 + 6), .ref (b0 + 72), .int 0, .int 0, .int 0, .int 0]) hx hb hts inX4 tyX4 tyX4_ok nmX4 hown hE.1 hP hS (0) (by omega) (va_up_self _ _ _) rfl 7 (by decide) (hts _ tw_183) hname rfl rfl rfl (Nat.le_of_ble_eq_true rfl) dX4_init_114 (fun H locs hP hS => ?_)
  rw [oc_upup] at hP
  refine oc_ret hx hb hr hlocks hS hP (fun j hj => ?_) dX4_init_117
  by_cases j0 : j = 0
  · subst j0; exact oc_sm.of rfl
  exact oc_sm.of (va_up_ne _ _ j0)
set_option maxHeartbeats 4000000 in
set_option maxRecDepth 100000 in
theorem oc_model (l : Launch) (D : va_G) (ca : Nat → ClassId) (b0 : Nat) : oc_Met l yX5_init (oa_w yX5_init cX5_init 1 none) ({ frames := 1, cells := 22, slots := 910, locals := 20 } : Room) D ca b0 136 (va_up (oc_fin ca b0) 136 (.inr (5, [.int 0, .null, .int 0, .int 0, .int 0, .null, .null, .null, .null, .null, .null, .null, .null, .int 0, .null, .null, .null, .int 0, .null, .null, .null, .null, .null, .null, .null, .null, .null, .int 0, .int 0, .null, .int 0]))) 137 (oc_fin ca b0) 159 22 910 := by
  refine oc_ofW (cc := cX5_init) (maxL := 1) (by decide) rfl (Nat.le_of_ble_eq_true rfl) ?_
  intro p e s m below meth c hx hb hml hr hlocks hown hname hts0 hB ls hl
  obtain ⟨hP, hE⟩ := hB
  have hts : ∀ w ∈ oa_T, w.before _ s = true := fun w h => hts0 w (List.mem_cons_of_mem _ h)
  have hS : va_S (fun q => b0 ≤ q) s.heap s.heap [] := va_S.rf
  have hl : lv_has ls 1 [(0, .ref (b0 + 136))] := hl
  refine lv_aload_n hx hb dX5_init_0 rfl (lv_at hl 0 rfl) ?_
  refine oc_oinit hx hb hown (hts _ tw_614) (hts _ tw_64) (hts _ tw_65) (by rw [hml]; exact hl.1) dX5_init_1 (Nat.le_of_ble_eq_true rfl) (Nat.le_of_ble_eq_true rfl) ?_
  refine lv_aload_n hx hb dX5_init_4 rfl (lv_at hl 0 rfl) ?_
  refine lv_bipush (v := (40 : Int32)) hx hb dX5_init_5 (by decide) ?_
  refine oc_newa (atype := .char) (a0 := (40, .inl (fun _ => 0))) (N' := 40) hx hb (hts _ tw_83) rfl hE.1 hP hS 0 rfl (fun C h => by cases h) (fun _ => rfl) (by decide) (by decide) (by decide) (by decide) (by decide) dX5_init_7 (fun H hP hS => ?_)
  have hP : oc_P D b0 (va_up (oc_fin ca b0) 136 (.inr (5, [.int 0, .null, .int 0, .int 0, .int 0, .null, .null, .null, .null, .null, .null, .null, .null, .int 0, .null, .null, .null, .int 0, .null, .null, .null, .null, .null, .null, .null, .null, .null, .int 0, .int 0, .null, .int 0]))) 138 H := hP.to (fun j hj => by
    by_cases j1 : j = 137
    · subst j1; exact oc_sm.of rfl
    exact oc_sm.of (va_up_ne _ _ j1))
  refine oc_put (ci := 5) (C := RX5) (T := TX5) (N := 31) (v := .ref (b0 + 137)) (fs := [.int 0, .null, .int 0, .int 0, .int 0, .null, .null, .null, .null, .null, .null, .null, .null, .int 0, .null, .null, .null, .int 0, .null, .null, .null, .null, .null, .null, .null, .null, .null, .int 0, .int 0, .null, .int 0]) hx hb hts inX5 tyX5 tyX5_ok nmX5 hown hE.1 hP hS (136) (by omega) (va_up_self _ _ _) rfl 1 (by decide) (hts _ tw_616) hname rfl rfl rfl (Nat.le_of_ble_eq_true rfl) dX5_init_9 (fun H locs hP hS => ?_)
  rw [oc_upup] at hP
  have hP : oc_P D b0 (va_up (oc_fin ca b0) 136 (.inr (5, [.int 0, .ref (b0 + 137), .int 0, .int 0, .int 0, .null, .null, .null, .null, .null, .null, .null, .null, .int 0, .null, .null, .null, .int 0, .null, .null, .null, .null, .null, .null, .null, .null, .null, .int 0, .int 0, .null, .int 0]))) 138 H := hP
  refine lv_aload_n hx hb dX5_init_12 rfl (lv_at hl 0 rfl) ?_
  refine lv_bipush (v := (12 : Int32)) hx hb dX5_init_13 (by decide) ?_
  refine oc_newa (atype := .int) (a0 := (12, .inl (fun _ => 0))) (N' := 12) hx hb (hts _ tw_120) rfl hE.1 hP hS 1 rfl (fun C h => by cases h) (fun _ => rfl) (by decide) (by decide) (by decide) (by decide) (by decide) dX5_init_15 (fun H hP hS => ?_)
  have hP : oc_P D b0 (va_up (oc_fin ca b0) 136 (.inr (5, [.int 0, .ref (b0 + 137), .int 0, .int 0, .int 0, .null, .null, .null, .null, .null, .null, .null, .null, .int 0, .null, .null, .null, .int 0, .null, .null, .null, .null, .null, .null, .null, .null, .null, .int 0, .int 0, .null, .int 0]))) 139 H := hP.to (fun j hj => by
    by_cases j1 : j = 138
    · subst j1; exact oc_sm.of rfl
    exact oc_sm.of (va_up_ne _ _ j1))
  refine oc_put (ci := 5) (C := RX5) (T := TX5) (N := 31) (v := .ref (b0 + 138)) (fs := [.int 0, .ref (b0 + 137), .int 0, .int 0, .int 0, .null, .null, .null, .null, .null, .null, .null, .null, .int 0, .null, .null, .null, .int 0, .null, .null, .null, .null, .null, .null, .null, .null, .null, .int 0, .int 0, .null, .int 0]) hx hb hts inX5 tyX5 tyX5_ok nmX5 hown hE.1 hP hS (136) (by omega) (va_up_self _ _ _) rfl 5 (by decide) (hts _ tw_620) hname rfl rfl rfl (Nat.le_of_ble_eq_true rfl) dX5_init_17 (fun H locs hP hS => ?_)
  rw [oc_upup] at hP
  have hP : oc_P D b0 (va_up (oc_fin ca b0) 136 (.inr (5, [.int 0, .ref (b0 + 137), .int 0, .int 0, .int 0, .ref (b0 + 138), .null, .null, .null, .null, .null, .null, .null, .int 0, .null, .null, .null, .int 0, .null, .null, .null, .null, .null, .null, .null, .null, .null, .int 0, .int 0, .null, .int 0]))) 139 H := hP
  refine lv_aload_n hx hb dX5_init_20 rfl (lv_at hl 0 rfl) ?_
  refine lv_bipush (v := (12 : Int32)) hx hb dX5_init_21 (by decide) ?_
  refine oc_newa (atype := .int) (a0 := (12, .inl (fun _ => 0))) (N' := 12) hx hb (hts _ tw_120) rfl hE.1 hP hS 1 rfl (fun C h => by cases h) (fun _ => rfl) (by decide) (by decide) (by decide) (by decide) (by decide) dX5_init_23 (fun H hP hS => ?_)
  have hP : oc_P D b0 (va_up (oc_fin ca b0) 136 (.inr (5, [.int 0, .ref (b0 + 137), .int 0, .int 0, .int 0, .ref (b0 + 138), .null, .null, .null, .null, .null, .null, .null, .int 0, .null, .null, .null, .int 0, .null, .null, .null, .null, .null, .null, .null, .null, .null, .int 0, .int 0, .null, .int 0]))) 140 H := hP.to (fun j hj => by
    by_cases j1 : j = 139
    · subst j1; exact oc_sm.of rfl
    exact oc_sm.of (va_up_ne _ _ j1))
  refine oc_put (ci := 5) (C := RX5) (T := TX5) (N := 31) (v := .ref (b0 + 139)) (fs := [.int 0, .ref (b0 + 137), .int 0, .int 0, .int 0, .ref (b0 + 138), .null, .null, .null, .null, .null, .null, .null, .int 0, .null, .null, .null, .int 0, .null, .null, .null, .null, .null, .null, .null, .null, .null, .int 0, .int 0, .null, .int 0]) hx hb hts inX5 tyX5 tyX5_ok nmX5 hown hE.1 hP hS (136) (by omega) (va_up_self _ _ _) rfl 6 (by decide) (hts _ tw_621) hname rfl rfl rfl (Nat.le_of_ble_eq_true rfl) dX5_init_25 (fun H locs hP hS => ?_)
  rw [oc_upup] at hP
  have hP : oc_P D b0 (va_up (oc_fin ca b0) 136 (.inr (5, [.int 0, .ref (b0 + 137), .int 0, .int 0, .int 0, .ref (b0 + 138), .ref (b0 + 139), .null, .null, .null, .null, .null, .null, .int 0, .null, .null, .null, .int 0, .null, .null, .null, .null, .null, .null, .null, .null, .null, .int 0, .int 0, .null, .int 0]))) 140 H := hP
  refine lv_aload_n hx hb dX5_init_28 rfl (lv_at hl 0 rfl) ?_
  refine lv_sipush (v := (288 : Int32)) hx hb dX5_init_29 (by decide) ?_
  refine oc_newa (atype := .int) (a0 := (288, .inl (fun _ => 0))) (N' := 288) hx hb (hts _ tw_120) rfl hE.1 hP hS 1 rfl (fun C h => by cases h) (fun _ => rfl) (by decide) (by decide) (by decide) (by decide) (by decide) dX5_init_32 (fun H hP hS => ?_)
  have hP : oc_P D b0 (va_up (oc_fin ca b0) 136 (.inr (5, [.int 0, .ref (b0 + 137), .int 0, .int 0, .int 0, .ref (b0 + 138), .ref (b0 + 139), .null, .null, .null, .null, .null, .null, .int 0, .null, .null, .null, .int 0, .null, .null, .null, .null, .null, .null, .null, .null, .null, .int 0, .int 0, .null, .int 0]))) 141 H := hP.to (fun j hj => by
    by_cases j1 : j = 140
    · subst j1; exact oc_sm.of rfl
    exact oc_sm.of (va_up_ne _ _ j1))
  refine oc_put (ci := 5) (C := RX5) (T := TX5) (N := 31) (v := .ref (b0 + 140)) (fs := [.int 0, .ref (b0 + 137), .int 0, .int 0, .int 0, .ref (b0 + 138), .ref (b0 + 139), .null, .null, .null, .null, .null, .null, .int 0, .null, .null, .null, .int 0, .null, .null, .null, .null, .null, .null, .null, .null, .null, .int 0, .int 0, .null, .int 0]) hx hb hts inX5 tyX5 tyX5_ok nmX5 hown hE.1 hP hS (136) (by omega) (va_up_self _ _ _) rfl 7 (by decide) (hts _ tw_622) hname rfl rfl rfl (Nat.le_of_ble_eq_true rfl) dX5_init_34 (fun H locs hP hS => ?_)
  rw [oc_upup] at hP
  have hP : oc_P D b0 (va_up (oc_fin ca b0) 136 (.inr (5, [.int 0, .ref (b0 + 137), .int 0, .int 0, .int 0, .ref (b0 + 138), .ref (b0 + 139), .ref (b0 + 140), .null, .null, .null, .null, .null, .int 0, .null, .null, .null, .int 0, .null, .null, .null, .null, .null, .null, .null, .null, .null, .int 0, .int 0, .null, .int 0]))) 141 H := hP
  refine lv_aload_n hx hb dX5_init_37 rfl (lv_at hl 0 rfl) ?_
  refine lv_bipush (v := (12 : Int32)) hx hb dX5_init_38 (by decide) ?_
  refine oc_newa (atype := .int) (a0 := (12, .inl (fun _ => 0))) (N' := 12) hx hb (hts _ tw_120) rfl hE.1 hP hS 1 rfl (fun C h => by cases h) (fun _ => rfl) (by decide) (by decide) (by decide) (by decide) (by decide) dX5_init_40 (fun H hP hS => ?_)
  have hP : oc_P D b0 (va_up (oc_fin ca b0) 136 (.inr (5, [.int 0, .ref (b0 + 137), .int 0, .int 0, .int 0, .ref (b0 + 138), .ref (b0 + 139), .ref (b0 + 140), .null, .null, .null, .null, .null, .int 0, .null, .null, .null, .int 0, .null, .null, .null, .null, .null, .null, .null, .null, .null, .int 0, .int 0, .null, .int 0]))) 142 H := hP.to (fun j hj => by
    by_cases j1 : j = 141
    · subst j1; exact oc_sm.of rfl
    exact oc_sm.of (va_up_ne _ _ j1))
  refine oc_put (ci := 5) (C := RX5) (T := TX5) (N := 31) (v := .ref (b0 + 141)) (fs := [.int 0, .ref (b0 + 137), .int 0, .int 0, .int 0, .ref (b0 + 138), .ref (b0 + 139), .ref (b0 + 140), .null, .null, .null, .null, .null, .int 0, .null, .null, .null, .int 0, .null, .null, .null, .null, .null, .null, .null, .null, .null, .int 0, .int 0, .null, .int 0]) hx hb hts inX5 tyX5 tyX5_ok nmX5 hown hE.1 hP hS (136) (by omega) (va_up_self _ _ _) rfl 8 (by decide) (hts _ tw_623) hname rfl rfl rfl (Nat.le_of_ble_eq_true rfl) dX5_init_42 (fun H locs hP hS => ?_)
  rw [oc_upup] at hP
  have hP : oc_P D b0 (va_up (oc_fin ca b0) 136 (.inr (5, [.int 0, .ref (b0 + 137), .int 0, .int 0, .int 0, .ref (b0 + 138), .ref (b0 + 139), .ref (b0 + 140), .ref (b0 + 141), .null, .null, .null, .null, .int 0, .null, .null, .null, .int 0, .null, .null, .null, .null, .null, .null, .null, .null, .null, .int 0, .int 0, .null, .int 0]))) 142 H := hP
  refine lv_aload_n hx hb dX5_init_45 rfl (lv_at hl 0 rfl) ?_
  refine lv_bipush (v := (36 : Int32)) hx hb dX5_init_46 (by decide) ?_
  refine oc_newa (atype := .int) (a0 := (36, .inl (fun _ => 0))) (N' := 36) hx hb (hts _ tw_120) rfl hE.1 hP hS 1 rfl (fun C h => by cases h) (fun _ => rfl) (by decide) (by decide) (by decide) (by decide) (by decide) dX5_init_48 (fun H hP hS => ?_)
  have hP : oc_P D b0 (va_up (oc_fin ca b0) 136 (.inr (5, [.int 0, .ref (b0 + 137), .int 0, .int 0, .int 0, .ref (b0 + 138), .ref (b0 + 139), .ref (b0 + 140), .ref (b0 + 141), .null, .null, .null, .null, .int 0, .null, .null, .null, .int 0, .null, .null, .null, .null, .null, .null, .null, .null, .null, .int 0, .int 0, .null, .int 0]))) 143 H := hP.to (fun j hj => by
    by_cases j1 : j = 142
    · subst j1; exact oc_sm.of rfl
    exact oc_sm.of (va_up_ne _ _ j1))
  refine oc_put (ci := 5) (C := RX5) (T := TX5) (N := 31) (v := .ref (b0 + 142)) (fs := [.int 0, .ref (b0 + 137), .int 0, .int 0, .int 0, .ref (b0 + 138), .ref (b0 + 139), .ref (b0 + 140), .ref (b0 + 141), .null, .null, .null, .null, .int 0, .null, .null, .null, .int 0, .null, .null, .null, .null, .null, .null, .null, .null, .null, .int 0, .int 0, .null, .int 0]) hx hb hts inX5 tyX5 tyX5_ok nmX5 hown hE.1 hP hS (136) (by omega) (va_up_self _ _ _) rfl 9 (by decide) (hts _ tw_624) hname rfl rfl rfl (Nat.le_of_ble_eq_true rfl) dX5_init_50 (fun H locs hP hS => ?_)
  rw [oc_upup] at hP
  have hP : oc_P D b0 (va_up (oc_fin ca b0) 136 (.inr (5, [.int 0, .ref (b0 + 137), .int 0, .int 0, .int 0, .ref (b0 + 138), .ref (b0 + 139), .ref (b0 + 140), .ref (b0 + 141), .ref (b0 + 142), .null, .null, .null, .int 0, .null, .null, .null, .int 0, .null, .null, .null, .null, .null, .null, .null, .null, .null, .int 0, .int 0, .null, .int 0]))) 143 H := hP
  refine lv_aload_n hx hb dX5_init_53 rfl (lv_at hl 0 rfl) ?_
  refine lv_bipush (v := (36 : Int32)) hx hb dX5_init_54 (by decide) ?_
  refine oc_newa (atype := .int) (a0 := (36, .inl (fun _ => 0))) (N' := 36) hx hb (hts _ tw_120) rfl hE.1 hP hS 1 rfl (fun C h => by cases h) (fun _ => rfl) (by decide) (by decide) (by decide) (by decide) (by decide) dX5_init_56 (fun H hP hS => ?_)
  have hP : oc_P D b0 (va_up (oc_fin ca b0) 136 (.inr (5, [.int 0, .ref (b0 + 137), .int 0, .int 0, .int 0, .ref (b0 + 138), .ref (b0 + 139), .ref (b0 + 140), .ref (b0 + 141), .ref (b0 + 142), .null, .null, .null, .int 0, .null, .null, .null, .int 0, .null, .null, .null, .null, .null, .null, .null, .null, .null, .int 0, .int 0, .null, .int 0]))) 144 H := hP.to (fun j hj => by
    by_cases j1 : j = 143
    · subst j1; exact oc_sm.of rfl
    exact oc_sm.of (va_up_ne _ _ j1))
  refine oc_put (ci := 5) (C := RX5) (T := TX5) (N := 31) (v := .ref (b0 + 143)) (fs := [.int 0, .ref (b0 + 137), .int 0, .int 0, .int 0, .ref (b0 + 138), .ref (b0 + 139), .ref (b0 + 140), .ref (b0 + 141), .ref (b0 + 142), .null, .null, .null, .int 0, .null, .null, .null, .int 0, .null, .null, .null, .null, .null, .null, .null, .null, .null, .int 0, .int 0, .null, .int 0]) hx hb hts inX5 tyX5 tyX5_ok nmX5 hown hE.1 hP hS (136) (by omega) (va_up_self _ _ _) rfl 10 (by decide) (hts _ tw_625) hname rfl rfl rfl (Nat.le_of_ble_eq_true rfl) dX5_init_58 (fun H locs hP hS => ?_)
  rw [oc_upup] at hP
  have hP : oc_P D b0 (va_up (oc_fin ca b0) 136 (.inr (5, [.int 0, .ref (b0 + 137), .int 0, .int 0, .int 0, .ref (b0 + 138), .ref (b0 + 139), .ref (b0 + 140), .ref (b0 + 141), .ref (b0 + 142), .ref (b0 + 143), .null, .null, .int 0, .null, .null, .null, .int 0, .null, .null, .null, .null, .null, .null, .null, .null, .null, .int 0, .int 0, .null, .int 0]))) 144 H := hP
  refine lv_aload_n hx hb dX5_init_61 rfl (lv_at hl 0 rfl) ?_
  refine lv_bipush (v := (36 : Int32)) hx hb dX5_init_62 (by decide) ?_
  refine oc_newa (atype := .int) (a0 := (36, .inl (fun _ => 0))) (N' := 36) hx hb (hts _ tw_120) rfl hE.1 hP hS 1 rfl (fun C h => by cases h) (fun _ => rfl) (by decide) (by decide) (by decide) (by decide) (by decide) dX5_init_64 (fun H hP hS => ?_)
  have hP : oc_P D b0 (va_up (oc_fin ca b0) 136 (.inr (5, [.int 0, .ref (b0 + 137), .int 0, .int 0, .int 0, .ref (b0 + 138), .ref (b0 + 139), .ref (b0 + 140), .ref (b0 + 141), .ref (b0 + 142), .ref (b0 + 143), .null, .null, .int 0, .null, .null, .null, .int 0, .null, .null, .null, .null, .null, .null, .null, .null, .null, .int 0, .int 0, .null, .int 0]))) 145 H := hP.to (fun j hj => by
    by_cases j1 : j = 144
    · subst j1; exact oc_sm.of rfl
    exact oc_sm.of (va_up_ne _ _ j1))
  refine oc_put (ci := 5) (C := RX5) (T := TX5) (N := 31) (v := .ref (b0 + 144)) (fs := [.int 0, .ref (b0 + 137), .int 0, .int 0, .int 0, .ref (b0 + 138), .ref (b0 + 139), .ref (b0 + 140), .ref (b0 + 141), .ref (b0 + 142), .ref (b0 + 143), .null, .null, .int 0, .null, .null, .null, .int 0, .null, .null, .null, .null, .null, .null, .null, .null, .null, .int 0, .int 0, .null, .int 0]) hx hb hts inX5 tyX5 tyX5_ok nmX5 hown hE.1 hP hS (136) (by omega) (va_up_self _ _ _) rfl 11 (by decide) (hts _ tw_626) hname rfl rfl rfl (Nat.le_of_ble_eq_true rfl) dX5_init_66 (fun H locs hP hS => ?_)
  rw [oc_upup] at hP
  have hP : oc_P D b0 (va_up (oc_fin ca b0) 136 (.inr (5, [.int 0, .ref (b0 + 137), .int 0, .int 0, .int 0, .ref (b0 + 138), .ref (b0 + 139), .ref (b0 + 140), .ref (b0 + 141), .ref (b0 + 142), .ref (b0 + 143), .ref (b0 + 144), .null, .int 0, .null, .null, .null, .int 0, .null, .null, .null, .null, .null, .null, .null, .null, .null, .int 0, .int 0, .null, .int 0]))) 145 H := hP
  refine lv_aload_n hx hb dX5_init_69 rfl (lv_at hl 0 rfl) ?_
  refine lv_bipush (v := (36 : Int32)) hx hb dX5_init_70 (by decide) ?_
  refine oc_newa (atype := .int) (a0 := (36, .inl (fun _ => 0))) (N' := 36) hx hb (hts _ tw_120) rfl hE.1 hP hS 1 rfl (fun C h => by cases h) (fun _ => rfl) (by decide) (by decide) (by decide) (by decide) (by decide) dX5_init_72 (fun H hP hS => ?_)
  have hP : oc_P D b0 (va_up (oc_fin ca b0) 136 (.inr (5, [.int 0, .ref (b0 + 137), .int 0, .int 0, .int 0, .ref (b0 + 138), .ref (b0 + 139), .ref (b0 + 140), .ref (b0 + 141), .ref (b0 + 142), .ref (b0 + 143), .ref (b0 + 144), .null, .int 0, .null, .null, .null, .int 0, .null, .null, .null, .null, .null, .null, .null, .null, .null, .int 0, .int 0, .null, .int 0]))) 146 H := hP.to (fun j hj => by
    by_cases j1 : j = 145
    · subst j1; exact oc_sm.of rfl
    exact oc_sm.of (va_up_ne _ _ j1))
  refine oc_put (ci := 5) (C := RX5) (T := TX5) (N := 31) (v := .ref (b0 + 145)) (fs := [.int 0, .ref (b0 + 137), .int 0, .int 0, .int 0, .ref (b0 + 138), .ref (b0 + 139), .ref (b0 + 140), .ref (b0 + 141), .ref (b0 + 142), .ref (b0 + 143), .ref (b0 + 144), .null, .int 0, .null, .null, .null, .int 0, .null, .null, .null, .null, .null, .null, .null, .null, .null, .int 0, .int 0, .null, .int 0]) hx hb hts inX5 tyX5 tyX5_ok nmX5 hown hE.1 hP hS (136) (by omega) (va_up_self _ _ _) rfl 12 (by decide) (hts _ tw_627) hname rfl rfl rfl (Nat.le_of_ble_eq_true rfl) dX5_init_74 (fun H locs hP hS => ?_)
  rw [oc_upup] at hP
  have hP : oc_P D b0 (va_up (oc_fin ca b0) 136 (.inr (5, [.int 0, .ref (b0 + 137), .int 0, .int 0, .int 0, .ref (b0 + 138), .ref (b0 + 139), .ref (b0 + 140), .ref (b0 + 141), .ref (b0 + 142), .ref (b0 + 143), .ref (b0 + 144), .ref (b0 + 145), .int 0, .null, .null, .null, .int 0, .null, .null, .null, .null, .null, .null, .null, .null, .null, .int 0, .int 0, .null, .int 0]))) 146 H := hP
  refine lv_aload_n hx hb dX5_init_77 rfl (lv_at hl 0 rfl) ?_
  refine lv_bipush (v := (24 : Int32)) hx hb dX5_init_78 (by decide) ?_
  refine oc_newa (atype := .int) (a0 := (24, .inl (fun _ => 0))) (N' := 24) hx hb (hts _ tw_120) rfl hE.1 hP hS 1 rfl (fun C h => by cases h) (fun _ => rfl) (by decide) (by decide) (by decide) (by decide) (by decide) dX5_init_80 (fun H hP hS => ?_)
  have hP : oc_P D b0 (va_up (oc_fin ca b0) 136 (.inr (5, [.int 0, .ref (b0 + 137), .int 0, .int 0, .int 0, .ref (b0 + 138), .ref (b0 + 139), .ref (b0 + 140), .ref (b0 + 141), .ref (b0 + 142), .ref (b0 + 143), .ref (b0 + 144), .ref (b0 + 145), .int 0, .null, .null, .null, .int 0, .null, .null, .null, .null, .null, .null, .null, .null, .null, .int 0, .int 0, .null, .int 0]))) 147 H := hP.to (fun j hj => by
    by_cases j1 : j = 146
    · subst j1; exact oc_sm.of rfl
    exact oc_sm.of (va_up_ne _ _ j1))
  refine oc_put (ci := 5) (C := RX5) (T := TX5) (N := 31) (v := .ref (b0 + 146)) (fs := [.int 0, .ref (b0 + 137), .int 0, .int 0, .int 0, .ref (b0 + 138), .ref (b0 + 139), .ref (b0 + 140), .ref (b0 + 141), .ref (b0 + 142), .ref (b0 + 143), .ref (b0 + 144), .ref (b0 + 145), .int 0, .null, .null, .null, .int 0, .null, .null, .null, .null, .null, .null, .null, .null, .null, .int 0, .int 0, .null, .int 0]) hx hb hts inX5 tyX5 tyX5_ok nmX5 hown hE.1 hP hS (136) (by omega) (va_up_self _ _ _) rfl 14 (by decide) (hts _ tw_629) hname rfl rfl rfl (Nat.le_of_ble_eq_true rfl) dX5_init_82 (fun H locs hP hS => ?_)
  rw [oc_upup] at hP
  have hP : oc_P D b0 (va_up (oc_fin ca b0) 136 (.inr (5, [.int 0, .ref (b0 + 137), .int 0, .int 0, .int 0, .ref (b0 + 138), .ref (b0 + 139), .ref (b0 + 140), .ref (b0 + 141), .ref (b0 + 142), .ref (b0 + 143), .ref (b0 + 144), .ref (b0 + 145), .int 0, .ref (b0 + 146), .null, .null, .int 0, .null, .null, .null, .null, .null, .null, .null, .null, .null, .int 0, .int 0, .null, .int 0]))) 147 H := hP
  refine lv_aload_n hx hb dX5_init_85 rfl (lv_at hl 0 rfl) ?_
  refine lv_iconst (v := (3 : Int32)) hx hb dX5_init_86 (by decide) ?_
  refine oc_newa (atype := .int) (a0 := (3, .inl (fun _ => 0))) (N' := 3) hx hb (hts _ tw_120) rfl hE.1 hP hS 1 rfl (fun C h => by cases h) (fun _ => rfl) (by decide) (by decide) (by decide) (by decide) (by decide) dX5_init_87 (fun H hP hS => ?_)
  have hP : oc_P D b0 (va_up (oc_fin ca b0) 136 (.inr (5, [.int 0, .ref (b0 + 137), .int 0, .int 0, .int 0, .ref (b0 + 138), .ref (b0 + 139), .ref (b0 + 140), .ref (b0 + 141), .ref (b0 + 142), .ref (b0 + 143), .ref (b0 + 144), .ref (b0 + 145), .int 0, .ref (b0 + 146), .null, .null, .int 0, .null, .null, .null, .null, .null, .null, .null, .null, .null, .int 0, .int 0, .null, .int 0]))) 148 H := hP.to (fun j hj => by
    by_cases j1 : j = 147
    · subst j1; exact oc_sm.of rfl
    exact oc_sm.of (va_up_ne _ _ j1))
  refine oc_put (ci := 5) (C := RX5) (T := TX5) (N := 31) (v := .ref (b0 + 147)) (fs := [.int 0, .ref (b0 + 137), .int 0, .int 0, .int 0, .ref (b0 + 138), .ref (b0 + 139), .ref (b0 + 140), .ref (b0 + 141), .ref (b0 + 142), .ref (b0 + 143), .ref (b0 + 144), .ref (b0 + 145), .int 0, .ref (b0 + 146), .null, .null, .int 0, .null, .null, .null, .null, .null, .null, .null, .null, .null, .int 0, .int 0, .null, .int 0]) hx hb hts inX5 tyX5 tyX5_ok nmX5 hown hE.1 hP hS (136) (by omega) (va_up_self _ _ _) rfl 15 (by decide) (hts _ tw_630) hname rfl rfl rfl (Nat.le_of_ble_eq_true rfl) dX5_init_89 (fun H locs hP hS => ?_)
  rw [oc_upup] at hP
  have hP : oc_P D b0 (va_up (oc_fin ca b0) 136 (.inr (5, [.int 0, .ref (b0 + 137), .int 0, .int 0, .int 0, .ref (b0 + 138), .ref (b0 + 139), .ref (b0 + 140), .ref (b0 + 141), .ref (b0 + 142), .ref (b0 + 143), .ref (b0 + 144), .ref (b0 + 145), .int 0, .ref (b0 + 146), .ref (b0 + 147), .null, .int 0, .null, .null, .null, .null, .null, .null, .null, .null, .null, .int 0, .int 0, .null, .int 0]))) 148 H := hP
  refine lv_aload_n hx hb dX5_init_92 rfl (lv_at hl 0 rfl) ?_
  refine lv_bipush (v := (64 : Int32)) hx hb dX5_init_93 (by decide) ?_
  refine oc_newa (atype := .int) (a0 := (64, .inl (fun _ => 0))) (N' := 64) hx hb (hts _ tw_120) rfl hE.1 hP hS 1 rfl (fun C h => by cases h) (fun _ => rfl) (by decide) (by decide) (by decide) (by decide) (by decide) dX5_init_95 (fun H hP hS => ?_)
  have hP : oc_P D b0 (va_up (oc_fin ca b0) 136 (.inr (5, [.int 0, .ref (b0 + 137), .int 0, .int 0, .int 0, .ref (b0 + 138), .ref (b0 + 139), .ref (b0 + 140), .ref (b0 + 141), .ref (b0 + 142), .ref (b0 + 143), .ref (b0 + 144), .ref (b0 + 145), .int 0, .ref (b0 + 146), .ref (b0 + 147), .null, .int 0, .null, .null, .null, .null, .null, .null, .null, .null, .null, .int 0, .int 0, .null, .int 0]))) 149 H := hP.to (fun j hj => by
    by_cases j1 : j = 148
    · subst j1; exact oc_sm.of rfl
    exact oc_sm.of (va_up_ne _ _ j1))
  refine oc_put (ci := 5) (C := RX5) (T := TX5) (N := 31) (v := .ref (b0 + 148)) (fs := [.int 0, .ref (b0 + 137), .int 0, .int 0, .int 0, .ref (b0 + 138), .ref (b0 + 139), .ref (b0 + 140), .ref (b0 + 141), .ref (b0 + 142), .ref (b0 + 143), .ref (b0 + 144), .ref (b0 + 145), .int 0, .ref (b0 + 146), .ref (b0 + 147), .null, .int 0, .null, .null, .null, .null, .null, .null, .null, .null, .null, .int 0, .int 0, .null, .int 0]) hx hb hts inX5 tyX5 tyX5_ok nmX5 hown hE.1 hP hS (136) (by omega) (va_up_self _ _ _) rfl 16 (by decide) (hts _ tw_631) hname rfl rfl rfl (Nat.le_of_ble_eq_true rfl) dX5_init_97 (fun H locs hP hS => ?_)
  rw [oc_upup] at hP
  have hP : oc_P D b0 (va_up (oc_fin ca b0) 136 (.inr (5, [.int 0, .ref (b0 + 137), .int 0, .int 0, .int 0, .ref (b0 + 138), .ref (b0 + 139), .ref (b0 + 140), .ref (b0 + 141), .ref (b0 + 142), .ref (b0 + 143), .ref (b0 + 144), .ref (b0 + 145), .int 0, .ref (b0 + 146), .ref (b0 + 147), .ref (b0 + 148), .int 0, .null, .null, .null, .null, .null, .null, .null, .null, .null, .int 0, .int 0, .null, .int 0]))) 149 H := hP
  refine lv_aload_n hx hb dX5_init_100 rfl (lv_at hl 0 rfl) ?_
  refine lv_bipush (v := (20 : Int32)) hx hb dX5_init_101 (by decide) ?_
  refine oc_newa (atype := .int) (a0 := (20, .inl (fun _ => 0))) (N' := 20) hx hb (hts _ tw_120) rfl hE.1 hP hS 1 rfl (fun C h => by cases h) (fun _ => rfl) (by decide) (by decide) (by decide) (by decide) (by decide) dX5_init_103 (fun H hP hS => ?_)
  have hP : oc_P D b0 (va_up (oc_fin ca b0) 136 (.inr (5, [.int 0, .ref (b0 + 137), .int 0, .int 0, .int 0, .ref (b0 + 138), .ref (b0 + 139), .ref (b0 + 140), .ref (b0 + 141), .ref (b0 + 142), .ref (b0 + 143), .ref (b0 + 144), .ref (b0 + 145), .int 0, .ref (b0 + 146), .ref (b0 + 147), .ref (b0 + 148), .int 0, .null, .null, .null, .null, .null, .null, .null, .null, .null, .int 0, .int 0, .null, .int 0]))) 150 H := hP.to (fun j hj => by
    by_cases j1 : j = 149
    · subst j1; exact oc_sm.of rfl
    exact oc_sm.of (va_up_ne _ _ j1))
  refine oc_put (ci := 5) (C := RX5) (T := TX5) (N := 31) (v := .ref (b0 + 149)) (fs := [.int 0, .ref (b0 + 137), .int 0, .int 0, .int 0, .ref (b0 + 138), .ref (b0 + 139), .ref (b0 + 140), .ref (b0 + 141), .ref (b0 + 142), .ref (b0 + 143), .ref (b0 + 144), .ref (b0 + 145), .int 0, .ref (b0 + 146), .ref (b0 + 147), .ref (b0 + 148), .int 0, .null, .null, .null, .null, .null, .null, .null, .null, .null, .int 0, .int 0, .null, .int 0]) hx hb hts inX5 tyX5 tyX5_ok nmX5 hown hE.1 hP hS (136) (by omega) (va_up_self _ _ _) rfl 18 (by decide) (hts _ tw_633) hname rfl rfl rfl (Nat.le_of_ble_eq_true rfl) dX5_init_105 (fun H locs hP hS => ?_)
  rw [oc_upup] at hP
  have hP : oc_P D b0 (va_up (oc_fin ca b0) 136 (.inr (5, [.int 0, .ref (b0 + 137), .int 0, .int 0, .int 0, .ref (b0 + 138), .ref (b0 + 139), .ref (b0 + 140), .ref (b0 + 141), .ref (b0 + 142), .ref (b0 + 143), .ref (b0 + 144), .ref (b0 + 145), .int 0, .ref (b0 + 146), .ref (b0 + 147), .ref (b0 + 148), .int 0, .ref (b0 + 149), .null, .null, .null, .null, .null, .null, .null, .null, .int 0, .int 0, .null, .int 0]))) 150 H := hP
  refine lv_aload_n hx hb dX5_init_108 rfl (lv_at hl 0 rfl) ?_
  refine lv_bipush (v := (20 : Int32)) hx hb dX5_init_109 (by decide) ?_
  refine oc_newa (atype := .int) (a0 := (20, .inl (fun _ => 0))) (N' := 20) hx hb (hts _ tw_120) rfl hE.1 hP hS 1 rfl (fun C h => by cases h) (fun _ => rfl) (by decide) (by decide) (by decide) (by decide) (by decide) dX5_init_111 (fun H hP hS => ?_)
  have hP : oc_P D b0 (va_up (oc_fin ca b0) 136 (.inr (5, [.int 0, .ref (b0 + 137), .int 0, .int 0, .int 0, .ref (b0 + 138), .ref (b0 + 139), .ref (b0 + 140), .ref (b0 + 141), .ref (b0 + 142), .ref (b0 + 143), .ref (b0 + 144), .ref (b0 + 145), .int 0, .ref (b0 + 146), .ref (b0 + 147), .ref (b0 + 148), .int 0, .ref (b0 + 149), .null, .null, .null, .null, .null, .null, .null, .null, .int 0, .int 0, .null, .int 0]))) 151 H := hP.to (fun j hj => by
    by_cases j1 : j = 150
    · subst j1; exact oc_sm.of rfl
    exact oc_sm.of (va_up_ne _ _ j1))
  refine oc_put (ci := 5) (C := RX5) (T := TX5) (N := 31) (v := .ref (b0 + 150)) (fs := [.int 0, .ref (b0 + 137), .int 0, .int 0, .int 0, .ref (b0 + 138), .ref (b0 + 139), .ref (b0 + 140), .ref (b0 + 141), .ref (b0 + 142), .ref (b0 + 143), .ref (b0 + 144), .ref (b0 + 145), .int 0, .ref (b0 + 146), .ref (b0 + 147), .ref (b0 + 148), .int 0, .ref (b0 + 149), .null, .null, .null, .null, .null, .null, .null, .null, .int 0, .int 0, .null, .int 0]) hx hb hts inX5 tyX5 tyX5_ok nmX5 hown hE.1 hP hS (136) (by omega) (va_up_self _ _ _) rfl 19 (by decide) (hts _ tw_634) hname rfl rfl rfl (Nat.le_of_ble_eq_true rfl) dX5_init_113 (fun H locs hP hS => ?_)
  rw [oc_upup] at hP
  have hP : oc_P D b0 (va_up (oc_fin ca b0) 136 (.inr (5, [.int 0, .ref (b0 + 137), .int 0, .int 0, .int 0, .ref (b0 + 138), .ref (b0 + 139), .ref (b0 + 140), .ref (b0 + 141), .ref (b0 + 142), .ref (b0 + 143), .ref (b0 + 144), .ref (b0 + 145), .int 0, .ref (b0 + 146), .ref (b0 + 147), .ref (b0 + 148), .int 0, .ref (b0 + 149), .ref (b0 + 150), .null, .null, .null, .null, .null, .null, .null, .int 0, .int 0, .null, .int 0]))) 151 H := hP
  refine lv_aload_n hx hb dX5_init_116 rfl (lv_at hl 0 rfl) ?_
  refine lv_bipush (v := (20 : Int32)) hx hb dX5_init_117 (by decide) ?_
  refine oc_newa (atype := .int) (a0 := (20, .inl (fun _ => 0))) (N' := 20) hx hb (hts _ tw_120) rfl hE.1 hP hS 1 rfl (fun C h => by cases h) (fun _ => rfl) (by decide) (by decide) (by decide) (by decide) (by decide) dX5_init_119 (fun H hP hS => ?_)
  have hP : oc_P D b0 (va_up (oc_fin ca b0) 136 (.inr (5, [.int 0, .ref (b0 + 137), .int 0, .int 0, .int 0, .ref (b0 + 138), .ref (b0 + 139), .ref (b0 + 140), .ref (b0 + 141), .ref (b0 + 142), .ref (b0 + 143), .ref (b0 + 144), .ref (b0 + 145), .int 0, .ref (b0 + 146), .ref (b0 + 147), .ref (b0 + 148), .int 0, .ref (b0 + 149), .ref (b0 + 150), .null, .null, .null, .null, .null, .null, .null, .int 0, .int 0, .null, .int 0]))) 152 H := hP.to (fun j hj => by
    by_cases j1 : j = 151
    · subst j1; exact oc_sm.of rfl
    exact oc_sm.of (va_up_ne _ _ j1))
  refine oc_put (ci := 5) (C := RX5) (T := TX5) (N := 31) (v := .ref (b0 + 151)) (fs := [.int 0, .ref (b0 + 137), .int 0, .int 0, .int 0, .ref (b0 + 138), .ref (b0 + 139), .ref (b0 + 140), .ref (b0 + 141), .ref (b0 + 142), .ref (b0 + 143), .ref (b0 + 144), .ref (b0 + 145), .int 0, .ref (b0 + 146), .ref (b0 + 147), .ref (b0 + 148), .int 0, .ref (b0 + 149), .ref (b0 + 150), .null, .null, .null, .null, .null, .null, .null, .int 0, .int 0, .null, .int 0]) hx hb hts inX5 tyX5 tyX5_ok nmX5 hown hE.1 hP hS (136) (by omega) (va_up_self _ _ _) rfl 20 (by decide) (hts _ tw_635) hname rfl rfl rfl (Nat.le_of_ble_eq_true rfl) dX5_init_121 (fun H locs hP hS => ?_)
  rw [oc_upup] at hP
  have hP : oc_P D b0 (va_up (oc_fin ca b0) 136 (.inr (5, [.int 0, .ref (b0 + 137), .int 0, .int 0, .int 0, .ref (b0 + 138), .ref (b0 + 139), .ref (b0 + 140), .ref (b0 + 141), .ref (b0 + 142), .ref (b0 + 143), .ref (b0 + 144), .ref (b0 + 145), .int 0, .ref (b0 + 146), .ref (b0 + 147), .ref (b0 + 148), .int 0, .ref (b0 + 149), .ref (b0 + 150), .ref (b0 + 151), .null, .null, .null, .null, .null, .null, .int 0, .int 0, .null, .int 0]))) 152 H := hP
  refine lv_aload_n hx hb dX5_init_124 rfl (lv_at hl 0 rfl) ?_
  refine lv_bipush (v := (60 : Int32)) hx hb dX5_init_125 (by decide) ?_
  refine oc_newa (atype := .int) (a0 := (60, .inl (fun _ => 0))) (N' := 60) hx hb (hts _ tw_120) rfl hE.1 hP hS 1 rfl (fun C h => by cases h) (fun _ => rfl) (by decide) (by decide) (by decide) (by decide) (by decide) dX5_init_127 (fun H hP hS => ?_)
  have hP : oc_P D b0 (va_up (oc_fin ca b0) 136 (.inr (5, [.int 0, .ref (b0 + 137), .int 0, .int 0, .int 0, .ref (b0 + 138), .ref (b0 + 139), .ref (b0 + 140), .ref (b0 + 141), .ref (b0 + 142), .ref (b0 + 143), .ref (b0 + 144), .ref (b0 + 145), .int 0, .ref (b0 + 146), .ref (b0 + 147), .ref (b0 + 148), .int 0, .ref (b0 + 149), .ref (b0 + 150), .ref (b0 + 151), .null, .null, .null, .null, .null, .null, .int 0, .int 0, .null, .int 0]))) 153 H := hP.to (fun j hj => by
    by_cases j1 : j = 152
    · subst j1; exact oc_sm.of rfl
    exact oc_sm.of (va_up_ne _ _ j1))
  refine oc_put (ci := 5) (C := RX5) (T := TX5) (N := 31) (v := .ref (b0 + 152)) (fs := [.int 0, .ref (b0 + 137), .int 0, .int 0, .int 0, .ref (b0 + 138), .ref (b0 + 139), .ref (b0 + 140), .ref (b0 + 141), .ref (b0 + 142), .ref (b0 + 143), .ref (b0 + 144), .ref (b0 + 145), .int 0, .ref (b0 + 146), .ref (b0 + 147), .ref (b0 + 148), .int 0, .ref (b0 + 149), .ref (b0 + 150), .ref (b0 + 151), .null, .null, .null, .null, .null, .null, .int 0, .int 0, .null, .int 0]) hx hb hts inX5 tyX5 tyX5_ok nmX5 hown hE.1 hP hS (136) (by omega) (va_up_self _ _ _) rfl 21 (by decide) (hts _ tw_636) hname rfl rfl rfl (Nat.le_of_ble_eq_true rfl) dX5_init_129 (fun H locs hP hS => ?_)
  rw [oc_upup] at hP
  have hP : oc_P D b0 (va_up (oc_fin ca b0) 136 (.inr (5, [.int 0, .ref (b0 + 137), .int 0, .int 0, .int 0, .ref (b0 + 138), .ref (b0 + 139), .ref (b0 + 140), .ref (b0 + 141), .ref (b0 + 142), .ref (b0 + 143), .ref (b0 + 144), .ref (b0 + 145), .int 0, .ref (b0 + 146), .ref (b0 + 147), .ref (b0 + 148), .int 0, .ref (b0 + 149), .ref (b0 + 150), .ref (b0 + 151), .ref (b0 + 152), .null, .null, .null, .null, .null, .int 0, .int 0, .null, .int 0]))) 153 H := hP
  refine lv_aload_n hx hb dX5_init_132 rfl (lv_at hl 0 rfl) ?_
  refine lv_bipush (v := (60 : Int32)) hx hb dX5_init_133 (by decide) ?_
  refine oc_newa (atype := .boolean) (a0 := (60, .inl (fun _ => 0))) (N' := 60) hx hb (hts _ tw_709) rfl hE.1 hP hS 2 rfl (fun C h => by cases h) (fun _ => rfl) (by decide) (by decide) (by decide) (by decide) (by decide) dX5_init_135 (fun H hP hS => ?_)
  have hP : oc_P D b0 (va_up (oc_fin ca b0) 136 (.inr (5, [.int 0, .ref (b0 + 137), .int 0, .int 0, .int 0, .ref (b0 + 138), .ref (b0 + 139), .ref (b0 + 140), .ref (b0 + 141), .ref (b0 + 142), .ref (b0 + 143), .ref (b0 + 144), .ref (b0 + 145), .int 0, .ref (b0 + 146), .ref (b0 + 147), .ref (b0 + 148), .int 0, .ref (b0 + 149), .ref (b0 + 150), .ref (b0 + 151), .ref (b0 + 152), .null, .null, .null, .null, .null, .int 0, .int 0, .null, .int 0]))) 154 H := hP.to (fun j hj => by
    by_cases j1 : j = 153
    · subst j1; exact oc_sm.of rfl
    exact oc_sm.of (va_up_ne _ _ j1))
  refine oc_put (ci := 5) (C := RX5) (T := TX5) (N := 31) (v := .ref (b0 + 153)) (fs := [.int 0, .ref (b0 + 137), .int 0, .int 0, .int 0, .ref (b0 + 138), .ref (b0 + 139), .ref (b0 + 140), .ref (b0 + 141), .ref (b0 + 142), .ref (b0 + 143), .ref (b0 + 144), .ref (b0 + 145), .int 0, .ref (b0 + 146), .ref (b0 + 147), .ref (b0 + 148), .int 0, .ref (b0 + 149), .ref (b0 + 150), .ref (b0 + 151), .ref (b0 + 152), .null, .null, .null, .null, .null, .int 0, .int 0, .null, .int 0]) hx hb hts inX5 tyX5 tyX5_ok nmX5 hown hE.1 hP hS (136) (by omega) (va_up_self _ _ _) rfl 22 (by decide) (hts _ tw_637) hname rfl rfl rfl (Nat.le_of_ble_eq_true rfl) dX5_init_137 (fun H locs hP hS => ?_)
  rw [oc_upup] at hP
  have hP : oc_P D b0 (va_up (oc_fin ca b0) 136 (.inr (5, [.int 0, .ref (b0 + 137), .int 0, .int 0, .int 0, .ref (b0 + 138), .ref (b0 + 139), .ref (b0 + 140), .ref (b0 + 141), .ref (b0 + 142), .ref (b0 + 143), .ref (b0 + 144), .ref (b0 + 145), .int 0, .ref (b0 + 146), .ref (b0 + 147), .ref (b0 + 148), .int 0, .ref (b0 + 149), .ref (b0 + 150), .ref (b0 + 151), .ref (b0 + 152), .ref (b0 + 153), .null, .null, .null, .null, .int 0, .int 0, .null, .int 0]))) 154 H := hP
  refine lv_aload_n hx hb dX5_init_140 rfl (lv_at hl 0 rfl) ?_
  refine lv_iconst (v := (3 : Int32)) hx hb dX5_init_141 (by decide) ?_
  refine oc_newa (atype := .int) (a0 := (3, .inl (fun _ => 0))) (N' := 3) hx hb (hts _ tw_120) rfl hE.1 hP hS 1 rfl (fun C h => by cases h) (fun _ => rfl) (by decide) (by decide) (by decide) (by decide) (by decide) dX5_init_142 (fun H hP hS => ?_)
  have hP : oc_P D b0 (va_up (oc_fin ca b0) 136 (.inr (5, [.int 0, .ref (b0 + 137), .int 0, .int 0, .int 0, .ref (b0 + 138), .ref (b0 + 139), .ref (b0 + 140), .ref (b0 + 141), .ref (b0 + 142), .ref (b0 + 143), .ref (b0 + 144), .ref (b0 + 145), .int 0, .ref (b0 + 146), .ref (b0 + 147), .ref (b0 + 148), .int 0, .ref (b0 + 149), .ref (b0 + 150), .ref (b0 + 151), .ref (b0 + 152), .ref (b0 + 153), .null, .null, .null, .null, .int 0, .int 0, .null, .int 0]))) 155 H := hP.to (fun j hj => by
    by_cases j1 : j = 154
    · subst j1; exact oc_sm.of rfl
    exact oc_sm.of (va_up_ne _ _ j1))
  refine oc_put (ci := 5) (C := RX5) (T := TX5) (N := 31) (v := .ref (b0 + 154)) (fs := [.int 0, .ref (b0 + 137), .int 0, .int 0, .int 0, .ref (b0 + 138), .ref (b0 + 139), .ref (b0 + 140), .ref (b0 + 141), .ref (b0 + 142), .ref (b0 + 143), .ref (b0 + 144), .ref (b0 + 145), .int 0, .ref (b0 + 146), .ref (b0 + 147), .ref (b0 + 148), .int 0, .ref (b0 + 149), .ref (b0 + 150), .ref (b0 + 151), .ref (b0 + 152), .ref (b0 + 153), .null, .null, .null, .null, .int 0, .int 0, .null, .int 0]) hx hb hts inX5 tyX5 tyX5_ok nmX5 hown hE.1 hP hS (136) (by omega) (va_up_self _ _ _) rfl 23 (by decide) (hts _ tw_638) hname rfl rfl rfl (Nat.le_of_ble_eq_true rfl) dX5_init_144 (fun H locs hP hS => ?_)
  rw [oc_upup] at hP
  have hP : oc_P D b0 (va_up (oc_fin ca b0) 136 (.inr (5, [.int 0, .ref (b0 + 137), .int 0, .int 0, .int 0, .ref (b0 + 138), .ref (b0 + 139), .ref (b0 + 140), .ref (b0 + 141), .ref (b0 + 142), .ref (b0 + 143), .ref (b0 + 144), .ref (b0 + 145), .int 0, .ref (b0 + 146), .ref (b0 + 147), .ref (b0 + 148), .int 0, .ref (b0 + 149), .ref (b0 + 150), .ref (b0 + 151), .ref (b0 + 152), .ref (b0 + 153), .ref (b0 + 154), .null, .null, .null, .int 0, .int 0, .null, .int 0]))) 155 H := hP
  refine lv_aload_n hx hb dX5_init_147 rfl (lv_at hl 0 rfl) ?_
  refine lv_iconst (v := (3 : Int32)) hx hb dX5_init_148 (by decide) ?_
  refine oc_newa (atype := .boolean) (a0 := (3, .inl (fun _ => 0))) (N' := 3) hx hb (hts _ tw_709) rfl hE.1 hP hS 2 rfl (fun C h => by cases h) (fun _ => rfl) (by decide) (by decide) (by decide) (by decide) (by decide) dX5_init_149 (fun H hP hS => ?_)
  have hP : oc_P D b0 (va_up (oc_fin ca b0) 136 (.inr (5, [.int 0, .ref (b0 + 137), .int 0, .int 0, .int 0, .ref (b0 + 138), .ref (b0 + 139), .ref (b0 + 140), .ref (b0 + 141), .ref (b0 + 142), .ref (b0 + 143), .ref (b0 + 144), .ref (b0 + 145), .int 0, .ref (b0 + 146), .ref (b0 + 147), .ref (b0 + 148), .int 0, .ref (b0 + 149), .ref (b0 + 150), .ref (b0 + 151), .ref (b0 + 152), .ref (b0 + 153), .ref (b0 + 154), .null, .null, .null, .int 0, .int 0, .null, .int 0]))) 156 H := hP.to (fun j hj => by
    by_cases j1 : j = 155
    · subst j1; exact oc_sm.of rfl
    exact oc_sm.of (va_up_ne _ _ j1))
  refine oc_put (ci := 5) (C := RX5) (T := TX5) (N := 31) (v := .ref (b0 + 155)) (fs := [.int 0, .ref (b0 + 137), .int 0, .int 0, .int 0, .ref (b0 + 138), .ref (b0 + 139), .ref (b0 + 140), .ref (b0 + 141), .ref (b0 + 142), .ref (b0 + 143), .ref (b0 + 144), .ref (b0 + 145), .int 0, .ref (b0 + 146), .ref (b0 + 147), .ref (b0 + 148), .int 0, .ref (b0 + 149), .ref (b0 + 150), .ref (b0 + 151), .ref (b0 + 152), .ref (b0 + 153), .ref (b0 + 154), .null, .null, .null, .int 0, .int 0, .null, .int 0]) hx hb hts inX5 tyX5 tyX5_ok nmX5 hown hE.1 hP hS (136) (by omega) (va_up_self _ _ _) rfl 24 (by decide) (hts _ tw_639) hname rfl rfl rfl (Nat.le_of_ble_eq_true rfl) dX5_init_151 (fun H locs hP hS => ?_)
  rw [oc_upup] at hP
  have hP : oc_P D b0 (va_up (oc_fin ca b0) 136 (.inr (5, [.int 0, .ref (b0 + 137), .int 0, .int 0, .int 0, .ref (b0 + 138), .ref (b0 + 139), .ref (b0 + 140), .ref (b0 + 141), .ref (b0 + 142), .ref (b0 + 143), .ref (b0 + 144), .ref (b0 + 145), .int 0, .ref (b0 + 146), .ref (b0 + 147), .ref (b0 + 148), .int 0, .ref (b0 + 149), .ref (b0 + 150), .ref (b0 + 151), .ref (b0 + 152), .ref (b0 + 153), .ref (b0 + 154), .ref (b0 + 155), .null, .null, .int 0, .int 0, .null, .int 0]))) 156 H := hP
  refine lv_aload_n hx hb dX5_init_154 rfl (lv_at hl 0 rfl) ?_
  refine lv_bipush (v := (21 : Int32)) hx hb dX5_init_155 (by decide) ?_
  refine oc_newa (atype := .int) (a0 := (21, .inl (fun _ => 0))) (N' := 21) hx hb (hts _ tw_120) rfl hE.1 hP hS 1 rfl (fun C h => by cases h) (fun _ => rfl) (by decide) (by decide) (by decide) (by decide) (by decide) dX5_init_157 (fun H hP hS => ?_)
  have hP : oc_P D b0 (va_up (oc_fin ca b0) 136 (.inr (5, [.int 0, .ref (b0 + 137), .int 0, .int 0, .int 0, .ref (b0 + 138), .ref (b0 + 139), .ref (b0 + 140), .ref (b0 + 141), .ref (b0 + 142), .ref (b0 + 143), .ref (b0 + 144), .ref (b0 + 145), .int 0, .ref (b0 + 146), .ref (b0 + 147), .ref (b0 + 148), .int 0, .ref (b0 + 149), .ref (b0 + 150), .ref (b0 + 151), .ref (b0 + 152), .ref (b0 + 153), .ref (b0 + 154), .ref (b0 + 155), .null, .null, .int 0, .int 0, .null, .int 0]))) 157 H := hP.to (fun j hj => by
    by_cases j1 : j = 156
    · subst j1; exact oc_sm.of rfl
    exact oc_sm.of (va_up_ne _ _ j1))
  refine oc_put (ci := 5) (C := RX5) (T := TX5) (N := 31) (v := .ref (b0 + 156)) (fs := [.int 0, .ref (b0 + 137), .int 0, .int 0, .int 0, .ref (b0 + 138), .ref (b0 + 139), .ref (b0 + 140), .ref (b0 + 141), .ref (b0 + 142), .ref (b0 + 143), .ref (b0 + 144), .ref (b0 + 145), .int 0, .ref (b0 + 146), .ref (b0 + 147), .ref (b0 + 148), .int 0, .ref (b0 + 149), .ref (b0 + 150), .ref (b0 + 151), .ref (b0 + 152), .ref (b0 + 153), .ref (b0 + 154), .ref (b0 + 155), .null, .null, .int 0, .int 0, .null, .int 0]) hx hb hts inX5 tyX5 tyX5_ok nmX5 hown hE.1 hP hS (136) (by omega) (va_up_self _ _ _) rfl 25 (by decide) (hts _ tw_640) hname rfl rfl rfl (Nat.le_of_ble_eq_true rfl) dX5_init_159 (fun H locs hP hS => ?_)
  rw [oc_upup] at hP
  have hP : oc_P D b0 (va_up (oc_fin ca b0) 136 (.inr (5, [.int 0, .ref (b0 + 137), .int 0, .int 0, .int 0, .ref (b0 + 138), .ref (b0 + 139), .ref (b0 + 140), .ref (b0 + 141), .ref (b0 + 142), .ref (b0 + 143), .ref (b0 + 144), .ref (b0 + 145), .int 0, .ref (b0 + 146), .ref (b0 + 147), .ref (b0 + 148), .int 0, .ref (b0 + 149), .ref (b0 + 150), .ref (b0 + 151), .ref (b0 + 152), .ref (b0 + 153), .ref (b0 + 154), .ref (b0 + 155), .ref (b0 + 156), .null, .int 0, .int 0, .null, .int 0]))) 157 H := hP
  refine lv_aload_n hx hb dX5_init_162 rfl (lv_at hl 0 rfl) ?_
  refine lv_bipush (v := (64 : Int32)) hx hb dX5_init_163 (by decide) ?_
  refine oc_newa (atype := .int) (a0 := (64, .inl (fun _ => 0))) (N' := 64) hx hb (hts _ tw_120) rfl hE.1 hP hS 1 rfl (fun C h => by cases h) (fun _ => rfl) (by decide) (by decide) (by decide) (by decide) (by decide) dX5_init_165 (fun H hP hS => ?_)
  have hP : oc_P D b0 (va_up (oc_fin ca b0) 136 (.inr (5, [.int 0, .ref (b0 + 137), .int 0, .int 0, .int 0, .ref (b0 + 138), .ref (b0 + 139), .ref (b0 + 140), .ref (b0 + 141), .ref (b0 + 142), .ref (b0 + 143), .ref (b0 + 144), .ref (b0 + 145), .int 0, .ref (b0 + 146), .ref (b0 + 147), .ref (b0 + 148), .int 0, .ref (b0 + 149), .ref (b0 + 150), .ref (b0 + 151), .ref (b0 + 152), .ref (b0 + 153), .ref (b0 + 154), .ref (b0 + 155), .ref (b0 + 156), .null, .int 0, .int 0, .null, .int 0]))) 158 H := hP.to (fun j hj => by
    by_cases j1 : j = 157
    · subst j1; exact oc_sm.of rfl
    exact oc_sm.of (va_up_ne _ _ j1))
  refine oc_put (ci := 5) (C := RX5) (T := TX5) (N := 31) (v := .ref (b0 + 157)) (fs := [.int 0, .ref (b0 + 137), .int 0, .int 0, .int 0, .ref (b0 + 138), .ref (b0 + 139), .ref (b0 + 140), .ref (b0 + 141), .ref (b0 + 142), .ref (b0 + 143), .ref (b0 + 144), .ref (b0 + 145), .int 0, .ref (b0 + 146), .ref (b0 + 147), .ref (b0 + 148), .int 0, .ref (b0 + 149), .ref (b0 + 150), .ref (b0 + 151), .ref (b0 + 152), .ref (b0 + 153), .ref (b0 + 154), .ref (b0 + 155), .ref (b0 + 156), .null, .int 0, .int 0, .null, .int 0]) hx hb hts inX5 tyX5 tyX5_ok nmX5 hown hE.1 hP hS (136) (by omega) (va_up_self _ _ _) rfl 26 (by decide) (hts _ tw_641) hname rfl rfl rfl (Nat.le_of_ble_eq_true rfl) dX5_init_167 (fun H locs hP hS => ?_)
  rw [oc_upup] at hP
  have hP : oc_P D b0 (va_up (oc_fin ca b0) 136 (.inr (5, [.int 0, .ref (b0 + 137), .int 0, .int 0, .int 0, .ref (b0 + 138), .ref (b0 + 139), .ref (b0 + 140), .ref (b0 + 141), .ref (b0 + 142), .ref (b0 + 143), .ref (b0 + 144), .ref (b0 + 145), .int 0, .ref (b0 + 146), .ref (b0 + 147), .ref (b0 + 148), .int 0, .ref (b0 + 149), .ref (b0 + 150), .ref (b0 + 151), .ref (b0 + 152), .ref (b0 + 153), .ref (b0 + 154), .ref (b0 + 155), .ref (b0 + 156), .ref (b0 + 157), .int 0, .int 0, .null, .int 0]))) 158 H := hP
  refine lv_aload_n hx hb dX5_init_170 rfl (lv_at hl 0 rfl) ?_
  refine lv_iconst (v := (-1 : Int32)) hx hb dX5_init_171 (by decide) ?_
  refine oc_put (ci := 5) (C := RX5) (T := TX5) (N := 31) (v := .int (-1)) (fs := [.int 0, .ref (b0 + 137), .int 0, .int 0, .int 0, .ref (b0 + 138), .ref (b0 + 139), .ref (b0 + 140), .ref (b0 + 141), .ref (b0 + 142), .ref (b0 + 143), .ref (b0 + 144), .ref (b0 + 145), .int 0, .ref (b0 + 146), .ref (b0 + 147), .ref (b0 + 148), .int 0, .ref (b0 + 149), .ref (b0 + 150), .ref (b0 + 151), .ref (b0 + 152), .ref (b0 + 153), .ref (b0 + 154), .ref (b0 + 155), .ref (b0 + 156), .ref (b0 + 157), .int 0, .int 0, .null, .int 0]) hx hb hts inX5 tyX5 tyX5_ok nmX5 hown hE.1 hP hS (136) (by omega) (va_up_self _ _ _) rfl 27 (by decide) (hts _ tw_642) hname rfl rfl rfl (Nat.le_of_ble_eq_true rfl) dX5_init_172 (fun H locs hP hS => ?_)
  rw [oc_upup] at hP
  have hP : oc_P D b0 (va_up (oc_fin ca b0) 136 (.inr (5, [.int 0, .ref (b0 + 137), .int 0, .int 0, .int 0, .ref (b0 + 138), .ref (b0 + 139), .ref (b0 + 140), .ref (b0 + 141), .ref (b0 + 142), .ref (b0 + 143), .ref (b0 + 144), .ref (b0 + 145), .int 0, .ref (b0 + 146), .ref (b0 + 147), .ref (b0 + 148), .int 0, .ref (b0 + 149), .ref (b0 + 150), .ref (b0 + 151), .ref (b0 + 152), .ref (b0 + 153), .ref (b0 + 154), .ref (b0 + 155), .ref (b0 + 156), .ref (b0 + 157), .int (-1), .int 0, .null, .int 0]))) 158 H := hP
  refine lv_aload_n hx hb dX5_init_175 rfl (lv_at hl 0 rfl) ?_
  refine lv_bipush (v := (40 : Int32)) hx hb dX5_init_176 (by decide) ?_
  refine oc_newa (atype := .char) (a0 := (40, .inl (fun _ => 0))) (N' := 40) hx hb (hts _ tw_83) rfl hE.1 hP hS 0 rfl (fun C h => by cases h) (fun _ => rfl) (by decide) (by decide) (by decide) (by decide) (by decide) dX5_init_178 (fun H hP hS => ?_)
  have hP : oc_P D b0 (va_up (oc_fin ca b0) 136 (.inr (5, [.int 0, .ref (b0 + 137), .int 0, .int 0, .int 0, .ref (b0 + 138), .ref (b0 + 139), .ref (b0 + 140), .ref (b0 + 141), .ref (b0 + 142), .ref (b0 + 143), .ref (b0 + 144), .ref (b0 + 145), .int 0, .ref (b0 + 146), .ref (b0 + 147), .ref (b0 + 148), .int 0, .ref (b0 + 149), .ref (b0 + 150), .ref (b0 + 151), .ref (b0 + 152), .ref (b0 + 153), .ref (b0 + 154), .ref (b0 + 155), .ref (b0 + 156), .ref (b0 + 157), .int (-1), .int 0, .null, .int 0]))) 159 H := hP.to (fun j hj => by
    by_cases j1 : j = 158
    · subst j1; exact oc_sm.of rfl
    exact oc_sm.of (va_up_ne _ _ j1))
  refine oc_put (ci := 5) (C := RX5) (T := TX5) (N := 31) (v := .ref (b0 + 158)) (fs := [.int 0, .ref (b0 + 137), .int 0, .int 0, .int 0, .ref (b0 + 138), .ref (b0 + 139), .ref (b0 + 140), .ref (b0 + 141), .ref (b0 + 142), .ref (b0 + 143), .ref (b0 + 144), .ref (b0 + 145), .int 0, .ref (b0 + 146), .ref (b0 + 147), .ref (b0 + 148), .int 0, .ref (b0 + 149), .ref (b0 + 150), .ref (b0 + 151), .ref (b0 + 152), .ref (b0 + 153), .ref (b0 + 154), .ref (b0 + 155), .ref (b0 + 156), .ref (b0 + 157), .int (-1), .int 0, .null, .int 0]) hx hb hts inX5 tyX5 tyX5_ok nmX5 hown hE.1 hP hS (136) (by omega) (va_up_self _ _ _) rfl 29 (by decide) (hts _ tw_644) hname rfl rfl rfl (Nat.le_of_ble_eq_true rfl) dX5_init_180 (fun H locs hP hS => ?_)
  rw [oc_upup] at hP
  have hP : oc_P D b0 (va_up (oc_fin ca b0) 136 (.inr (5, [.int 0, .ref (b0 + 137), .int 0, .int 0, .int 0, .ref (b0 + 138), .ref (b0 + 139), .ref (b0 + 140), .ref (b0 + 141), .ref (b0 + 142), .ref (b0 + 143), .ref (b0 + 144), .ref (b0 + 145), .int 0, .ref (b0 + 146), .ref (b0 + 147), .ref (b0 + 148), .int 0, .ref (b0 + 149), .ref (b0 + 150), .ref (b0 + 151), .ref (b0 + 152), .ref (b0 + 153), .ref (b0 + 154), .ref (b0 + 155), .ref (b0 + 156), .ref (b0 + 157), .int (-1), .int 0, .ref (b0 + 158), .int 0]))) 159 H := hP
  refine oc_ret hx hb hr hlocks hS hP (fun j hj => ?_) dX5_init_183
  by_cases j0 : j = 136
  · subst j0; exact oc_sm.of rfl
  exact oc_sm.of (va_up_ne _ _ j0)

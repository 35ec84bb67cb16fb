theorem tw_58 : (Cond.classLink RL 8 "OpcodeAtlas") ∈ oa_T := oa_mem (i := 58) (by decide +kernel) (by decide +kernel)
theorem tw_59 : (Cond.instantiable RX4 9) ∈ oa_T := oa_mem (i := 59) (by decide +kernel) (by decide +kernel)
theorem tw_60 : (Cond.methodLink RL 48 yX4_init) ∈ oa_T := oa_mem (i := 60) (by decide +kernel) (by decide +kernel)
theorem tw_61 : (Cond.instanceMethod yX4_init) ∈ oa_T := oa_mem (i := 61) (by decide +kernel) (by decide +kernel)
theorem tw_62 : (Cond.code yX4_init cX4_init 2 none) ∈ oa_T := oa_mem (i := 62) (by decide +kernel) (by decide +kernel)
theorem tw_609 : (Cond.classLink RL 49 "OpcodeAtlasModel") ∈ oa_T := oa_mem (i := 609) (by decide +kernel) (by decide +kernel)
theorem tw_610 : (Cond.instantiable RX5 31) ∈ oa_T := oa_mem (i := 610) (by decide +kernel) (by decide +kernel)
theorem tw_611 : (Cond.methodLink RL 51 yX5_init) ∈ oa_T := oa_mem (i := 611) (by decide +kernel) (by decide +kernel)
theorem tw_612 : (Cond.instanceMethod yX5_init) ∈ oa_T := oa_mem (i := 612) (by decide +kernel) (by decide +kernel)
theorem tw_613 : (Cond.code yX5_init cX5_init 1 none) ∈ oa_T := oa_mem (i := 613) (by decide +kernel) (by decide +kernel)
theorem tw_878 : (Cond.arrayClass .long) ∈ oa_T := oa_mem (i := 878) (by decide +kernel) (by decide +kernel)
theorem os_in : ∀ i, i < 6 → True := fun _ _ => trivial
theorem os_str : ∀ q ∈ oa_str, Cond.stringRef q.1 q.2.1 q.2.2 ∈ lw_tbl ∧ q.1 = RX4 := by decide +kernel
theorem os_dn : ∀ n ∈ oa_dn, Cond.declares ⟨n, "<init>", "(Ljava/lang/String;)V"⟩ ∈ lw_tbl := by decide +kernel
theorem os_cn : ∀ n ∈ oa_cn, Cond.castable n n ∈ lw_tbl := by decide +kernel
theorem os_ncl : ∀ q ∈ oa_ncl, Cond.not (.castable q.1 q.2) ∈ flatC (Jvm.Cond.and given_1 narrow_1) := by decide +kernel
theorem os_nest : ∀ q ∈ oc_nest, Cond.methodLinkNest q.1 q.2.1 q.2.2 RX4 ∈ lw_tbl := by decide +kernel
theorem os_ao : ∀ C ∈ oc_ao, Cond.arrayOver (.object C) ∈ lw_tbl := by decide +kernel
theorem os_st1 : Cond.isRef (.static Bundle.tN "UNASSIGNED_STACK" Bundle.steD) ∈ flatC (Jvm.Cond.and given_1 narrow_1) := by decide +kernel
theorem os_st2 : Cond.isRef (.static Bundle.tN "SUPPRESSED_SENTINEL" Bundle.listD) ∈ flatC (Jvm.Cond.and given_1 narrow_1) := by decide +kernel
theorem os_ls1 : Cond.laysStatic Bundle.tN "UNASSIGNED_STACK" Bundle.steD ∈ lw_tbl := by decide +kernel
theorem os_ls2 : Cond.laysStatic Bundle.tN "SUPPRESSED_SENTINEL" Bundle.listD ∈ lw_tbl := by decide +kernel
theorem os_lsi : Cond.initialized Bundle.tN ∈ lw_tbl := by decide +kernel
theorem os_tbl {w : Cond} (h : w ∈ oa_T) : w ∈ lw_tbl := (List.mem_filter.mp h).1
theorem os_arr {s : State} {args : Array Value} {ty : FieldType} (h : (Cond.arrayClass ty).before args s = true) (hno : ∀ C, ty ≠ .object C) : ∃ c : ClassId, ArrOfT s c ty ∧ va_RA s c ty := by
  obtain ⟨c, k, comp, h1, h2, h3⟩ := Cond.arrayClass_spec h
  refine ⟨c, fun n z => ⟨fun k h => (by cases h), k, h2, comp, h3⟩, ?_⟩
  unfold va_RA
  split
  · exact absurd rfl (hno _)
  · exact h1
theorem os_arro {s : State} {C : String} (h : va_AO C s) : ∃ c : ClassId, ArrOfT s c (.object C) ∧ va_RA s c (.object C) := by
  obtain ⟨comp, c, k, h1, -, h3, h4, h5⟩ := Cond.arrayOver_spec h
  exact ⟨c, fun n z => ⟨fun k h => (by cases h), k, h3, comp, h4⟩, k, comp, h3, h4, h1, h5⟩
set_option maxHeartbeats 4000000 in
set_option maxRecDepth 100000 in
theorem os_E {p : Program} {s : State} {m : MethodId} {meth : Method} {c : Code} {b L : Nat} {xs : Nat → Int32} (C0 : lw_At p s m meth c b L xs) : ∃ (D : va_G) (ca : Nat → ClassId), oc_E D ca s.heap.size s := by
  obtain ⟨hx, hb, hr, hml, hown, hts, hX, hbl, hlocks, hgv⟩ := id C0
  have hg := flat_of_before _ hgv
  have hto : ∀ w ∈ oa_T, w.before #[Value.ref b] s = true := fun w h => hts w (os_tbl h)
  obtain ⟨c0, iS0, hKn0⟩ := u_known (C := RX0) (T := TX0) (N := 6) (n := 6) hto inX0 (hto _ tw_86)
  obtain ⟨c1, iS1, hKn1⟩ := u_known (C := RX1) (T := TX1) (N := 7) (n := 7) hto inX1 (hto _ tw_147)
  obtain ⟨c2, iS2, hKn2⟩ := u_known (C := RX2) (T := TX2) (N := 5) (n := 5) hto inX2 (hto _ tw_93)
  obtain ⟨c3, iS3, hKn3⟩ := u_known (C := RX3) (T := TX3) (N := 3) (n := 3) hto inX3 (hto _ tw_67)
  obtain ⟨c4, iS4, hKn4⟩ := u_known (C := RX4) (T := TX4) (N := 9) (n := 9) hto inX4 (hto _ tw_59)
  obtain ⟨c5, iS5, hKn5⟩ := u_known (C := RX5) (T := TX5) (N := 31) (n := 31) hto inX5 (hto _ tw_610)
  have hao : ∀ C ∈ oc_ao, va_AO C s := fun C hC => va_AO.of (hts _ (os_ao C hC))
  obtain ⟨a0, ha0⟩ := os_arr (hto _ tw_83) (fun C h => by cases h)
  obtain ⟨a1, ha1⟩ := os_arr (hto _ tw_120) (fun C h => by cases h)
  obtain ⟨a2, ha2⟩ := os_arr (hto _ tw_709) (fun C h => by cases h)
  obtain ⟨a3, ha3⟩ := os_arro (hao RX0 (by decide))
  obtain ⟨a4, ha4⟩ := os_arro (hao RX1 (by decide))
  obtain ⟨a5, ha5⟩ := os_arro (hao RX2 (by decide))
  obtain ⟨a6, ha6⟩ := os_arr (hto _ tw_878) (fun C h => by cases h)
  have hA : ∀ a : Nat, a < s.heap.size → ¬ (fun q : Nat => s.heap.size ≤ q) a := fun a h => Nat.not_le.mpr h
  refine ⟨(fun k => [c0, c1, c2, c3, c4, c5].getD k c0, fun k => [iS0, iS1, iS2, iS3, iS4, iS5].getD k iS0), fun k => [a0, a1, a2, a3, a4, a5, a6].getD k a0, ⟨⟨?_, ?_⟩, Nat.le_refl _, vx_Zqof (hts _ os_ls1) (hts _ os_lsi) (hg _ os_st1) hA, vx_Zqof (hts _ os_ls2) (hts _ os_lsi) (hg _ os_st2) hA, ?_, fun n hn => va_Nw.of rfl (hts _ (os_dn n hn)), fun n hn => va_Nw.of rfl (hts _ (os_cn n hn)), fun q hq => va_Nc.of (hg _ (os_ncl q hq))⟩, fun q hq => va_Nw.of rfl (hts _ (os_nest q hq)), hao⟩
  · intro k q hq
    rcases Nat.lt_or_ge k 6 with hk | hk
    · rcases (show k = 0 ∨ k = 1 ∨ k = 2 ∨ k = 3 ∨ k = 4 ∨ k = 5 by omega) with rfl | rfl | rfl | rfl | rfl | rfl
      · cases hq; exact hKn0
      · cases hq; exact hKn1
      · cases hq; exact hKn2
      · cases hq; exact hKn3
      · cases hq; exact hKn4
      · cases hq; exact hKn5
    · have : k < 6 := (List.getElem?_eq_some_iff.mp hq).1
      omega
  · intro k q hq
    rcases Nat.lt_or_ge k 7 with hk | hk
    · rcases (show k = 0 ∨ k = 1 ∨ k = 2 ∨ k = 3 ∨ k = 4 ∨ k = 5 ∨ k = 6 by omega) with rfl | rfl | rfl | rfl | rfl | rfl | rfl
      · cases hq; exact ha0
      · cases hq; exact ha1
      · cases hq; exact ha2
      · cases hq; exact ha3
      · cases hq; exact ha4
      · cases hq; exact ha5
      · cases hq; exact ha6
    · have : k < 7 := (List.getElem?_eq_some_iff.mp hq).1
      omega
  · intro q hq
    obtain ⟨hm, ho⟩ := os_str q hq
    have h1 := hts _ hm
    obtain ⟨-, -, -, a, -, -, -, -, -, hev⟩ := Cond.stringRef_spec (by rw [ho]; exact hKn4.2.1) h1
    exact ⟨a, vk_R.of h1 hev⟩
set_option maxHeartbeats 4000000 in
set_option maxRecDepth 100000 in
theorem os_start {p : Program} {e : Env} {s : State} {m : MethodId} {below : List Frame} {meth : Method} {c : Code} (l : Launch) (hl0 : l.stackTraces = false) {b L : Nat} {xs : Nat → Int32} (hL : L ≤ 288) (C0 : lw_At p s m meth c b L xs) {I : oa_M → Prop} (hsim : oa_Sim I) (hI0 : I oc_M0) : W p l e room_1 s m #[Value.ref b] below meth c s.heap [] 0 0 (lw_Z below #[Value.ref b] s) (entryFrame m ([Value.ref b] : List Value).toArray 7) := by
  obtain ⟨D, ca, hE⟩ := os_E C0
  obtain ⟨hx, hb, hr, hml, hown, hts0, hX, hbl, hlocks, hgv⟩ := id C0
  have hts : ∀ w ∈ oa_T, w.before #[Value.ref b] s = true := fun w h => hts0 w (os_tbl h)
  have hS : va_S (fun q => s.heap.size ≤ q) s.heap s.heap [] := va_S.rf
  have hbz : ∃ b0 : Nat, b0 = s.heap.size := ⟨_, rfl⟩
  obtain ⟨b0, hb0⟩ := hbz
  rw [← hb0] at hE
  have hS : va_S (fun q => b0 ≤ q) s.heap s.heap [] := va_S.rf
  have hP : oc_P D b0 (oc_fin ca b0) 0 s.heap := ⟨hb0.symm, fun j hj => absurd hj (Nat.not_lt_zero _)⟩
  have hl := lv_entry ([.ref b]) (n := 7) (Nat.le_of_ble_eq_true rfl)
  rw [lg_entry_eq]
  generalize (lg_sl ([.ref b]) ++ List.replicate (7 - (lg_sl ([.ref b])).length) Slot.unset).toArray = ls at hl ⊢
  have hl : lv_has ls 7 [(0, .ref b)] := hl
  refine oc_new (ci := 4) (fs := [.null, .null, .null, .null, .null, .int 0, .int 0, .int 0, .int 0]) (C := RX4) (T := TX4) (N := 9) hx hb hts inX4 tyX4 tyX4_ok hown (hts _ tw_58) (hts _ tw_59) (hts _ tw_44) hE.1 hP hS rfl (fun j hj => by rcases (show j = 0 ∨ j = 1 ∨ j = 2 ∨ j = 3 ∨ j = 4 ∨ j = 5 ∨ j = 6 ∨ j = 7 ∨ j = 8 by omega) with rfl | rfl | rfl | rfl | rfl | rfl | rfl | rfl | rfl <;> rfl) (Nat.le_of_ble_eq_true rfl) (Nat.le_of_ble_eq_true rfl) dL_law_0 (fun H hP hS => ?_)
  refine lv_dup hx hb dL_law_3 rfl ?_
  refine oc_callI (rest := [.ref (b0 + 0)]) ⟨hx, hb, hml, hown, hts⟩ (oc_atlas l D ca b0) (oa_gw tw_62) rfl rfl (hts _ tw_60) (hts _ tw_44) (hts _ tw_61) rfl (by decide +kernel) ⟨Nat.le_of_ble_eq_true rfl, Nat.le_of_ble_eq_true rfl⟩ hE hP hS hl.1 rfl (Nat.le_of_ble_eq_true rfl) dL_law_4 ⟨Nat.le_of_ble_eq_true rfl, Nat.le_of_ble_eq_true rfl⟩ (fun H locs hP hS => ?_)
  refine lv_astore_n (lv' := [(1, .ref (b0 + 0)), (0, .ref b)]) hx hb dL_law_7 rfl hl (by decide) rfl (fun ls hl => ?_)
  refine oc_new (ci := 5) (fs := [.int 0, .null, .int 0, .int 0, .int 0, .null, .null, .null, .null, .null, .null, .null, .null, .int 0, .null, .null, .null, .int 0, .null, .null, .null, .null, .null, .null, .null, .null, .null, .int 0, .int 0, .null, .int 0]) (C := RX5) (T := TX5) (N := 31) hx hb hts inX5 tyX5 tyX5_ok hown (hts _ tw_609) (hts _ tw_610) (hts _ tw_49) hE.1 hP hS rfl (fun j hj => by rcases (show j = 0 ∨ j = 1 ∨ j = 2 ∨ j = 3 ∨ j = 4 ∨ j = 5 ∨ j = 6 ∨ j = 7 ∨ j = 8 ∨ j = 9 ∨ j = 10 ∨ j = 11 ∨ j = 12 ∨ j = 13 ∨ j = 14 ∨ j = 15 ∨ j = 16 ∨ j = 17 ∨ j = 18 ∨ j = 19 ∨ j = 20 ∨ j = 21 ∨ j = 22 ∨ j = 23 ∨ j = 24 ∨ j = 25 ∨ j = 26 ∨ j = 27 ∨ j = 28 ∨ j = 29 ∨ j = 30 by omega) with rfl | rfl | rfl | rfl | rfl | rfl | rfl | rfl | rfl | rfl | rfl | rfl | rfl | rfl | rfl | rfl | rfl | rfl | rfl | rfl | rfl | rfl | rfl | rfl | rfl | rfl | rfl | rfl | rfl | rfl | rfl <;> rfl) (Nat.le_of_ble_eq_true rfl) (Nat.le_of_ble_eq_true rfl) dL_law_8 (fun H hP hS => ?_)
  refine lv_dup hx hb dL_law_11 rfl ?_
  refine oc_callI (rest := [.ref (b0 + 136)]) ⟨hx, hb, hml, hown, hts⟩ (oc_model l D ca b0) (oa_gw tw_613) rfl rfl (hts _ tw_611) (hts _ tw_49) (hts _ tw_612) rfl (by decide +kernel) ⟨Nat.le_of_ble_eq_true rfl, Nat.le_of_ble_eq_true rfl⟩ hE hP hS hl.1 rfl (Nat.le_of_ble_eq_true rfl) dL_law_12 ⟨Nat.le_of_ble_eq_true rfl, Nat.le_of_ble_eq_true rfl⟩ (fun H locs hP hS => ?_)
  refine lv_astore_n (lv' := [(2, .ref (b0 + 136)), (1, .ref (b0 + 0)), (0, .ref b)]) hx hb dL_law_15 rfl hl (by decide) rfl (fun ls hl => ?_)
  refine lv_iconst (v := (1 : Int32)) hx hb dL_law_16 (by decide) ?_
  refine oc_newa (atype := .long) (a0 := (1, .inr (.inl (fun _ => 0)))) (N' := 1) hx hb (hts _ tw_878) rfl hE.1 hP hS 6 rfl (fun C h => by cases h) (fun _ => rfl) (by decide) (by decide) (by decide) (Nat.le_of_ble_eq_true rfl) (Nat.le_of_ble_eq_true rfl) dL_law_17 (fun H hP hS => ?_)
  refine lv_astore_n (lv' := [(3, .ref (b0 + 159)), (2, .ref (b0 + 136)), (1, .ref (b0 + 0)), (0, .ref b)]) hx hb dL_law_19 rfl hl (by decide) rfl (fun ls hl => ?_)
  refine lv_iconst (v := (0 : Int32)) hx hb dL_law_20 (by decide) ?_
  refine lv_istore (lv' := [(4, .int (0 : Int32)), (3, .ref (b0 + 159)), (2, .ref (b0 + 136)), (1, .ref (b0 + 0)), (0, .ref b)]) hx hb dL_law_21 hl (by decide) rfl (fun ls hl => ?_)
  have hP : oc_P D b0 (oc_fin ca b0) 160 H := hP.to (fun j hj => by
    by_cases j1 : j = 159
    · subst j1; exact oc_sm.of rfl
    exact oc_sm.of (va_up_ne _ _ j1))
  refine W.widen (k := 3000 + 3 * 0) (n := 30000 + 18 * 0) (Nat.le_of_ble_eq_true rfl) (Nat.le_of_ble_eq_true rfl) ?_
  exact lw_loop hL ⟨hx, hb, hr, hml, hown, hts, hX, hbl, hlocks, hE.1, oc_W b0, hb0, hl0⟩ hsim 49 0 (by decide) (by decide) 0 nI_0.symm _ (oc_W b0) oc_M0 hI0 H _ (oc_done hP) hS ls (lv_sub hl [4, 3, 2, 1, 0] rfl)

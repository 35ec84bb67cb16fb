/-! assemble: both sides -/
theorem os_fnd_none {p : Nat → Bool} : ∀ {r i : Nat}, os_fnd p r i = none → ∀ k, i ≤ k → k < i + r → p k = false
  | 0, i, _, k, h1, h2 => by omega
  | r + 1, i, h, k, h1, h2 => by
    simp only [os_fnd] at h
    by_cases hp : p i = true
    · rw [if_pos hp] at h
      cases h
    · rw [if_neg hp] at h
      by_cases e : k = i
      · subst e
        simpa using hp
      · exact os_fnd_none h k (by omega) (by omega)
theorem os_img_out {mem : Nat → Nat} {bt : Nat → Nat} {fm : Nat → Option Nat} {org : Nat} {W : Nat → Nat → Nat → Bool} : ∀ k j, ¬ (org ≤ j ∧ j < org + os_sum bt fm k) → os_img mem bt fm org W k j = mem j
  | 0, j, _ => rfl
  | k + 1, j, h => by
    cases hf : fm k with
    | none =>
      simp only [os_img, hf]
      exact os_img_out k j (by rw [os_sum_none hf] at h; exact h)
    | some f =>
      have hs := os_sum_some (bt := bt) hf
      simp only [os_img, hf]
      rw [if_neg (by omega)]
      exact os_img_out k j (by omega)
theorem os_img_lt {mem : Nat → Nat} {bt : Nat → Nat} {fm : Nat → Option Nat} {org : Nat} {W : Nat → Nat → Nat → Bool} {j : Nat} (hm : mem j < 256) : ∀ k, os_img mem bt fm org W k j < 256
  | 0 => hm
  | k + 1 => by
    cases hf : fm k with
    | none =>
      simp only [os_img, hf]
      exact os_img_lt hm k
    | some f =>
      simp only [os_img, hf]
      split
      · exact os_byte_lt _ _
      · exact os_img_lt hm k
/-- the invariant, where assembling has written -/
theorem os_Ias {M M' : oa_M} {len : Nat} {c : Nat → Nat} {size : Nat} {mem' : Nat → Nat} {nf nl : Nat} (hT : os_Txt M len c) (hO : os_Out M size) (hC : os_Cn M nf nl) (hF : os_Fs M nf) (hL : os_Ls M nl) (hM' : os_Mem M' mem') (h7 : M' 0 0 7 = M' 20 0 27) (hk : ∀ k i f, ¬ os_dyn k f → ¬ (k = 20 ∧ i = 0 ∧ f = 27) → M' k i f = M k i f) : os_I M' := by
  obtain ⟨c1, c2, c3, c4, c5, c6⟩ := hC
  have e : ∀ k i f, ¬ ((k = 9 ∧ (f = 5 ∨ f = 6)) ∨ k = 3 ∨ k = 45 ∨ k = 46 ∨ k = 36 ∨ (k = 20 ∧ f = 30) ∨ k = 50 ∨ (k = 0 ∧ f = 7)) → ¬ (k = 20 ∧ i = 0 ∧ f = 27) → M' k i f = M k i f := hk
  refine ⟨len, c, size, mem', nf, nl, hT.co (e _ _ _ (by omega) (by omega)) (e _ _ _ (by omega) (by omega)) (e _ _ _ (by omega) (by omega)) (fun j => e _ _ _ (by omega) (by omega)) (fun j => e _ _ _ (by omega) (by omega)), hO.co (e _ _ _ (by omega) (by omega)) (e _ _ _ (by omega) (by omega)) (fun j => e _ _ _ (by omega) (by omega)) (fun j => e _ _ _ (by omega) (by omega)), hM', ⟨c1, c2, ⟨?_, ?_⟩, ⟨?_, ?_⟩, h7, ?_, ?_⟩, hF.co (fun k i f hf => e _ _ _ (by omega) (by omega)), hL.co (fun k i f hf => e _ _ _ (by omega) (by omega)) (fun i f hf => e _ _ _ (by omega) (by omega))⟩
  · rw [e _ _ _ (by omega) (by omega)]; exact c3.1
  · rw [e _ _ _ (by omega) (by omega)]; exact c3.2
  · rw [e _ _ _ (by omega) (by omega)]; exact c4.1
  · rw [e _ _ _ (by omega) (by omega)]; exact c4.2
  · rw [e _ _ _ (by omega) (by omega), e _ _ _ (by omega) (by omega)]; exact c6.1
  · rw [e _ _ _ (by omega) (by omega)]; exact c6.2
theorem os_S12 : oa_S12 os_I := by
  intro x M hI
  obtain ⟨len, c, size, mem, nf, nl, hT, hO, hM, hC, hF, hL⟩ := id hI
  have hC5 := hC.2.2.2.2.1
  rcases os_ready hC with ⟨r1, r2⟩ | ⟨r1, r2⟩
  · refine ⟨0, 0, 1, M, 0, oa_up M 20 0 30 1, ?_, ?_, os_up1, fun h => absurd h (by decide), hI.up (by unfold os_free; omega) _⟩
    · unfold FL_assemble FX4_assemble FX4_requireReady
      rw [if_pos r1]
      rfl
    · unfold FX5_assemble BX5_assemble_13
      rw [if_pos r2, if_neg (by decide)]
  obtain ⟨bt, oc, sg, L, ms, fm, nm, hA⟩ := os_Apick hC hF hL
  obtain ⟨⟨a1, a2⟩, ⟨a3, a4⟩, aF, aO, aL, aN, aY, aM⟩ := id hA
  obtain ⟨M1, p1, p2, p3, p4⟩ := os_cchoose hA nl 0 1000 M none (os_eqS.rfl' M) (by omega) (by omega) (fun b h => by cases h) (fun k hk => by omega)
  have hms : ∀ b, os_mss M nl ms nm fm nl 0 = some b → b < 2 ^ 31 := fun b h => by
    unfold os_mss at h
    cases h1 : os_fnd (os_nof nm fm) nl 0 with
    | some k =>
      rw [h1] at h
      have := os_fnd_lt _ _ _ _ h1
      cases h
      omega
    | none =>
      rw [h1] at h
      have := os_fnd_lt _ _ _ _ h
      omega
  have ec : FX4_assemble 1000 x M = BX4_assemble_19 1000 x (os_bi (os_mss M nl ms nm fm nl 0)) M1 := by
    unfold FX4_assemble FX4_requireReady
    rw [if_neg r1, ob_x0, show FX4_chooseForms 1000 M = _ from p1, ob_d]
    have hul := os_cul hA p2 nl 0 1000 (by omega) (by omega)
    unfold os_mss
    cases h1 : os_fnd (os_nof nm fm) nl 0 with
    | some k =>
      have := os_fnd_lt _ _ _ _ h1
      exact if_neg (show ¬ os_bi (some k) = (-1 : Int32) from on_ltm1 (by omega))
    | none =>
      rw [show (os_bi (match (none : Option Nat) with | some k => some k | none => none)) = (-1 : Int32) from rfl, if_pos rfl, show FX4_firstWithUnknownLabel 1000 M1 = _ from hul, ob_d]
  have em : ∀ Mx, os_eqS M (oa_up Mx 20 0 30 0) → FX5_assemble 1000 x Mx = (if os_bi (os_mss M nl ms nm fm nl 0) < 0 then BX5_assemble_51 1000 x (os_bi (os_mss M nl ms nm fm nl 0)) 0 0 (oa_up Mx 20 0 30 0) else some (0, oa_up (oa_up (oa_up Mx 20 0 30 0) 20 0 27 (os_bi (os_mss M nl ms nm fm nl 0))) 20 0 30 2)) := fun Mx hx => by
    have h13 : Mx 20 0 13 = M 20 0 13 := by
      have := hx 20 0 13 (by unfold os_dyn; omega)
      rw [os_up (by decide)] at this
      exact this
    unfold FX5_assemble BX5_assemble_13
    rw [h13, if_neg r2, if_pos rfl, show FX5_missing 1000 (oa_up Mx 20 0 30 0) = _ from os_mmiss hA hx nl 0 1000 (by omega) (by omega), ob_d]
  cases hmi : os_mss M nl ms nm fm nl 0 with
  | some b =>
    rw [hmi] at ec em
    have hb := hms b hmi
    have hS : os_eqS M (oa_up (oa_up M1 0 0 7 (nI b)) 20 0 30 0) := (p2.up (by unfold os_dyn; omega) _).up (by unfold os_dyn; omega) _
    refine ⟨1000, 1000, 2, oa_up M1 0 0 7 (nI b), 0, _, ?_, (em (oa_up M1 0 0 7 (nI b)) hS).trans (if_neg (nI_pos hb)), os_up1, fun h => absurd h (by decide), os_Ias (mem' := mem) hT hO hC hF hL (hM.co (fun j => ?_) (fun j => ?_)) ?_ (fun k i f h1 h2 => ?_)⟩
    · unfold FL_assemble
      rw [ec]
      unfold BX4_assemble_19
      rw [if_neg (show ¬ os_bi (some b) = (-1 : Int32) from on_ltm1 hb)]
      rfl
    · rw [os_up (by omega), os_up (by omega), os_up (by omega), os_up (by omega), p3 _ _ _ (by omega)]
    · rw [os_up (by omega), os_up (by omega), os_up (by omega), os_up (by omega), p3 _ _ _ (by omega)]
    · rw [os_up (by omega), os_up (by omega), os_up (by omega), os_up1, os_up (by omega), os_up1]
      rfl
    · rw [os_up (fun q => h1 (by unfold os_dyn; omega)), os_up h2]
      exact hS k i f h1
  | none =>
    rw [hmi] at ec em
    have hn1 : os_fnd (os_nof nm fm) nl 0 = none := by
      unfold os_mss at hmi
      cases h1 : os_fnd (os_nof nm fm) nl 0 with
      | some k => rw [h1] at hmi; cases hmi
      | none => rfl
    have hn2 : os_fnd (os_ul M nl ms) nl 0 = none := by
      unfold os_mss at hmi
      rw [hn1] at hmi
      exact hmi
    have hnof : ∀ k, k < nl → os_nof nm fm k = false := fun k hk => os_fnd_none hn1 k (by omega) (by omega)
    have hul : ∀ k, k < nl → ∀ o, o < ms k → os_badl M nl k o = false := fun k hk o ho => by
      have h1 := os_fnd_none hn2 k (by omega) (by omega)
      unfold os_ul at h1
      cases h2 : os_fnd (os_badl M nl k) (ms k) 0 with
      | some b => rw [h2] at h1; cases h1
      | none => exact os_fnd_none h2 o (by omega) (by omega)
    have hS60 := os_sum60 hA nl (Nat.le_refl _)
    have em2 : ∀ Mx, os_eqS M (oa_up Mx 20 0 30 0) → ∃ My, FX5_assemble 1000 x Mx = BX5_assemble_51 (999 - nl + 1) x (-1) (nI (os_sum bt fm nl)) (nI nl) My ∧ (∀ k i f, ¬ k = 45 → ¬ (k = 20 ∧ i = 0 ∧ f = 30) → My k i f = Mx k i f) ∧ (∀ j, j < nl → My 45 0 j = nI (os_sum bt fm j)) ∧ os_eqS M My := fun Mx hx => by
      obtain ⟨My, g1, g2, g3⟩ := os_mlens hA hnof x (-1) (999 - nl + 1) (by omega) nl 0 _ hx (by omega) (fun j hj => by omega)
      rw [show 999 - nl + 1 + nl = 1000 by omega] at g1
      refine ⟨My, ?_, fun k i f h1 h2 => by rw [g2 k i f h1]; exact os_up h2, g3, fun k i f h => by rw [g2 k i f (fun q => h (by unfold os_dyn; omega))]; exact hx k i f h⟩
      rw [em Mx hx, if_pos (show os_bi none < 0 from by decide)]
      exact g1
    have bad : ∀ Mx : oa_M, FX4_assemble 1000 x M = some (3, 0, Mx) → os_eqS M Mx → (∀ k i f, ¬ (k = 9 ∧ (f = 5 ∨ f = 6)) → Mx k i f = M k i f) → (∀ My, My 20 0 17 = nI nl → BX5_assemble_51 (999 - nl + 1) x (-1) (nI (os_sum bt fm nl)) (nI nl) My = some (0, oa_up My 20 0 30 3)) → ∃ (n n' : Nat) (k : Int32) (M1 : oa_M) (b : Int32) (M2 : oa_M), FL_assemble n x M = some (k, M1) ∧ FX5_assemble n' x M1 = some (b, M2) ∧ M2 20 0 30 = k ∧ (k = 0 → M2 50 0 0 = b) ∧ os_I M2 := fun Mx h1 h2 h3 h4 => by
      obtain ⟨My, g1, g2, g3, g4⟩ := em2 Mx (h2.up (by unfold os_dyn; omega) _)
      refine ⟨1000, 1000, 3, Mx, 0, oa_up My 20 0 30 3, ?_, ?_, os_up1, fun h => absurd h (by decide), os_Ias (mem' := mem) hT hO hC hF hL (hM.co (fun j => ?_) (fun j => ?_)) ?_ (fun k i f h1 h2 => ?_)⟩
      · unfold FL_assemble
        rw [h1]
        rfl
      · rw [g1, h4 My (by rw [g4 _ _ _ (by unfold os_dyn; omega)]; exact a4)]
      · rw [os_up (by omega), g2 _ _ _ (by omega) (by omega), h3 _ _ _ (by omega)]
      · rw [os_up (by omega), g2 _ _ _ (by omega) (by omega), h3 _ _ _ (by omega)]
      · rw [os_up (by omega), os_up (by omega), g2 _ _ _ (by omega) (by omega), g2 _ _ _ (by omega) (by omega), h3 _ _ _ (by omega), h3 _ _ _ (by omega)]
        exact hC5
      · rw [os_up (fun q => h1 (by unfold os_dyn; omega))]
        exact g4 k i f h1
    rcases os_addr x with ⟨org, ho, rfl⟩ | hx
    · obtain ⟨M2, q1, q2, q3, q4⟩ := os_cplace hA (org := org) (nI org) nl 0 1000 M1 p2 (by omega) (by omega) p4 (fun k hk => by omega)
      have q6 : ∀ k, k < nl → M2 9 k 6 = os_bi (fm k) := fun k hk => by rw [q3 _ _ _ (by omega)]; exact p4 k hk
      have q7 : ∀ k i f, ¬ (k = 9 ∧ (f = 5 ∨ f = 6)) → M2 k i f = M k i f := fun k i f h => by rw [q3 _ _ _ (by omega), p3 _ _ _ (by omega)]
      have ec2 : FX4_assemble 1000 (nI org) M = (if nI (org + os_sum bt fm nl) ≤ (64 : Int32) then oa_bd (FX4_firstUnfit 1000 M2) (fun r13 M14 => (if r13 = (-1 : Int32) then (oa_bv (FX4_putLines 1000 M14) (fun M18 => (some (0, (nI (org + os_sum bt fm nl) - nI org), M18)))) else (some (1, 0, (oa_up M14 0 0 7 r13))))) else some (3, 0, M2)) := by
        rw [ec]
        unfold BX4_assemble_19
        rw [if_pos (show os_bi none = (-1 : Int32) from rfl), os_ra 1000 ho, ob_x0, show FX4_placeLines 1000 (nI org) M1 = _ from q1, ob_d]
      have em3 : ∀ My, My 20 0 17 = nI nl → BX5_assemble_51 (999 - nl + 1) (nI org) (-1) (nI (os_sum bt fm nl)) (nI nl) My = (if nI (org + os_sum bt fm nl) ≤ (64 : Int32) then BX5_assemble_156 (999 - nl) (nI org) (-1) (nI (os_sum bt fm nl)) 0 (oa_up My 20 0 30 0) else some (0, oa_up My 20 0 30 3)) := fun My h17 => by
        rw [BX5_assemble_51, h17, if_pos (nI_le (Nat.le_refl _) (by omega)), os_out63 _ ho, ob_d, if_pos rfl, nI_add]
        unfold BX5_assemble_136 BX5_assemble_141
        rw [if_pos rfl, if_neg (show ¬ (3 : Int32) = 0 from by decide)]
      by_cases h64 : org + os_sum bt fm nl ≤ 64
      · have hle : nI (org + os_sum bt fm nl) ≤ (64 : Int32) := nI_le (b := 64) h64 (by decide)
        rw [if_pos hle, show FX4_firstUnfit 1000 M2 = _ from os_cunfit hA q2 q4 q6 nl 0 1000 (by omega) (by omega), ob_d] at ec2
        have em4 : ∀ Mx, os_eqS M (oa_up Mx 20 0 30 0) → ∃ My, FX5_assemble 1000 (nI org) Mx = BX5_assemble_185 (998 - nl - nl) (nI org) (-1) (nI (os_sum bt fm nl)) 0 My ∧ (∀ k i f, ¬ k = 45 → ¬ (k = 20 ∧ i = 0 ∧ f = 30) → My k i f = Mx k i f) ∧ My 20 0 30 = 0 ∧ (∀ j, j < nl → My 45 0 j = nI (org + os_sum bt fm j)) ∧ os_eqS M My := fun Mx hx => by
          obtain ⟨My, g1, g2, g3, g4⟩ := em2 Mx hx
          rw [em3 My (by rw [g4 _ _ _ (by unfold os_dyn; omega)]; exact a4), if_pos hle] at g1
          have g5 : os_eqS M (oa_up My 20 0 30 0) := g4.up (by unfold os_dyn; omega) _
          obtain ⟨Mz, k1, k2, k3⟩ := os_mplace hA (org := org) (-1) (nI (os_sum bt fm nl)) (998 - nl - nl) nl 0 _ g5 (by omega) (fun j hj => by
            rw [os_up (by omega), g3 j hj, if_neg (by omega)])
          rw [show 998 - nl - nl + nl + 1 = 999 - nl by omega] at k1
          refine ⟨Mz, g1.trans k1, fun k i f h1 h2 => by rw [k2 k i f h1, os_up h2]; exact g2 k i f h1 h2, by rw [k2 _ _ _ (by omega)]; exact os_up1, k3, fun k i f h => by rw [k2 k i f (fun q => h (by unfold os_dyn; omega))]; exact g5 k i f h⟩
        cases hu : os_fnd (os_uf M nl bt sg fm ms org) nl 0 with
        | some b =>
          have hb := os_fnd_lt _ _ _ _ hu
          rw [hu, if_neg (show ¬ os_bi (some b) = (-1 : Int32) from on_ltm1 (by omega))] at ec2
          obtain ⟨My, g1, g2, g3, g4, g5⟩ := em4 (oa_up M2 0 0 7 (nI b)) ((q2.up (by unfold os_dyn; omega) _).up (by unfold os_dyn; omega) _)
          obtain ⟨Mz, k1, k2, k3⟩ := os_mlines hA mem h64 hnof hul (-1) (nI (os_sum bt fm nl)) (997 - nl - nl - nl) (by omega) nl 0 My g5 (by omega) g4 (fun j h1 h2 => by
            have : os_sum bt fm 0 = 0 := rfl
            omega)
          rw [show 997 - nl - nl - nl + nl + 1 = 998 - nl - nl by omega, hu] at k1
          have e7 : ∀ k i f, ¬ k = 45 → ¬ k = 46 → ¬ (k = 20 ∧ i = 0 ∧ f = 30) → Mz k i f = oa_up M2 0 0 7 (nI b) k i f := fun k i f h1 h2 h3 => by rw [k2 k i f h2, g2 k i f h1 h3]
          refine ⟨1000, 1000, 4, oa_up M2 0 0 7 (nI b), 0, oa_up (oa_up Mz 20 0 27 (nI b)) 20 0 30 4, ?_, g1.trans k1, os_up1, fun h => absurd h (by decide), os_Ias (mem' := mem) hT hO hC hF hL (hM.co (fun j => ?_) (fun j => ?_)) ?_ (fun k i f h1 h2 => ?_)⟩
          · unfold FL_assemble
            rw [ec2]
            rfl
          · rw [os_up (by omega), os_up (by omega), e7 _ _ _ (by omega) (by omega) (by omega), os_up (by omega), q7 _ _ _ (by omega)]
          · rw [os_up (by omega), os_up (by omega), e7 _ _ _ (by omega) (by omega) (by omega), os_up (by omega), q7 _ _ _ (by omega)]
          · rw [os_up (by omega), os_up (by omega), os_up (by omega), os_up1, e7 _ _ _ (by omega) (by omega) (by omega), os_up1]
          · rw [os_up (fun q => h1 (by unfold os_dyn; omega)), os_up h2, k2 k i f (fun q => h1 (by unfold os_dyn; omega))]
            exact g5 k i f h1
        | none =>
          rw [hu, if_pos (show os_bi none = (-1 : Int32) from rfl)] at ec2
          obtain ⟨M3, t1, t2, t3⟩ := os_cput hA (org := org) mem h64 nl 0 1000 M2 q2 (by omega) (by omega) q4 q6 (fun j hj => by
            rw [q7 _ _ _ (by omega)]
            exact (hM j hj).1)
          rw [show FX4_putLines 1000 M2 = _ from t1, ob_v, on_sub (by omega), show org + os_sum bt fm nl - org = os_sum bt fm nl by omega] at ec2
          have t4 : os_eqS M M3 := fun k i f h => by
            rw [t2 k i f (fun q => h (by unfold os_dyn; omega))]
            exact q2 k i f h
          obtain ⟨My, g1, g2, g3, g4, g5⟩ := em4 (oa_up M3 50 0 0 (nI (os_sum bt fm nl))) ((t4.up (by unfold os_dyn; omega) _).up (by unfold os_dyn; omega) _)
          obtain ⟨Mz, k1, k2, k3⟩ := os_mlines hA mem h64 hnof hul (-1) (nI (os_sum bt fm nl)) (997 - nl - nl - nl) (by omega) nl 0 My g5 (by omega) g4 (fun j h1 h2 => by
            have : os_sum bt fm 0 = 0 := rfl
            omega)
          rw [show 997 - nl - nl - nl + nl + 1 = 998 - nl - nl by omega, hu] at k1
          have k3 := k3 hu
          obtain ⟨Mw, w1, w2, w3⟩ := os_mcopy h64 (-1) (os_sum bt fm nl) org (997 - nl - nl - nl) Mz (by omega) (by omega)
          have e7 : ∀ k i f, ¬ k = 45 → ¬ k = 46 → ¬ k = 36 → ¬ (k = 20 ∧ i = 0 ∧ f = 30) → Mw k i f = oa_up M3 50 0 0 (nI (os_sum bt fm nl)) k i f := fun k i f h1 h2 h3 h4 => by rw [w2 k i f (by omega), k2 k i f h2, g2 k i f h1 h4]
          refine ⟨1000, 1000, 0, oa_up M3 50 0 0 (nI (os_sum bt fm nl)), nI (os_sum bt fm nl), Mw, ?_, (g1.trans k1).trans w1, ?_, fun _ => ?_, os_Ias (mem' := os_img mem bt fm org (fun k f => os_Wc M nl bt sg fm org k f (ms k)) nl) hT hO hC hF hL (fun j hj => ⟨?_, ?_, os_img_lt (hM j hj).2.2 nl⟩) ?_ (fun k i f h1 h2 => ?_)⟩
          · unfold FL_assemble
            rw [ec2]
            rfl
          · rw [w2 _ _ _ (by omega), k2 _ _ _ (by omega), g3]
          · rw [e7 _ _ _ (by omega) (by omega) (by omega) (by omega)]
            exact os_up1
          · rw [e7 _ _ _ (by omega) (by omega) (by omega) (by omega), os_up (by omega)]
            exact t3 j hj
          · by_cases hin : org ≤ j ∧ j < org + os_sum bt fm nl
            · rw [w3 j hin.1 hin.2]
              exact k3 j hin.1 hin.2
            · rw [w2 _ _ _ (by omega), k2 _ _ _ (by omega), g2 _ _ _ (by omega) (by omega), os_up (by omega), t2 _ _ _ (by omega), q7 _ _ _ (by omega), os_img_out nl j hin]
              exact (hM j hj).2.1
          · rw [e7 _ _ _ (by omega) (by omega) (by omega) (by omega), e7 _ _ _ (by omega) (by omega) (by omega) (by omega), os_up (by omega), os_up (by omega), t2 _ _ _ (by omega), t2 _ _ _ (by omega), q7 _ _ _ (by omega), q7 _ _ _ (by omega)]
            exact hC5
          · rw [w2 _ _ _ (fun q => h1 (by unfold os_dyn; omega)), k2 k i f (fun q => h1 (by unfold os_dyn; omega))]
            exact g5 k i f h1
      · have hle : ¬ nI (org + os_sum bt fm nl) ≤ (64 : Int32) := nI_ge (a := 64) (by omega) (by omega)
        rw [if_neg hle] at ec2
        exact bad M2 ec2 q2 q7 (fun My h17 => by rw [em3 My h17, if_neg hle])
    · refine bad M1 ?_ p2 (fun k i f h => p3 k i f (by omega)) (fun My h17 => ?_)
      · rw [ec]
        unfold BX4_assemble_19
        rw [if_pos (show os_bi none = (-1 : Int32) from rfl), os_ran 1000 hx]
        rfl
      · rw [BX5_assemble_51, h17, if_pos (nI_le (Nat.le_refl _) (by omega)), os_out63n _ hx, ob_d, if_neg (by decide)]
        unfold BX5_assemble_136 BX5_assemble_141
        rw [if_neg (by decide)]

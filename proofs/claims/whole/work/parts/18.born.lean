/-! how the cells come to be: the addresses in the order of making -/
def oc_off (k i : Nat) : Nat := match k with
  | 0 => 0
  | 1 => 1 + 2 * i
  | 2 => 2 + 2 * i
  | 3 => 5
  | 4 => 6
  | 5 => 7 + 5 * i
  | 6 => 8 + 5 * i
  | 7 => 9 + 5 * (i / 3) + i % 3
  | 8 => 72
  | 9 => 73 + 3 * i
  | 10 => 74 + 3 * i
  | 11 => 75 + 3 * i
  | 20 => 136
  | 21 => 137
  | 25 => 138
  | 26 => 139
  | 27 => 140
  | 28 => 141
  | 29 => 142
  | 30 => 143
  | 31 => 144
  | 32 => 145
  | 34 => 146
  | 35 => 147
  | 36 => 148
  | 38 => 149
  | 39 => 150
  | 40 => 151
  | 41 => 152
  | 42 => 153
  | 43 => 154
  | 44 => 155
  | 45 => 156
  | 46 => 157
  | 49 => 158
  | 50 => 159
  | _ => 0
def oc_ad (b0 : Nat) (k i : Nat) : Nat := b0 + oc_off k i
def oc_tail : List Nat := [20, 21, 25, 26, 27, 28, 29, 30, 31, 32, 34, 35, 36, 38, 39, 40, 41, 42, 43, 44, 45, 46, 49, 50]
def oc_inv (j : Nat) : Nat × Nat :=
  if j = 0 then (0, 0) else if j < 5 then (if j % 2 = 1 then (1, (j - 1) / 2) else (2, (j - 2) / 2))
  else if j = 5 then (3, 0) else if j = 6 then (4, 0)
  else if j < 72 then (if (j - 7) % 5 = 0 then (5, (j - 7) / 5) else if (j - 7) % 5 = 1 then (6, (j - 7) / 5) else (7, 3 * ((j - 7) / 5) + ((j - 7) % 5 - 2)))
  else if j = 72 then (8, 0) else if j < 136 then (9 + (j - 73) % 3, (j - 73) / 3) else (oc_tail.getD (j - 136) 0, 0)
theorem oc_invoff : ∀ k, k < 51 → ∀ i, i < oa_n k → oc_inv (oc_off k i) = (k, i) ∧ oc_off k i < 160 := by decide +kernel
theorem oc_nbig {k : Nat} (h : 51 ≤ k) : oa_n k = 0 := by
  unfold oa_n
  split <;> first | rfl | omega
theorem oc_k {k i : Nat} (h : i < oa_n k) : k < 51 := by
  rcases Nat.lt_or_ge k 51 with q | q
  · exact q
  · rw [oc_nbig q] at h
    exact absurd h (Nat.not_lt_zero _)
theorem oc_W (b0 : Nat) : oa_W (oc_ad b0) b0 := by
  refine ⟨fun k i k' i' h h' e => ?_, fun k i _ => Nat.le_add_right _ _⟩
  have e2 : oc_off k i = oc_off k' i' := Nat.add_left_cancel e
  have h1 := (oc_invoff k (oc_k h) i h).1
  have h2 := (oc_invoff k' (oc_k h') i' h').1
  rw [e2, h2] at h1
  exact ⟨(Prod.mk.inj h1).1.symm, (Prod.mk.inj h1).2.symm⟩
/-- a new pair's numbers -/
def oc_M0 : oa_M := fun k => match k with
  | 0 => fun _ f => if f = 7 then -1 else 0
  | 7 => fun _ f => if f = 3 then 1 else 0
  | 9 => fun _ f => if f = 6 then -1 else 0
  | 20 => fun _ f => if f = 27 then -1 else 0
  | _ => fun _ _ => 0
def oc_fin (ca : Nat → ClassId) (b0 j : Nat) : va_E := oa_cr ca (oc_ad b0) (oc_inv j).1 (oc_inv j).2 (oc_M0 (oc_inv j).1 (oc_inv j).2)
theorem oc_fin_at (ca : Nat → ClassId) (b0 : Nat) {j k i : Nat} (h : oc_inv j = (k, i)) : oc_fin ca b0 j = oa_cr ca (oc_ad b0) k i (oc_M0 k i) := by
  unfold oc_fin
  rw [h]
/-- the cells made so far: n of them, behind b0 -/
def oc_P (D : va_G) (b0 : Nat) (f : Nat → va_E) (n : Nat) (H : Heap) : Prop := H.size = b0 + n ∧ ∀ j, j < n → va_at D vwCl (b0 + j, f j) H
theorem oc_done {D : va_G} {ca : Nat → ClassId} {b0 : Nat} {H : Heap} (h : oc_P D b0 (oc_fin ca b0) 160 H) : oa_H D ca (oc_ad b0) oc_M0 H := by
  intro k i hi
  obtain ⟨e1, e2⟩ := oc_invoff k (oc_k hi) i hi
  have h1 := h.2 _ e2
  rw [oc_fin_at ca b0 e1] at h1
  exact h1
def oc_sm (e e' : va_E) : Prop := ∀ (D : va_G) (a : Nat) (H : Heap), va_at D vwCl (a, e) H → va_at D vwCl (a, e') H
theorem oc_sm.of {e e' : va_E} (h : e = e') : oc_sm e e' := fun _ _ _ q => by rw [← h]; exact q
theorem oc_sm.arr {cA : ClassId} {n : Nat} {f g : Nat → Option Nat} (h : ∀ j, j < n → f j = g j) : oc_sm (.inl (cA, n, .inr (.inr (.inr (.inr f))))) (.inl (cA, n, .inr (.inr (.inr (.inr g))))) := by
  intro D a H q
  have q1 : H[a]? = some (vp_cell cA (n, .inr (.inr (.inr (.inr f))))) := q
  show H[a]? = some (vp_cell cA (n, .inr (.inr (.inr (.inr g)))))
  rw [q1, vp_cell_q, vp_cell_q]
  unfold arrV
  congr 2
  refine Array.ext (by simp) (fun i h1 h2 => ?_)
  simp only [Array.size_ofFn] at h1
  simp only [Array.getElem_ofFn]
  rw [h i h1]
theorem oc_P.to {D : va_G} {b0 n : Nat} {f g : Nat → va_E} {H : Heap} (h : oc_P D b0 f n H) (hs : ∀ j, j < n → oc_sm (f j) (g j)) : oc_P D b0 g n H := ⟨h.1, fun j hj => hs j hj D _ H (h.2 j hj)⟩
theorem oc_P.at1 {D : va_G} {b0 n : Nat} {f : Nat → va_E} {H : Heap} (h : oc_P D b0 f n H) {k : Nat} (hk : k < n) {e : va_E} (he : f k = e) : va_P D vwCl [(b0 + k, e)] H := by
  intro j q hq
  have hj : j < 1 := (List.getElem?_eq_some_iff.mp hq).1
  rw [show j = 0 by omega] at hq
  cases hq
  rw [← he]
  exact h.2 k hk
theorem oc_P.put {D : va_G} {b0 n : Nat} {f : Nat → va_E} {H H1 : Heap} (h : oc_P D b0 f n H) {k : Nat} {e : va_E} (he : va_at D vwCl (b0 + k, e) H1) (z : H1.size = H.size) (oq : ∀ q : Nat, q ≠ b0 + k → H1[q]? = H[q]?) : oc_P D b0 (va_up f k e) n H1 := by
  refine ⟨z.trans h.1, fun j hj => ?_⟩
  by_cases hq : j = k
  · subst hq
    rw [va_up_self]
    exact he
  · rw [va_up_ne _ _ hq]
    exact (h.2 j hj).kept (oq _ (by show b0 + j ≠ b0 + k; omega))
theorem oc_P.push {D : va_G} {b0 n : Nat} {f : Nat → va_E} {H H1 : Heap} (h : oc_P D b0 f n H) {e : va_E} (he : va_at D vwCl (b0 + n, e) H1) (z : H1.size = b0 + n + 1) (oq : ∀ q : Nat, q < b0 + n → H1[q]? = H[q]?) : oc_P D b0 (va_up f n e) (n + 1) H1 := by
  refine ⟨z, fun j hj => ?_⟩
  by_cases hq : j = n
  · subst hq
    rw [va_up_self]
    exact he
  · rw [va_up_ne _ _ hq]
    exact (h.2 j (by omega)).kept (oq _ (by show b0 + j < b0 + n; omega))
def oc_nest : List (String × Nat × MethodName) := [(RX4, 9, yX3_init), (RX4, 36, yX1_init), (RX0, 17, yX2_init)]
def oc_ao : List String := [RX0, RX1, RX2]
def oc_E (D : va_G) (ca : Nat → ClassId) (b0 : Nat) (U : State) : Prop := oa_E D ca b0 U ∧ (∀ q ∈ oc_nest, va_Nw (.methodLinkNest q.1 q.2.1 q.2.2 RX4) U) ∧ ∀ C ∈ oc_ao, va_AO C U
theorem oc_E.call {D : va_G} {ca : Nat → ClassId} {b0 : Nat} {s U : State} {H : Heap} {locs : List Loc} (h : oc_E D ca b0 s) (hS : va_S (fun q => b0 ≤ q) s.heap H locs) (hU : U.heap = H) (hW : s.WarmedH U.vm) : oc_E D ca b0 U :=
  ⟨h.1.call hS hU hW, fun q hq => va_Nw.warmM hW (h.2.1 q hq), fun C hC => va_AO.moved hW.alike (h.2.2 C hC)⟩
def oc_B (D : va_G) (ca : Nat → ClassId) (b0 : Nat) (f : Nat → va_E) (n : Nat) (U : State) : Prop := oc_P D b0 f n U.heap ∧ oc_E D ca b0 U
theorem oc_blind (D : va_G) (ca : Nat → ClassId) (b0 : Nat) (f : Nat → va_E) (n : Nat) (av : List Value) : FrameBlind (va_Pc av (oc_B D ca b0 f n)) := by
  intro a U g mk q
  obtain ⟨q0, q1, ⟨q2, q3, q4, q5, q6, q7, q8, q9⟩, q10, q11⟩ := q
  exact ⟨q0, q1, ⟨va_K.moved (u := U) (U := U.calling g mk a) (Vm.Alike.refl U.vm) q2, q3, vx_Zq.moved (u := U) (U := U.calling g mk a) (Vm.Alike.refl U.vm) q4, vx_Zq.moved (u := U) (U := U.calling g mk a) (Vm.Alike.refl U.vm) q5, fun z hz => by
    obtain ⟨sa, hsa⟩ := q6 z hz
    exact ⟨sa, vk_R.warm (s := U) (U := U.calling g mk a) (State.WarmedH.refl U) hsa⟩, fun n hn => va_Nw.warmD (s := U) (U := U.calling g mk a) (State.WarmedH.refl U) (q7 n hn), fun n hn => va_Nw.warmC (s := U) (U := U.calling g mk a) (State.WarmedH.refl U) (q8 n hn), fun z hz => va_Nc.moved (u := U) (U := U.calling g mk a) (Vm.Alike.refl U.vm) (q9 z hz)⟩, fun z hz => va_Nw.warmM (s := U) (U := U.calling g mk a) (State.WarmedH.refl U) (q10 z hz), fun C hC => va_AO.moved (u := U) (U := U.calling g mk a) (Vm.Alike.refl U.vm) (q11 C hC)⟩
/-- a constructor's contract -/
def oc_Met (l : Launch) (y : MethodName) (ws : List Cond) (rm : Room) (D : va_G) (ca : Nat → ClassId) (b0 k : Nat) (f : Nat → va_E) (n : Nat) (g : Nat → va_E) (n' mc ms : Nat) : Prop :=
  Met l y ws rm (va_Pc [.ref (b0 + k)] (oc_B D ca b0 f n)) (va_Qv (fun _ : Unit => True) (fun _ t => oc_P D b0 g n' t.heap) (fun q => b0 ≤ q)) mc ms (fun q => b0 ≤ q)
theorem oc_ofW {l : Launch} {y : MethodName} {ws ws' : List Cond} {rm : Room} {cc : ByteArray} {maxL : Nat} {av : List Value} {Pb : State → Prop} {Qc : Array Value → State → Outcome → State → Prop} {mc ms : Nat} {free : Addr → Prop} (hy : plainName y.cls = true) (hw : ws = Cond.code y cc maxL none :: ws') (hlen : (lg_sl av).length ≤ maxL)
    (body : ∀ p e s m below meth c, p.tables.exec = Jvm.exec → c.code = cc → c.maxLocals = maxL → meth.sig.returnType = none → meth.locks = false → s.vm.findClass y.cls = some m.cls → meth.name = y.name → (∀ w ∈ ws, w.before av.toArray s = true) → Pb s → ∀ ls, lv_has ls maxL (lv_args 0 av) →
      W p l e rm s m av.toArray below meth c s.heap [] 0 0 (MQ below Qc av.toArray s mc ms free) (F0 m 0 ls [])) : Met l y ws rm (va_Pc av Pb) Qc mc ms free := by
  refine Met.ofW (cc := cc) (maxL := maxL) (ret := none) hy hw ?_
  intro p e s m args below meth c s₁ B hml hv
  obtain ⟨rfl, hP⟩ := hv
  rw [lg_entry_eq]
  exact body p e s m below meth c B.exec B.bytes hml B.returns B.notSynchronized (findClass_of_methodNamed B.named) (name_of_methodNamed B.named B.method).1 (atoms_spec (ws := ws) B.pre) hP _ (lv_entry av hlen)
section OCR
variable {p : Program} {l : Launch} {e : Env} {R : Room} {s : State} {m : MethodId} {args : Array Value} {below : List Frame} {meth : Method} {c : Code} {H : Heap} {locs : List Loc} {cells slots : Nat} {Q : State → Prop}
variable {cc : ByteArray} {pc : Nat} {ls : Array Slot} {rest : List Value} {D : va_G} {ca : Nat → ClassId} {b0 : Nat} {f : Nat → va_E} {n : Nat}
theorem oc_A (hE : oa_E D ca b0 s) (hS : va_S (fun q => b0 ≤ q) s.heap H locs) {H1 : Heap} (z : H.size ≤ H1.size) (o1 : ∀ q : Nat, q < H.size → H1[q]? = H[q]?) : va_S (fun q => b0 ≤ q) s.heap H1 locs :=
  ⟨Nat.le_trans hS.1 z, fun x h1 h2 => (o1 x (Nat.lt_of_lt_of_le h1 hS.1)).trans (hS.2.1 x h1 h2), hS.2.2⟩
theorem oc_new (hexec : p.tables.exec = Jvm.exec) (hb : c.code = cc) {own C : String} {T : u_T} {N ci index : Nat} {Ts : List Cond} (hts : ∀ w ∈ Ts, w.before args s = true) (hin : ∀ w ∈ u_ws C T N, w ∈ Ts) (ty : Nat → FieldType) (hty : ∀ k, k < N → parseFieldDescriptor (T k).2.2.1 = some (ty k)) (hown : s.vm.findClass own = some m.cls) (hcl : (Cond.classLink own index C).before args s = true) (hinst : (Cond.instantiable C N).before args s = true) (hini : (Cond.initialized C).before args s = true)
    (hE : oa_E D ca b0 s) (hP : oc_P D b0 f n H) (hS : va_S (fun q => b0 ≤ q) s.heap H locs) (hc : vwCl[ci]? = some (C, T, N)) {fs : List Value} (hfs : ∀ j, j < N → defaultValue (ty j) = vp_V fs j) (hcells : cells + 1 ≤ R.cells) (hslots : slots + N ≤ R.slots) (hdg : decode cc pc = .ok (.new index, 3))
    (kk : ∀ (H1 : Heap), oc_P D b0 (va_up f n (.inr (ci, fs))) (n + 1) H1 → va_S (fun q => b0 ≤ q) s.heap H1 locs → W p l e R s m args below meth c H1 locs (cells + 1) (slots + N) Q (F0 m (pc + 3) ls (.ref (b0 + n) :: rest))) : W p l e R s m args below meth c H locs cells slots Q (F0 m pc ls rest) := by
  have hKn := hE.1.1 ci _ hc
  refine W.newcK hexec hb hown hcl hinst hini rfl hdg hcells hslots hKn.2.1 hP.1 fun H1 kC hkC e1 z1 o1 => ?_
  refine kk H1 (hP.push ⟨_, hc, (u_born ty hts hin hKn hkC e1 hty).to hfs⟩ z1 o1) (oc_A hE hS (by rw [hP.1, z1]; omega) (by rw [hP.1]; exact o1))
theorem oc_newa (hexec : p.tables.exec = Jvm.exec) (hb : c.code = cc) {atype : ArrayType} (harr : (Cond.arrayClass (newarray.typeOf atype)).before args s = true) {ty : FieldType} (hty : newarray.typeOf atype = ty) (hE : oa_E D ca b0 s) (hP : oc_P D b0 f n H) (hS : va_S (fun q => b0 ≤ q) s.heap H locs) (t : Nat) (ht : (oa_ty ca)[t]? = some (ca t, ty)) (hno : ∀ C, ty ≠ .object C)
    {x : Int32} {N' : Nat} {a0 : vp_A} (ha : ∀ cA : ClassId, vp_cell cA a0 = arrV cA N' (fun _ => defaultValue ty)) (hn : ¬ x < 0) (hN : x.toNatClampNeg = N') (hbytes : N' * componentBytes ty ≤ 536870912) (hcells : cells + 1 ≤ R.cells) (hslots : slots + N' ≤ R.slots) (hdg : decode cc pc = .ok (.newarray atype, 2))
    (kk : ∀ (H1 : Heap), oc_P D b0 (va_up f n (.inl (ca t, a0))) (n + 1) H1 → va_S (fun q => b0 ≤ q) s.heap H1 locs → W p l e R s m args below meth c H1 locs (cells + 1) (slots + N') Q (F0 m (pc + 2) ls (.ref (b0 + n) :: rest))) : W p l e R s m args below meth c H locs cells slots Q (F0 m pc ls (.int x :: rest)) := by
  subst hty
  refine va_newaK hexec hb harr rfl hdg rfl hn hN hbytes hcells hslots hP.1 fun H1 cA e1 z1 o1 hAr hNm => ?_
  have hcA : ca t = cA := by
    have h1 := (hE.1.2 t _ ht).2
    unfold va_RA at h1
    split at h1
    · rename_i C hC
      exact absurd hC (hno C)
    · exact Option.some.inj (h1.symm.trans hNm)
  refine kk H1 (hP.push ?_ z1 o1) (oc_A hE hS (by rw [hP.1, z1]; omega) (by rw [hP.1]; exact o1))
  show H1[b0 + n]? = some (vp_cell _ _)
  rw [ha, hcA]
  exact e1
theorem oc_newq (hexec : p.tables.exec = Jvm.exec) (hb : c.code = cc) {own C : String} {index : Nat} (hown : s.vm.findClass own = some m.cls) (hclink : (Cond.classLink own index C).before args s = true) (hover : va_AO C s) (hE : oa_E D ca b0 s) (hP : oc_P D b0 f n H) (hS : va_S (fun q => b0 ≤ q) s.heap H locs) (t : Nat) (ht : (oa_ty ca)[t]? = some (ca t, .object C))
    {x : Int32} {N' : Nat} (hn : ¬ x < 0) (hN : x.toNatClampNeg = N') (hbytes : N' * 4 ≤ 536870912) (hcells : cells + 1 ≤ R.cells) (hslots : slots + N' ≤ R.slots) (hdg : decode cc pc = .ok (.anewarray index, 3))
    (kk : ∀ (H1 : Heap), oc_P D b0 (va_up f n (.inl (ca t, N', .inr (.inr (.inr (.inr (fun _ => none))))))) (n + 1) H1 → va_S (fun q => b0 ≤ q) s.heap H1 locs → W p l e R s m args below meth c H1 locs (cells + 1) (slots + N') Q (F0 m (pc + 3) ls (.ref (b0 + n) :: rest))) : W p l e R s m args below meth c H locs cells slots Q (F0 m pc ls (.int x :: rest)) := by
  subst hN
  refine W.anew hexec hb hown hclink (va_AO.use hover) rfl hdg rfl hn hbytes hcells hslots fun cA kA comp f1 f2 f3 f4 => ?_
  generalize hH1 : H.push ({ cls := cA, slots := Array.replicate x.toNatClampNeg .null, vm := .none } : Cell) = H1
  have z1 : H1.size = H.size + 1 := by rw [← hH1, Array.size_push]
  have e1 : H1[H.size]? = some (arrV cA x.toNatClampNeg (fun _ => .null)) := by rw [← hH1, Array.getElem?_push_size, ← arrV_new]
  have o1 : ∀ q : Nat, q < H.size → H1[q]? = H[q]? := fun q hq => by rw [← hH1, Array.getElem?_push, if_neg (Nat.ne_of_lt hq)]
  have hcA : ca t = cA := by
    obtain ⟨kA', comp', -, -, -, h1⟩ := (hE.1.2 t _ ht).2
    exact Option.some.inj (h1.symm.trans f1)
  rw [hP.1] at e1 z1 o1
  rw [hP.1]
  refine kk H1 (hP.push ?_ z1 o1) (oc_A hE hS (by rw [hP.1, z1]; omega) (by rw [hP.1]; exact o1))
  show H1[b0 + n]? = some (vp_cell _ _)
  rw [vp_cell_q, hcA]
  exact e1
theorem oc_put (hexec : p.tables.exec = Jvm.exec) (hb : c.code = cc) {own C : String} {T : u_T} {N ci index : Nat} {Ts : List Cond} (hts : ∀ w ∈ Ts, w.before args s = true) (hin : ∀ w ∈ u_ws C T N, w ∈ Ts) (ty0 : Nat → FieldType) (hty : ∀ k, k < N → parseFieldDescriptor (T k).2.2.1 = some (ty0 k)) (hnm : ∀ a, a < N → ∀ b, b < N → a ≠ b → (T a).2.1 ≠ (T b).2.1) (hown : s.vm.findClass own = some m.cls) (hE : oa_E D ca b0 s) (hP : oc_P D b0 f n H) (hS : va_S (fun q => b0 ≤ q) s.heap H locs) (k : Nat) (hk : k < n) {fs : List Value} (he : f k = .inr (ci, fs)) (hc : vwCl[ci]? = some (C, T, N)) (j : Nat) (hj : j < N)
    (hlink : (Cond.fieldLink own index (T j).1 (T j).2.1 (T j).2.2.1).before args s = true) (hin2 : meth.name = "<init>") (hdecl : (T j).1 = own) {v : Value} (hn : narrow (ty0 j) v = v) (hfit : fits (ty0 j) v = true) (hl : j < fs.length) (hdg : decode cc pc = .ok (.putfield index, 3))
    (kk : ∀ (H1 : Heap) (locs1 : List Loc), oc_P D b0 (va_up f k (.inr (ci, fs.set j v))) n H1 → va_S (fun q => b0 ≤ q) s.heap H1 locs1 → W p l e R s m args below meth c H1 locs1 cells slots Q (F0 m (pc + 3) ls rest)) : W p l e R s m args below meth c H locs cells slots Q (F0 m pc ls (v :: .ref (b0 + k) :: rest)) := by
  have hK := hE.1
  have hap := va_apart (own := own) hts hin ty0 hty hnm hK hc
  have hat := hP.2 k hk
  rw [he] at hat
  obtain ⟨r, h1, cell, q1, q2, q3, q4⟩ := hat
  have hr : r = (C, T, N) := Option.some.inj (h1.symm.trans hc)
  subst hr
  obtain ⟨hSl, hfc, kC, hkC, hkind⟩ := hK.1 ci _ hc
  obtain ⟨cf, kf, fi, fd, hi, hsl⟩ := hSl j hj
  have hlay := hts _ (hin _ (u_in_lay hj))
  have hst := (u_facts hfc hkC (u_lays hts hin hj) hi).1
  unfold u_lay at hlay
  have go : ∀ H' : Heap, H'[b0 + k]? = some (cell.setSlot fd.slot v) → H'.size = H.size → (∀ q, q ≠ b0 + k → H'[q]? = H[q]?) → W p l e R s m args below meth c H' (locs ++ [⟨b0 + k, fd.slot⟩]) cells slots Q (F0 m (pc + 3) ls rest) := by
    intro H' e1 e2 e3
    rw [hsl] at e1 ⊢
    exact kk H' _ (hP.put ⟨_, hc, t_OB.to (V := updV (vp_V fs) j v) ⟨_, e1, q2, q3, t_set q4 hap hj v⟩ (fun i _ => vp_updV_set hl v i)⟩ e2 e3) (hS.put e2 e3 (Nat.le_add_right _ _))
  by_cases hfin : (T j).2.2.2 = true
  · rw [if_pos hfin] at hlay
    have hcf : m.cls = cf := by
      obtain ⟨_, _, c', _, _, _, -, -, hf', -, -, -, hown2, -⟩ := Cond.laysFinal_spec hlay
      have e1 : c' = cf := by have := hi.symm.trans hf'; simp at this; exact this.1.symm
      rw [hdecl] at hown2
      rw [← e1]; exact Option.some.inj (hown.symm.trans hown2)
    have h6 := u_fits hfc hkC hkind (Or.inr hlay) hi (hty j hj) hn hfit
    exact W.putFinK hexec hb hown hlink hi hst hcf hin2 (by rw [q2]; exact h6) q1 q3 (by rw [hsl]; exact k2_hasslot (q4 j hj)) rfl rfl hdg go
  · rw [if_neg hfin] at hlay
    have h6 := u_store hfc hkC hkind hlay hi (hty j hj) hn hfit
    exact W.putK hexec hb (f := fd) ⟨hown, hlink, ⟨_, _, _, hi⟩, hst⟩ (by rw [q2]; exact h6) q1 q3 (by rw [hsl]; exact k2_hasslot (q4 j hj)) rfl rfl hdg go
theorem oc_get (hexec : p.tables.exec = Jvm.exec) (hb : c.code = cc) {own C : String} {T : u_T} {N ci index : Nat} {Ts : List Cond} (hts : ∀ w ∈ Ts, w.before args s = true) (hin : ∀ w ∈ u_ws C T N, w ∈ Ts) (hown : s.vm.findClass own = some m.cls) (hE : oa_E D ca b0 s) (hP : oc_P D b0 f n H) (k : Nat) (hk : k < n) {fs : List Value} (he : f k = .inr (ci, fs)) (hc : vwCl[ci]? = some (C, T, N)) (j : Nat) (hj : j < N)
    (hlink : (Cond.fieldLink own index (T j).1 (T j).2.1 (T j).2.2.1).before args s = true) {v : Value} (hv : fs[j]? = some v) (hdg : decode cc pc = .ok (.getfield index, 3))
    (kk : W p l e R s m args below meth c H locs cells slots Q (F0 m (pc + 3) ls (v :: rest))) : W p l e R s m args below meth c H locs cells slots Q (F0 m pc ls (.ref (b0 + k) :: rest)) :=
  va_get hexec hb hts hin hown hE.1 (hP.at1 hk he) 0 rfl hc j hj hlink (fun _ h => h) hv hdg kk
theorem oc_len (hexec : p.tables.exec = Jvm.exec) (hb : c.code = cc) (hE : oa_E D ca b0 s) (hP : oc_P D b0 f n H) (k : Nat) (hk : k < n) (t : Nat) {x : vp_A} {ty : FieldType} (ht : (oa_ty ca)[t]? = some (ca t, ty)) (he : f k = .inl (ca t, x)) {v : Int32} (hv : Int32.ofNat x.1 = v) (hdg : decode cc pc = .ok (.arraylength, 1))
    (kk : W p l e R s m args below meth c H locs cells slots Q (F0 m (pc + 1) ls (.int v :: rest))) : W p l e R s m args below meth c H locs cells slots Q (F0 m pc ls (.ref (b0 + k) :: rest)) :=
  va_alen hexec hb hE.1 (hP.at1 hk he) 0 t rfl ht hv hdg kk
theorem oc_ast (hexec : p.tables.exec = Jvm.exec) (hb : c.code = cc) (hE : oa_E D ca b0 s) (hP : oc_P D b0 f n H) (hS : va_S (fun q => b0 ≤ q) s.heap H locs) (k v t ci : Nat) (hk : k < n) (hv : v < n) {r : vw_C} {N : Nat} {vs : List Value} {g : Nat → Option Nat} (he : f k = .inl (ca t, N, .inr (.inr (.inr (.inr g))))) (ht : (oa_ty ca)[t]? = some (ca t, .object r.1)) (hev : f v = .inr (ci, vs)) (hc : vwCl[ci]? = some r) {i : Int32} (hin : vp_in i N) (hdg : decode cc pc = .ok (.aastore, 1))
    (kk : ∀ (H1 : Heap) (locs1 : List Loc), oc_P D b0 (va_up f k (.inl (ca t, N, .inr (.inr (.inr (.inr (va_up g i.toNatClampNeg (some (b0 + v))))))))) n H1 → va_S (fun q => b0 ≤ q) s.heap H1 locs1 → W p l e R s m args below meth c H1 locs1 cells slots Q (F0 m (pc + 1) ls rest)) : W p l e R s m args below meth c H locs cells slots Q (F0 m pc ls (.ref (b0 + v) :: .int i :: .ref (b0 + k) :: rest)) := by
  have hK := hE.1
  have hlt : i.toNatClampNeg < N := Nat.not_le.mp fun q => hin (Or.inr q)
  have h0 : ¬ i < 0 := fun q => hin (Or.inl q)
  have hatv := hP.2 v hv
  rw [hev] at hatv
  obtain ⟨r', hr', cellV, g1, g2, g3, -⟩ := hatv
  have hat := hP.2 k hk
  rw [he] at hat
  have hcls := (hK.1 ci r hc).2
  obtain ⟨kA, comp, k1, k2, k3, -⟩ := (hK.2 t _ ht).2
  have hcomp : comp = D.1 ci := Option.some.inj (k3.symm.trans hcls.1)
  subst hcomp
  obtain ⟨kC, hkC, -⟩ := hcls.2
  refine W.aast hexec hb hat (fun q h => by cases h) (fun h => by cases h) k1 k2 rfl hkC ⟨h0, by show _ < (arrV _ _ _).slots.size; rw [arrV_size]; exact hlt⟩ g1 (fun q h => by rw [g3] at h; cases h) (by rw [g2]; exact hkC) (by rw [g2]; exact va_assign hcls) rfl rfl hdg fun H1 e z oq => ?_
  refine kk H1 _ (hP.put ?_ z oq) (hS.put z oq (Nat.le_add_right _ _))
  show H1[b0 + k]? = some (vp_cell _ _)
  rw [e]
  rw [vp_cell_q, vp_cell_q, arrV_store]
  congr 2
  funext q
  by_cases hq : q = i.toNatClampNeg
  · subst hq
    simp [updV, va_up, va_rf]
  · simp [updV, va_up, hq]
/-- a constructor is called: of a nest mate, and of another -/
theorem oc_callN {y : MethodName} {bytes : ByteArray} {maxL nL mc ms index k n' : Nat} {rm : Room} {Ts : List Cond} {own : String} {g : Nat → va_E} {st0 : List Value} (S : CallFix p m c cc nL s args Ts own) (hM : oc_Met l y (oa_w y bytes maxL none) rm D ca b0 k f n g n' mc ms) (hG : GoodIn Ts (oa_w y bytes maxL none)) (hrc : rm.cells = mc) (hrs : rm.slots = ms) (hnest : (own, index, y) ∈ oc_nest) (hini : (Cond.initialized y.cls).before args s = true) (hinst : (Cond.instanceMethod y).before args s = true) (hy1 : y.name = "<init>")
    (hd : y.cls ≠ "java/lang/invoke/MethodHandle" ∧ y.cls ≠ "java/lang/invoke/VarHandle" ∧ (parseMethodDescriptor y.desc).map (fun d => d.parameters.length) = some 0) (hR : rm.frames + 1 ≤ R.frames ∧ 8 + (maxL + 11) + rm.locals ≤ R.locals) (hE : oc_E D ca b0 s) (hP : oc_P D b0 f n H) (hS : va_S (fun q => b0 ≤ q) s.heap H locs)
    (hsize : ls.size = nL) (hstack : st0 = .ref (b0 + k) :: rest) (hW : (rest.map fun v => v.category).sum ≤ 8) (hdg : decode cc pc = .ok (.invokespecial index, 3)) (hf : cells + mc ≤ R.cells ∧ slots + ms ≤ R.slots)
    (kk : ∀ (H1 : Heap) (locs1 : List Loc), oc_P D b0 g n' H1 → va_S (fun q => b0 ≤ q) s.heap H1 locs1 → W p l e R s m args below meth c H1 locs1 (cells + mc) (slots + ms) Q (F0 m (pc + 3) ls rest)) : W p l e R s m args below meth c H locs cells slots Q (F0 m pc ls st0) := by
  refine va_callv (va_runIN (As := []) (rest := rest) (host := RX4) S hM ⟨va_cnB 0 S.2.2.2.2 hG rfl hrc hrs (hE.2.1 _ hnest) hini hd hR, hy1, hinst⟩ ⟨oc_blind D ca b0 f n _, fun U hU hW => ⟨rfl, by rw [hU]; exact hP, hE.call hS hU hW⟩⟩ rfl rfl hsize hstack (lv_room hW) hdg hf) hS (fun q _ h => h) (fun q h => h) (fun u t H1 locs1 ht hvm hw hB hz hk hS1 => ?_)
  rw [ht] at hB
  exact kk H1 locs1 hB hS1
theorem oc_callI {y : MethodName} {bytes : ByteArray} {maxL nL mc ms index k n' : Nat} {rm : Room} {Ts : List Cond} {own : String} {g : Nat → va_E} {st0 : List Value} (S : CallFix p m c cc nL s args Ts own) (hM : oc_Met l y (oa_w y bytes maxL none) rm D ca b0 k f n g n' mc ms) (hG : GoodIn Ts (oa_w y bytes maxL none)) (hrc : rm.cells = mc) (hrs : rm.slots = ms) (hlink : (Cond.methodLink own index y).before args s = true) (hini : (Cond.initialized y.cls).before args s = true) (hinst : (Cond.instanceMethod y).before args s = true) (hy1 : y.name = "<init>")
    (hd : y.cls ≠ "java/lang/invoke/MethodHandle" ∧ y.cls ≠ "java/lang/invoke/VarHandle" ∧ (parseMethodDescriptor y.desc).map (fun d => d.parameters.length) = some 0) (hR : rm.frames + 1 ≤ R.frames ∧ 8 + (maxL + 11) + rm.locals ≤ R.locals) (hE : oc_E D ca b0 s) (hP : oc_P D b0 f n H) (hS : va_S (fun q => b0 ≤ q) s.heap H locs)
    (hsize : ls.size = nL) (hstack : st0 = .ref (b0 + k) :: rest) (hW : (rest.map fun v => v.category).sum ≤ 8) (hdg : decode cc pc = .ok (.invokespecial index, 3)) (hf : cells + mc ≤ R.cells ∧ slots + ms ≤ R.slots)
    (kk : ∀ (H1 : Heap) (locs1 : List Loc), oc_P D b0 g n' H1 → va_S (fun q => b0 ≤ q) s.heap H1 locs1 → W p l e R s m args below meth c H1 locs1 (cells + mc) (slots + ms) Q (F0 m (pc + 3) ls rest)) : W p l e R s m args below meth c H locs cells slots Q (F0 m pc ls st0) := by
  refine va_callv (va_runI (As := []) (rest := rest) S hM (cwI 0 S.2.2.2.2 hG rfl hrc hrs hini hlink hinst hy1 hd hR) ⟨oc_blind D ca b0 f n _, fun U hU hW => ⟨rfl, by rw [hU]; exact hP, hE.call hS hU hW⟩⟩ rfl rfl hsize hstack (lv_room hW) hdg hf) hS (fun q _ h => h) (fun q h => h) (fun u t H1 locs1 ht hvm hw hB hz hk hS1 => ?_)
  rw [ht] at hB
  exact kk H1 locs1 hB hS1
theorem oc_ret {g : Nat → va_E} (hexec : p.tables.exec = Jvm.exec) (hb : c.code = cc) (hr : meth.sig.returnType = none) (hlocks : meth.locks = false) (hS : va_S (fun q => b0 ≤ q) s.heap H locs) (hP : oc_P D b0 f n H) (hs : ∀ j, j < n → oc_sm (f j) (g j)) (hdg : decode cc pc = .ok (.return_, 1)) :
    W p l e R s m args below meth c H locs cells slots (MQ below (va_Qv (fun _ : Unit => True) (fun _ t => oc_P D b0 g n t.heap) (fun q => b0 ≤ q)) args s cells slots (fun q => b0 ≤ q)) (F0 m pc ls []) :=
  W.vret hexec hb hr (fun t ht _ => ⟨⟨(), rfl, trivial, show oc_P D b0 g n t.heap by rw [ht]; exact hP.to hs⟩, hS.F ht⟩) hS.2.2 hdg hlocks
end OCR

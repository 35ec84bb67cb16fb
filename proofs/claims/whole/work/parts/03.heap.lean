/-! one list of words for all methods: the good ones of the tables -/
def oa_T : List Cond := lw_tbl.filter goodWord
def oa_w (y : MethodName) (b : ByteArray) (n : Nat) (r : Option FieldType) : List Cond := .code y b n r :: oa_T
theorem oa_mem {i : Nat} {w : Cond} (h : lw_tbl[i]? = some w) (hg : goodWord w = true) : w ∈ oa_T := List.mem_filter.mpr ⟨List.mem_of_getElem? h, hg⟩
theorem oa_good {w : Cond} (h : w ∈ oa_T) : w ∈ oa_T ∧ ((w.onTables && w.keeps) = true ∨ ∃ ty, w = .arrayClass ty) := ⟨h, good_of_word (List.mem_filter.mp h).2⟩
theorem oa_gw {y : MethodName} {b : ByteArray} {n : Nat} {r : Option FieldType} (h5 : Cond.code y b n r ∈ oa_T) : GoodIn oa_T (oa_w y b n r) := fun w h => by
  rcases List.mem_cons.mp h with rfl | h
  · exact oa_good h5
  · exact oa_good h
theorem oa_gV {own : String} {idx : Nat} {C : String} {y : MethodName} {b : ByteArray} {n : Nat} {r : Option FieldType} (h1 : Cond.methodLink own idx y ∈ oa_T) (h2 : Cond.instanceMethod y ∈ oa_T) (h3 : Cond.selects C y y ∈ oa_T) (h4 : Cond.initialized C ∈ oa_T) (h5 : Cond.code y b n r ∈ oa_T) : GoodIn oa_T (wsV own idx C y (oa_w y b n r)) := fun w h => by
  rcases List.mem_append.mp h with h | h
  · simp only [List.mem_cons, List.not_mem_nil, or_false] at h
    rcases h with rfl | rfl | rfl | rfl
    · exact oa_good h1
    · exact oa_good h2
    · exact oa_good h3
    · exact oa_good h4
  · exact oa_gw h5 w h
theorem oa_gS {own : String} {idx : Nat} {y : MethodName} {b : ByteArray} {n : Nat} {r : Option FieldType} (h1 : Cond.methodLink own idx y ∈ oa_T) (h2 : Cond.static y ∈ oa_T) (h4 : Cond.initialized y.cls ∈ oa_T) (h5 : Cond.code y b n r ∈ oa_T) : GoodIn oa_T (va_wsS own idx y (oa_w y b n r)) := fun w h => by
  rcases List.mem_append.mp h with h | h
  · simp only [List.mem_cons, List.not_mem_nil, or_false] at h
    rcases h with rfl | rfl | rfl
    · exact oa_good h1
    · exact oa_good h2
    · exact oa_good h4
  · exact oa_gw h5 w h
theorem inX0 : ∀ w ∈ wsX00, w ∈ oa_T := by decide +kernel
theorem inX1 : ∀ w ∈ wsX10, w ∈ oa_T := by decide +kernel
theorem inX2 : ∀ w ∈ wsX20, w ∈ oa_T := by decide +kernel
theorem inX3 : ∀ w ∈ wsX30, w ∈ oa_T := by decide +kernel
theorem inX4 : ∀ w ∈ wsX40, w ∈ oa_T := by decide +kernel
theorem inX5 : ∀ w ∈ wsX50, w ∈ oa_T := by decide +kernel
/-! The two sides' objects as ONE memory: kind, number, slot. References are fixed by the kind (but for a line's form). -/
abbrev oa_M : Type := Nat → Nat → Nat → Int32
def oa_up (M : oa_M) (k i f : Nat) (x : Int32) : oa_M := fun k' i' f' => if k' = k ∧ i' = i ∧ f' = f then x else M k' i' f'
theorem oa_up_row (M : oa_M) (k i f : Nat) (x : Int32) : (oa_up M k i f x) k i = upd (M k i) f x := by
  funext j
  simp [oa_up, upd]
theorem oa_up_off (M : oa_M) {k i k' i' : Nat} (f : Nat) (x : Int32) (h : ¬ (k' = k ∧ i' = i)) : (oa_up M k i f x) k' i' = M k' i' := by
  funext j
  simp only [oa_up]
  rw [if_neg (fun q => h ⟨q.1, q.2.1⟩)]
/-- a line's form: below 0 there is none -/
def oa_fr (ad : Nat → Nat → Nat) (v : Int32) : Value := if v < 0 then .null else .ref (ad 5 v.toNatClampNeg)
/-- how many of a kind -/
def oa_n (k : Nat) : Nat := match k with
  | 0 => 1
  | 1 => 2
  | 2 => 2
  | 3 => 1
  | 4 => 1
  | 5 => 13
  | 6 => 13
  | 7 => 39
  | 8 => 1
  | 9 => 21
  | 10 => 21
  | 11 => 21
  | 20 => 1
  | 21 => 1
  | 25 => 1
  | 26 => 1
  | 27 => 1
  | 28 => 1
  | 29 => 1
  | 30 => 1
  | 31 => 1
  | 32 => 1
  | 34 => 1
  | 35 => 1
  | 36 => 1
  | 38 => 1
  | 39 => 1
  | 40 => 1
  | 41 => 1
  | 42 => 1
  | 43 => 1
  | 44 => 1
  | 45 => 1
  | 46 => 1
  | 49 => 1
  | 50 => 1
  | _ => 0
/-- what the cell of a kind holds, out of its row of numbers -/
def oa_cr (ca : Nat → ClassId) (ad : Nat → Nat → Nat) (k i : Nat) (g : Nat → Int32) : va_E := match k with
  | 0 => .inr (4, [.ref (ad 1 0), .ref (ad 1 1), .ref (ad 3 0), .ref (ad 4 0), .ref (ad 8 0), .int (g 5), .int (g 6), .int (g 7), .int (g 8)])
  | 1 => .inr (3, [.ref (ad 2 i), .int (g 1), .int (g 2)])
  | 2 => .inl (ca 0, 40, .inl g)
  | 3 => .inl (ca 1, 64, .inl g)
  | 4 => .inl (ca 3, 13, .inr (.inr (.inr (.inr (fun j => some (ad 5 j))))))
  | 5 => .inr (0, [.ref (ad 6 i), .int (g 1), .int (g 2), .int (g 3), .int (g 4), .int (g 5)])
  | 6 => .inl (ca 5, 3, .inr (.inr (.inr (.inr (fun j => some (ad 7 (3 * i + j)))))))
  | 7 => .inr (2, [.int (g 0), .int (g 1), .int (g 2), .int (g 3), .int (g 4)])
  | 8 => .inl (ca 4, 21, .inr (.inr (.inr (.inr (fun j => some (ad 9 j))))))
  | 9 => .inr (1, [.ref (ad 10 i), .ref (ad 11 i), .int (g 2), .int (g 3), .int (g 4), .int (g 5), oa_fr ad (g 6)])
  | 10 => .inl (ca 1, 3, .inl g)
  | 11 => .inl (ca 1, 3, .inl g)
  | 20 => .inr (5, [.int (g 0), .ref (ad 21 0), .int (g 2), .int (g 3), .int (g 4), .ref (ad 25 0), .ref (ad 26 0), .ref (ad 27 0), .ref (ad 28 0), .ref (ad 29 0), .ref (ad 30 0), .ref (ad 31 0), .ref (ad 32 0), .int (g 13), .ref (ad 34 0), .ref (ad 35 0), .ref (ad 36 0), .int (g 17), .ref (ad 38 0), .ref (ad 39 0), .ref (ad 40 0), .ref (ad 41 0), .ref (ad 42 0), .ref (ad 43 0), .ref (ad 44 0), .ref (ad 45 0), .ref (ad 46 0), .int (g 27), .int (g 28), .ref (ad 49 0), .int (g 30)])
  | 21 => .inl (ca 0, 40, .inl g)
  | 25 => .inl (ca 1, 12, .inl g)
  | 26 => .inl (ca 1, 12, .inl g)
  | 27 => .inl (ca 1, 288, .inl g)
  | 28 => .inl (ca 1, 12, .inl g)
  | 29 => .inl (ca 1, 36, .inl g)
  | 30 => .inl (ca 1, 36, .inl g)
  | 31 => .inl (ca 1, 36, .inl g)
  | 32 => .inl (ca 1, 36, .inl g)
  | 34 => .inl (ca 1, 24, .inl g)
  | 35 => .inl (ca 1, 3, .inl g)
  | 36 => .inl (ca 1, 64, .inl g)
  | 38 => .inl (ca 1, 20, .inl g)
  | 39 => .inl (ca 1, 20, .inl g)
  | 40 => .inl (ca 1, 20, .inl g)
  | 41 => .inl (ca 1, 60, .inl g)
  | 42 => .inl (ca 2, 60, .inl g)
  | 43 => .inl (ca 1, 3, .inl g)
  | 44 => .inl (ca 2, 3, .inl g)
  | 45 => .inl (ca 1, 21, .inl g)
  | 46 => .inl (ca 1, 64, .inl g)
  | 49 => .inl (ca 0, 40, .inl g)
  | 50 => .inl (ca 6, 1, .inr (.inl (fun j => (g j).toInt64)))
  | _ => .inr (0, [])
def oa_ty (ca : Nat → ClassId) : List (ClassId × FieldType) := [(ca 0, .char), (ca 1, .int), (ca 2, .boolean), (ca 3, .object "OpcodeAtlas$Form"), (ca 4, .object "OpcodeAtlas$Line"), (ca 5, .object "OpcodeAtlas$Operand"), (ca 6, .long)]
/-- the addresses are apart, and behind b0 -/
def oa_W (ad : Nat → Nat → Nat) (b0 : Nat) : Prop := (∀ k i k' i', i < oa_n k → i' < oa_n k' → ad k i = ad k' i' → k = k' ∧ i = i') ∧ ∀ k i, i < oa_n k → b0 ≤ ad k i
/-- the heap holds the memory -/
def oa_H (D : va_G) (ca : Nat → ClassId) (ad : Nat → Nat → Nat) (M : oa_M) (H : Heap) : Prop := ∀ k i, i < oa_n k → va_at D vwCl (ad k i, oa_cr ca ad k i (M k i)) H
theorem oa_at {D : va_G} {ca : Nat → ClassId} {ad : Nat → Nat → Nat} {M : oa_M} {H : Heap} (h : oa_H D ca ad M H) (k i : Nat) (hi : i < oa_n k) {e : va_E} (he : oa_cr ca ad k i (M k i) = e) : va_P D vwCl [(ad k i, e)] H := by
  intro j q hq
  have hj : j < 1 := (List.getElem?_eq_some_iff.mp hq).1
  rw [show j = 0 by omega] at hq
  cases hq
  rw [← he]
  exact h k i hi
theorem oa_H.set {D : va_G} {ca : Nat → ClassId} {ad : Nat → Nat → Nat} {b0 : Nat} (hw : oa_W ad b0) {M : oa_M} {H H1 : Heap} (h : oa_H D ca ad M H) {k i f : Nat} {x : Int32} (hi : i < oa_n k) (he : va_at D vwCl (ad k i, oa_cr ca ad k i (upd (M k i) f x)) H1) (oq : ∀ q : Nat, q ≠ ad k i → H1[q]? = H[q]?) : oa_H D ca ad (oa_up M k i f x) H1 := by
  intro k' i' hi'
  by_cases hk : k' = k ∧ i' = i
  · obtain ⟨rfl, rfl⟩ := hk
    rw [oa_up_row]
    exact he
  · rw [oa_up_off M f x hk]
    exact (h k' i' hi').kept (oq _ (fun q => hk (hw.1 k' i' k i hi' hi q)))
theorem oa_H.kept {D : va_G} {ca : Nat → ClassId} {ad : Nat → Nat → Nat} {M : oa_M} {H H1 : Heap} (h : oa_H D ca ad M H) (oq : ∀ q : Nat, q < H.size → H1[q]? = H[q]?) : oa_H D ca ad M H1 := by
  intro k i hi
  exact (h k i hi).kept (oq _ ((h k i hi).lt))
/-- the class's texts, by their places -/
def oa_str : List (String × Nat × String) := [("OpcodeAtlas", 57, "the text tells no form"), ("OpcodeAtlas", 67, "there are twelve forms"), ("OpcodeAtlas", 80, "a form has that name and as many operands"), ("OpcodeAtlas", 86, "no such form"), ("OpcodeAtlas", 88, "no such operand"), ("OpcodeAtlas", 90, "no such kind"), ("OpcodeAtlas", 92, "no such scale"), ("OpcodeAtlas", 94, "no such offset"), ("OpcodeAtlas", 191, "no such address"), ("OpcodeAtlas", 189, "the atlas is not ready"), ("OpcodeAtlas", 130, "no form matches"), ("OpcodeAtlas", 149, "the text is no line"), ("OpcodeAtlas", 157, "the label stands before a colon already"), ("OpcodeAtlas", 162, "there are twenty lines"), ("OpcodeAtlas", 173, "no such form or label"), ("OpcodeAtlas", 179, "more bytes than fit behind the origin"), ("OpcodeAtlas", 184, "an operand's value is not that of any field")]
def oa_dn : List String := ["java/lang/RuntimeException", "java/lang/Exception", "java/lang/Throwable"]
def oa_cn : List String := ["java/lang/IllegalArgumentException", "java/lang/IllegalStateException", "java/lang/IndexOutOfBoundsException", "java/util/NoSuchElementException"]
def oa_ncl : List (String × String) := [("java/lang/IllegalStateException", "java/lang/IllegalArgumentException"), ("java/lang/IndexOutOfBoundsException", "java/lang/IllegalStateException"), ("java/util/NoSuchElementException", "java/lang/IllegalStateException"), ("java/lang/IndexOutOfBoundsException", "java/util/NoSuchElementException"), ("java/lang/IllegalArgumentException", "java/lang/IllegalStateException"), ("java/lang/IllegalArgumentException", "java/util/NoSuchElementException"), ("java/lang/IllegalArgumentException", "java/lang/IndexOutOfBoundsException")]
/-- what the tables and the old cells say, at a method's start -/
def oa_E (D : va_G) (ca : Nat → ClassId) (b0 : Nat) (U : State) : Prop := va_K D vwCl (oa_ty ca) U ∧ b0 ≤ U.heap.size ∧ vx_Zq Bundle.tN "UNASSIGNED_STACK" Bundle.steD (fun q => b0 ≤ q) U U.heap ∧ vx_Zq Bundle.tN "SUPPRESSED_SENTINEL" Bundle.listD (fun q => b0 ≤ q) U U.heap ∧ (∀ q ∈ oa_str, ∃ sa, vk_R q.1 q.2.1 q.2.2 sa U) ∧ (∀ n ∈ oa_dn, va_Nw (.declares ⟨n, "<init>", "(Ljava/lang/String;)V"⟩) U) ∧ (∀ n ∈ oa_cn, va_Nw (.castable n n) U) ∧ ∀ q ∈ oa_ncl, va_Nc q.1 q.2 U
theorem oa_E.call {D : va_G} {ca : Nat → ClassId} {b0 : Nat} {s U : State} {H : Heap} {locs : List Loc} (h : oa_E D ca b0 s) (hS : va_S (fun q => b0 ≤ q) s.heap H locs) (hU : U.heap = H) (hW : s.WarmedH U.vm) : oa_E D ca b0 U :=
  ⟨va_K.moved hW.alike h.1, by rw [hU]; exact Nat.le_trans h.2.1 hS.1, by rw [hU]; exact vx_Zq.moved hW.alike (h.2.2.1.kept hS.2.1), by rw [hU]; exact vx_Zq.moved hW.alike (h.2.2.2.1.kept hS.2.1), fun q hq => by
    obtain ⟨sa, hsa⟩ := h.2.2.2.2.1 q hq
    exact ⟨sa, vk_R.warm hW hsa⟩, fun n hn => va_Nw.warmD hW (h.2.2.2.2.2.1 n hn), fun n hn => va_Nw.warmC hW (h.2.2.2.2.2.2.1 n hn), fun q hq => va_Nc.moved hW.alike (h.2.2.2.2.2.2.2 q hq)⟩
def oa_P (D : va_G) (ca : Nat → ClassId) (ad : Nat → Nat → Nat) (b0 : Nat) (M : oa_M) (U : State) : Prop := oa_H D ca ad M U.heap ∧ oa_E D ca b0 U
theorem oa_blind (D : va_G) (ca : Nat → ClassId) (ad : Nat → Nat → Nat) (b0 : Nat) (M : oa_M) (av : List Value) : FrameBlind (va_Pc av (oa_P D ca ad b0 M)) := by
  intro a U g mk q
  obtain ⟨q0, q1, q2, q3, q4, q5, q6, q7, q8, q9⟩ := q
  exact ⟨q0, q1, va_K.moved (u := U) (U := U.calling g mk a) (Vm.Alike.refl U.vm) q2, q3, vx_Zq.moved (u := U) (U := U.calling g mk a) (Vm.Alike.refl U.vm) q4, vx_Zq.moved (u := U) (U := U.calling g mk a) (Vm.Alike.refl U.vm) q5, fun z hz => by
    obtain ⟨sa, hsa⟩ := q6 z hz
    exact ⟨sa, vk_R.warm (s := U) (U := U.calling g mk a) (State.WarmedH.refl U) hsa⟩, fun n hn => va_Nw.warmD (s := U) (U := U.calling g mk a) (State.WarmedH.refl U) (q7 n hn), fun n hn => va_Nw.warmC (s := U) (U := U.calling g mk a) (State.WarmedH.refl U) (q8 n hn), fun z hz => va_Nc.moved (u := U) (U := U.calling g mk a) (Vm.Alike.refl U.vm) (q9 z hz)⟩
section OAR
variable {p : Program} {l : Launch} {e : Env} {R : Room} {s : State} {m : MethodId} {args : Array Value} {below : List Frame} {meth : Method} {c : Code} {H : Heap} {locs : List Loc} {cells slots : Nat} {Q : State → Prop}
variable {cc : ByteArray} {pc : Nat} {ls : Array Slot} {rest : List Value} {D : va_G} {ca : Nat → ClassId} {ad : Nat → Nat → Nat} {b0 : Nat} {M : oa_M}
theorem oa_get (hexec : p.tables.exec = Jvm.exec) (hb : c.code = cc) {own C : String} {T : u_T} {N ci index : Nat} {Ts : List Cond} (hts : ∀ w ∈ Ts, w.before args s = true) (hin : ∀ w ∈ u_ws C T N, w ∈ Ts) (hown : s.vm.findClass own = some m.cls) (hE : oa_E D ca b0 s) (hH : oa_H D ca ad M H) (k i : Nat) (hi : i < oa_n k) {fs : List Value} (he : oa_cr ca ad k i (M k i) = .inr (ci, fs)) (hc : vwCl[ci]? = some (C, T, N)) (f : Nat) (hf : f < N)
    (hlink : (Cond.fieldLink own index (T f).1 (T f).2.1 (T f).2.2.1).before args s = true) {v : Value} (hv : fs[f]? = some v) (hdg : decode cc pc = .ok (.getfield index, 3))
    (kk : W p l e R s m args below meth c H locs cells slots Q (F0 m (pc + 3) ls (v :: rest))) : W p l e R s m args below meth c H locs cells slots Q (F0 m pc ls (.ref (ad k i) :: rest)) :=
  va_get hexec hb hts hin hown hE.1 (oa_at hH k i hi he) 0 rfl hc f hf hlink (fun _ h => h) hv hdg kk
theorem oa_put (hexec : p.tables.exec = Jvm.exec) (hb : c.code = cc) {own C : String} {T : u_T} {N ci index : Nat} {Ts : List Cond} (hts : ∀ w ∈ Ts, w.before args s = true) (hin : ∀ w ∈ u_ws C T N, w ∈ Ts) (ty0 : Nat → FieldType) (hty : ∀ k, k < N → parseFieldDescriptor (T k).2.2.1 = some (ty0 k)) (hnm : ∀ a, a < N → ∀ b, b < N → a ≠ b → (T a).2.1 ≠ (T b).2.1) (hown : s.vm.findClass own = some m.cls) (hE : oa_E D ca b0 s) (hw : oa_W ad b0) (hH : oa_H D ca ad M H) (hS : va_S (fun q => b0 ≤ q) s.heap H locs) (k i : Nat) (hi : i < oa_n k) {fs : List Value} (he : oa_cr ca ad k i (M k i) = .inr (ci, fs)) (hc : vwCl[ci]? = some (C, T, N)) (f : Nat) (hf : f < N)
    (hlink : (Cond.fieldLink own index (T f).1 (T f).2.1 (T f).2.2.1).before args s = true) (hfin : (T f).2.2.2 = false) {v : Value} (hn : narrow (ty0 f) v = v) (hfit : fits (ty0 f) v = true) (hl : f < fs.length) {x : Int32} (hnew : oa_cr ca ad k i (upd (M k i) f x) = .inr (ci, fs.set f v)) (hdg : decode cc pc = .ok (.putfield index, 3))
    (kk : ∀ (H1 : Heap) (locs1 : List Loc), oa_H D ca ad (oa_up M k i f x) H1 → va_S (fun q => b0 ≤ q) s.heap H1 locs1 → W p l e R s m args below meth c H1 locs1 cells slots Q (F0 m (pc + 3) ls rest)) : W p l e R s m args below meth c H locs cells slots Q (F0 m pc ls (v :: .ref (ad k i) :: rest)) := by
  have hK := hE.1
  have hap := va_apart (own := own) hts hin ty0 hty hnm hK hc
  have hat := hH k i hi
  rw [he] at hat
  obtain ⟨r, h1, cell, q1, q2, q3, q4⟩ := hat
  have hr : r = (C, T, N) := Option.some.inj (h1.symm.trans hc)
  subst hr
  obtain ⟨hSl, hfc, kC, hkC, hkind⟩ := hK.1 ci _ hc
  obtain ⟨cf, kf, fi, fd, hfi, hsl⟩ := hSl f hf
  have hlay := hts _ (hin _ (u_in_lay hf))
  unfold u_lay at hlay
  rw [if_neg (by rw [hfin]; decide)] at hlay
  have hst := (u_facts hfc hkC (u_lays hts hin hf) hfi).1
  have h6 := u_store hfc hkC hkind hlay hfi (hty f hf) hn hfit
  refine W.putK hexec hb (f := fd) ⟨hown, hlink, ⟨_, _, _, hfi⟩, hst⟩ (by rw [q2]; exact h6) q1 q3 (by rw [hsl]; exact k2_hasslot (q4 f hf)) rfl rfl hdg fun H' e1 e2 e3 => ?_
  rw [hsl] at e1 ⊢
  refine kk H' _ (hH.set hw hi ?_ e3) (hS.put e2 e3 (hw.2 k i hi))
  rw [hnew]
  exact ⟨_, hc, t_OB.to (V := updV (vp_V fs) f v) ⟨_, e1, q2, q3, t_set q4 hap hf v⟩ (fun j _ => vp_updV_set hl v j)⟩
theorem oa_ild (hexec : p.tables.exec = Jvm.exec) (hb : c.code = cc) (hE : oa_E D ca b0 s) (hH : oa_H D ca ad M H) (k i : Nat) (hi : i < oa_n k) (n : Nat) (he : oa_cr ca ad k i (M k i) = .inl (ca 1, n, .inl (M k i))) {j v : Int32} (hv : M k i j.toNatClampNeg = v) (hin : vp_in j n) (hdg : decode cc pc = .ok (.iaload, 1))
    (kk : W p l e R s m args below meth c H locs cells slots Q (F0 m (pc + 1) ls (.int v :: rest))) : W p l e R s m args below meth c H locs cells slots Q (F0 m pc ls (.int j :: .ref (ad k i) :: rest)) := by
  subst hv
  exact va_iald hexec hb hE.1 (oa_at hH k i hi he) 0 1 rfl rfl hin hdg kk
theorem oa_cld (hexec : p.tables.exec = Jvm.exec) (hb : c.code = cc) (hE : oa_E D ca b0 s) (hH : oa_H D ca ad M H) (k i : Nat) (hi : i < oa_n k) (n : Nat) (he : oa_cr ca ad k i (M k i) = .inl (ca 0, n, .inl (M k i))) {j v : Int32} (hv : M k i j.toNatClampNeg = v) (hin : vp_in j n) (hdg : decode cc pc = .ok (.caload, 1))
    (kk : W p l e R s m args below meth c H locs cells slots Q (F0 m (pc + 1) ls (.int v :: rest))) : W p l e R s m args below meth c H locs cells slots Q (F0 m pc ls (.int j :: .ref (ad k i) :: rest)) := by
  subst hv
  exact va_cald hexec hb hE.1 (oa_at hH k i hi he) 0 0 rfl rfl hin hdg kk
theorem oa_zld (hexec : p.tables.exec = Jvm.exec) (hb : c.code = cc) (hE : oa_E D ca b0 s) (hH : oa_H D ca ad M H) (k i : Nat) (hi : i < oa_n k) (n : Nat) (he : oa_cr ca ad k i (M k i) = .inl (ca 2, n, .inl (M k i))) {j v : Int32} (hv : M k i j.toNatClampNeg = v) (hin : vp_in j n) (hdg : decode cc pc = .ok (.baload, 1))
    (kk : W p l e R s m args below meth c H locs cells slots Q (F0 m (pc + 1) ls (.int v :: rest))) : W p l e R s m args below meth c H locs cells slots Q (F0 m pc ls (.int j :: .ref (ad k i) :: rest)) := by
  subst hv
  exact va_zald hexec hb hE.1 (oa_at hH k i hi he) 0 2 rfl rfl hin hdg kk
theorem oa_ald (hexec : p.tables.exec = Jvm.exec) (hb : c.code = cc) (hE : oa_E D ca b0 s) (hH : oa_H D ca ad M H) (k i : Nat) (hi : i < oa_n k) (n t : Nat) {C : String} {g : Nat → Nat} (ht : (oa_ty ca)[t]? = some (ca t, .object C)) (he : oa_cr ca ad k i (M k i) = .inl (ca t, n, .inr (.inr (.inr (.inr (fun j => some (g j))))))) {j : Int32} (hin : vp_in j n) (hdg : decode cc pc = .ok (.aaload, 1))
    (kk : W p l e R s m args below meth c H locs cells slots Q (F0 m (pc + 1) ls (.ref (g j.toNatClampNeg) :: rest))) : W p l e R s m args below meth c H locs cells slots Q (F0 m pc ls (.int j :: .ref (ad k i) :: rest)) :=
  va_aldq hexec hb hE.1 (oa_at hH k i hi he) 0 t rfl ht hin hdg kk
theorem oa_len (hexec : p.tables.exec = Jvm.exec) (hb : c.code = cc) (hE : oa_E D ca b0 s) (hH : oa_H D ca ad M H) (k i : Nat) (hi : i < oa_n k) (t : Nat) {x : vp_A} {ty : FieldType} (ht : (oa_ty ca)[t]? = some (ca t, ty)) (he : oa_cr ca ad k i (M k i) = .inl (ca t, x)) {v : Int32} (hv : Int32.ofNat x.1 = v) (hdg : decode cc pc = .ok (.arraylength, 1))
    (kk : W p l e R s m args below meth c H locs cells slots Q (F0 m (pc + 1) ls (.int v :: rest))) : W p l e R s m args below meth c H locs cells slots Q (F0 m pc ls (.ref (ad k i) :: rest)) :=
  va_alen hexec hb hE.1 (oa_at hH k i hi he) 0 t rfl ht hv hdg kk
end OAR

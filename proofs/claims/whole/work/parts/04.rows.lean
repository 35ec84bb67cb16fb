/-! small words of the functions -/
def oa_in (x : Int32) (n : Nat) : Bool := decide (¬ (x < 0 ∨ n ≤ x.toNatClampNeg))
theorem oa_in_vp {x : Int32} {n : Nat} (h : oa_in x n = true) : vp_in x n := by
  have h2 := of_decide_eq_true h
  exact h2
theorem oa_lt {x : Int32} {n : Nat} (h : vp_in x n) : x.toNatClampNeg < n := Nat.not_le.mp fun q => h (Or.inr q)
theorem oa_lt7 {i : Nat} {x : Int32} (hi : i < 13) (h : vp_in x 3) : 3 * i + x.toNatClampNeg < oa_n 7 := by
  have h1 := oa_lt h
  show 3 * i + x.toNatClampNeg < 39
  omega
theorem oa_ck {α : Type} {c : Prop} {_ : Decidable c} {A : Option α} {r : α} (h : (if c then A else none) = some r) : c ∧ A = some r := by
  by_cases hc : c
  · rw [if_pos hc] at h
    exact ⟨hc, h⟩
  · rw [if_neg hc] at h
    cases h
def oa_bd {α : Type} (o : Option (Int32 × oa_M)) (k : Int32 → oa_M → Option α) : Option α := match o with
  | none => none
  | some q => k q.1 q.2
theorem oa_bdE {α : Type} {o : Option (Int32 × oa_M)} {k : Int32 → oa_M → Option α} {x : α} (h : oa_bd o k = some x) : ∃ (r : Int32) (M : oa_M), o = some (r, M) ∧ k r M = some x := by
  cases o with
  | none => cases h
  | some q => exact ⟨q.1, q.2, rfl, h⟩
def oa_bv {α : Type} (o : Option oa_M) (k : oa_M → Option α) : Option α := match o with
  | none => none
  | some q => k q
theorem oa_bvE {α : Type} {o : Option oa_M} {k : oa_M → Option α} {x : α} (h : oa_bv o k = some x) : ∃ (M : oa_M), o = some M ∧ k M = some x := by
  cases o with
  | none => cases h
  | some q => exact ⟨q, rfl, h⟩
def oa_bx (o : Option (Nat × oa_M)) (k : oa_M → Option (Nat × Int32 × oa_M)) : Option (Nat × Int32 × oa_M) := match o with
  | none => none
  | some q => if q.1 = 0 then k q.2 else some (q.1, 0, q.2)
theorem oa_bxE {o : Option (Nat × oa_M)} {k : oa_M → Option (Nat × Int32 × oa_M)} {x : Nat × Int32 × oa_M} (h : oa_bx o k = some x) : ∃ (cd : Nat) (M : oa_M), o = some (cd, M) ∧ (cd = 0 → k M = some x) ∧ (cd ≠ 0 → x = (cd, 0, M)) := by
  cases o with
  | none => cases h
  | some q =>
    refine ⟨q.1, q.2, rfl, fun hz => ?_, fun hz => ?_⟩
    · rw [oa_bx, if_pos hz] at h
      exact h
    · rw [oa_bx, if_neg hz] at h
      exact (Option.some.inj h).symm
def oa_isb (x : Int32) : Bool := decide (x = 0 ∨ x = 1)
theorem oa_nb {x : Int32} (h : oa_isb x = true) : narrow .boolean (.int x) = .int x := by
  rcases of_decide_eq_true h with rfl | rfl <;> rfl
theorem oa_fb {x : Int32} (h : oa_isb x = true) : fits .boolean (.int x) = true := by
  rcases of_decide_eq_true h with rfl | rfl <;> rfl
abbrev oa_nz (x : Int32) : Int32 := vp_nar .boolean x
abbrev oa_nc (x : Int32) : Int32 := vp_nar .char x
abbrev oa_rem (x y : Int32) : Int32 := x - x / y * y
abbrev oa_i2c (x : Int32) : Int32 := (x.toUInt32 % 65536).toInt32
abbrev oa_ushr (x y : Int32) : Int32 := (x.toUInt32 >>> (y.toUInt32 &&& Int32.toUInt32 31)).toInt32
theorem oa_frv {ad : Nat → Nat → Nat} {v : Int32} (h : vp_in v 13) : oa_fr ad v = .ref (ad 5 v.toNatClampNeg) := if_neg (fun q => h (Or.inl q))
theorem oa_fr_none {ad : Nat → Nat → Nat} : oa_fr ad (-1 : Int32) = .null := rfl
theorem oa_nfr (ad : Nat → Nat → Nat) (v : Int32) : narrow (.object "OpcodeAtlas$Form") (oa_fr ad v) = oa_fr ad v := by
  unfold oa_fr
  split <;> rfl
theorem oa_ffr (ad : Nat → Nat → Nat) (v : Int32) : fits (.object "OpcodeAtlas$Form") (oa_fr ad v) = true := by
  unfold oa_fr
  split <;> rfl
theorem oa_out3 {x : Int32} (h0 : ¬ x = (0 : Int32)) (h1 : ¬ x = (1 : Int32)) (h2 : ¬ x = (2 : Int32)) (h3 : ¬ x = (3 : Int32)) : x.toInt < 0 ∨ 3 < x.toInt := by
  have q0 := lv_neT h0 (a := 0) rfl
  have q1 := lv_neT h1 (a := 1) rfl
  have q2 := lv_neT h2 (a := 2) rfl
  have q3 := lv_neT h3 (a := 3) rfl
  omega
section OAN
variable {p : Program} {l : Launch} {e : Env} {R : Room} {s : State} {m : MethodId} {args : Array Value} {below : List Frame} {meth : Method} {c : Code} {H : Heap} {locs : List Loc} {cells slots : Nat} {Q : State → Prop}
variable {cc : ByteArray} {pc : Nat} {ls : Array Slot} {rest : List Value} {ad : Nat → Nat → Nat}
theorem oa_ifnull (hexec : p.tables.exec = Jvm.exec) (hb : c.code = cc) {v : Int32} {off : Int} {tgt : Nat} (hdg : decode cc pc = .ok (.ifnull off, 3)) (ht : (pc : Int) + off = (tgt : Int)) (kt : v < 0 → W p l e R s m args below meth c H locs cells slots Q (F0 m tgt ls rest)) (kf : ¬ v < 0 → W p l e R s m args below meth c H locs cells slots Q (F0 m (pc + 3) ls rest)) : W p l e R s m args below meth c H locs cells slots Q (F0 m pc ls (oa_fr ad v :: rest)) := by
  unfold oa_fr
  by_cases hv : v < 0
  · rw [if_pos hv]
    exact lv_ifnullN hexec hb hdg ht (kt hv)
  · rw [if_neg hv]
    exact lv_ifnull hexec hb hdg (kf hv)
theorem oa_frref {v : Int32} (h : vp_in v 13) (k : W p l e R s m args below meth c H locs cells slots Q (F0 m pc ls (.ref (ad 5 v.toNatClampNeg) :: rest))) : W p l e R s m args below meth c H locs cells slots Q (F0 m pc ls (oa_fr ad v :: rest)) := by
  rw [oa_frv h]
  exact k
end OAN
section OAS
variable {p : Program} {l : Launch} {e : Env} {R : Room} {s : State} {m : MethodId} {args : Array Value} {below : List Frame} {meth : Method} {c : Code} {H : Heap} {locs : List Loc} {cells slots : Nat} {Q : State → Prop}
variable {cc : ByteArray} {pc : Nat} {ls : Array Slot} {rest : List Value} {D : va_G} {ca : Nat → ClassId} {ad : Nat → Nat → Nat} {b0 : Nat} {M : oa_M}
theorem oa_stcell {cA : ClassId} {n k : Nat} {f : Nat → Int32} {x : Int32} : (vp_cell cA (n, .inl f)).setSlot k (.int x) = vp_cell cA (n, .inl (upd f k x)) := by
  rw [vp_cell_i, vp_cell_i, arrV_store]
  congr 2
  funext q
  by_cases hq : q = k
  · subst hq
    simp [updV, upd]
  · simp [updV, upd, hq]
theorem oa_ist (hexec : p.tables.exec = Jvm.exec) (hb : c.code = cc) (hE : oa_E D ca b0 s) (hw : oa_W ad b0) (hH : oa_H D ca ad M H) (hS : va_S (fun q => b0 ≤ q) s.heap H locs) (k i : Nat) (hi : i < oa_n k) (n : Nat) (he : ∀ g, oa_cr ca ad k i g = .inl (ca 1, n, .inl g)) {j x : Int32} (hin : vp_in j n) (hdg : decode cc pc = .ok (.iastore, 1))
    (kk : ∀ (H1 : Heap) (locs1 : List Loc), oa_H D ca ad (oa_up M k i j.toNatClampNeg x) H1 → va_S (fun q => b0 ≤ q) s.heap H1 locs1 → W p l e R s m args below meth c H1 locs1 cells slots Q (F0 m (pc + 1) ls rest)) : W p l e R s m args below meth c H locs cells slots Q (F0 m pc ls (.int x :: .int j :: .ref (ad k i) :: rest)) := by
  have hat := hH k i hi
  rw [he] at hat
  refine W.iast hexec hb hat ((hE.1.2 1 _ rfl).1 n (fun j => .int (M k i j))) (fun q => by cases q) (by show ¬ (j < 0 ∨ (arrV _ _ _).slots.size ≤ _); rw [arrV_size]; exact hin) rfl rfl hdg fun H1 e z oq => ?_
  refine kk H1 _ (hH.set hw hi ?_ oq) (hS.put z oq (hw.2 k i hi))
  rw [he]
  show H1[ad k i]? = some (vp_cell _ _)
  rw [e]
  exact congrArg some oa_stcell
theorem oa_cst (hexec : p.tables.exec = Jvm.exec) (hb : c.code = cc) (hE : oa_E D ca b0 s) (hw : oa_W ad b0) (hH : oa_H D ca ad M H) (hS : va_S (fun q => b0 ≤ q) s.heap H locs) (k i : Nat) (hi : i < oa_n k) (n : Nat) (he : ∀ g, oa_cr ca ad k i g = .inl (ca 0, n, .inl g)) {j x : Int32} (hin : vp_in j n) (hdg : decode cc pc = .ok (.castore, 1))
    (kk : ∀ (H1 : Heap) (locs1 : List Loc), oa_H D ca ad (oa_up M k i j.toNatClampNeg (vp_nar .char x)) H1 → va_S (fun q => b0 ≤ q) s.heap H1 locs1 → W p l e R s m args below meth c H1 locs1 cells slots Q (F0 m (pc + 1) ls rest)) : W p l e R s m args below meth c H locs cells slots Q (F0 m pc ls (.int x :: .int j :: .ref (ad k i) :: rest)) := by
  have hat := hH k i hi
  rw [he] at hat
  refine W.cast hexec hb hat ((hE.1.2 0 _ rfl).1 n (fun j => .int (M k i j))) (fun q => by cases q) (by show ¬ (j < 0 ∨ (arrV _ _ _).slots.size ≤ _); rw [arrV_size]; exact hin) rfl rfl hdg fun H1 e z oq => ?_
  refine kk H1 _ (hH.set hw hi ?_ oq) (hS.put z oq (hw.2 k i hi))
  rw [he]
  show H1[ad k i]? = some (vp_cell _ _)
  rw [e]
  exact congrArg some (oa_stcell (x := vp_nar .char x))
theorem oa_zst (hexec : p.tables.exec = Jvm.exec) (hb : c.code = cc) (hE : oa_E D ca b0 s) (hw : oa_W ad b0) (hH : oa_H D ca ad M H) (hS : va_S (fun q => b0 ≤ q) s.heap H locs) (k i : Nat) (hi : i < oa_n k) (n : Nat) (he : ∀ g, oa_cr ca ad k i g = .inl (ca 2, n, .inl g)) {j x : Int32} (hin : vp_in j n) (hdg : decode cc pc = .ok (.bastore, 1))
    (kk : ∀ (H1 : Heap) (locs1 : List Loc), oa_H D ca ad (oa_up M k i j.toNatClampNeg (vp_nar .boolean x)) H1 → va_S (fun q => b0 ≤ q) s.heap H1 locs1 → W p l e R s m args below meth c H1 locs1 cells slots Q (F0 m (pc + 1) ls rest)) : W p l e R s m args below meth c H locs cells slots Q (F0 m pc ls (.int x :: .int j :: .ref (ad k i) :: rest)) := by
  have hat := hH k i hi
  rw [he] at hat
  refine W.zast hexec hb hat ((hE.1.2 2 _ rfl).1 n (fun j => .int (M k i j))) (fun q => by cases q) (by show ¬ (j < 0 ∨ (arrV _ _ _).slots.size ≤ _); rw [arrV_size]; exact hin) rfl rfl hdg fun H1 e z oq => ?_
  refine kk H1 _ (hH.set hw hi ?_ oq) (hS.put z oq (hw.2 k i hi))
  rw [he]
  show H1[ad k i]? = some (vp_cell _ _)
  rw [e]
  exact congrArg some (oa_stcell (x := vp_nar .boolean x))
/-- ireturn, narrowed to the method's type -/
theorem oa_zret {Qc : Array Value → State → Outcome → State → Prop} {free : Addr → Prop} {v v' : Int32} {ty : FieldType} (hexec : p.tables.exec = Jvm.exec) (hb : c.code = cc) (hr : meth.sig.returnType = some ty) (hlocks : meth.locks = false) (hn : narrow ty (.int v) = .int v')
    (hq : ∀ t : State, t.heap = H → s.WarmedH t.vm → Qc args s (.returned (some (.int v'))) t) (hf : ∀ q ∈ locs, free q.base) (hdg : decode cc pc = .ok (.ireturn, 1)) : W p l e R s m args below meth c H locs cells slots (MQ below Qc args s cells slots free) (F0 m pc ls [.int v]) := by
  intro T hT X
  obtain ⟨fs, hret, hrun, hended, hW, hframe⟩ := X.leave (v := some (.int v')) (fun h => by rw [hr] at h; cases h)
  have hmeth' : T.vm.method? m = some meth := X.method'
  refine ⟨T.setFrames fs, ?_, .returned (some (.int v')), hrun, hended, hq _ hT hW, locs, ⟨⟨_, rfl⟩, hW, hframe⟩, hf⟩
  jvm_step X.here [X.here.top, hexec, hb, hdg, hmeth', hr, hn]
  (try refine ⟨rfl, ?_⟩); (try refine ⟨rfl, ?_⟩)
  first | (intro acts; rw [hret _ acts rfl rfl rfl]) | rw [hret _ _ rfl rfl rfl]
  exact Steps.refl _
end OAS
/-- the contract of a method that returns a number and doesn't throw: from M it comes to M' with r -/
def oa_Mi (l : Launch) (y : MethodName) (ws : List Cond) (rm : Room) (D : va_G) (ca : Nat → ClassId) (ad : Nat → Nat → Nat) (b0 : Nat) (av : List Value) (M : oa_M) (r : Int32) (M' : oa_M) : Prop :=
  Met l y ws rm (va_Pc av (oa_P D ca ad b0 M)) (va_Qi (fun (r' : Int32) (u : oa_M) => r' = r ∧ u = M') (fun u t => oa_H D ca ad u t.heap) (fun q => b0 ≤ q)) 0 0 (fun q => b0 ≤ q)
def oa_Mv (l : Launch) (y : MethodName) (ws : List Cond) (rm : Room) (D : va_G) (ca : Nat → ClassId) (ad : Nat → Nat → Nat) (b0 : Nat) (av : List Value) (M : oa_M) (M' : oa_M) : Prop :=
  Met l y ws rm (va_Pc av (oa_P D ca ad b0 M)) (va_Qv (fun (u : oa_M) => u = M') (fun u t => oa_H D ca ad u t.heap) (fun q => b0 ≤ q)) 0 0 (fun q => b0 ≤ q)
/-- the classes that are thrown -/
def oa_x (k : Nat) : String := match k with
  | 1 => "java/lang/IllegalArgumentException"
  | 2 => "java/lang/IllegalStateException"
  | 3 => "java/lang/IndexOutOfBoundsException"
  | _ => "java/util/NoSuchElementException"
/-- .. of one that may throw: code 0: it returns; else the class by its number -/
def oa_Xi (l : Launch) (y : MethodName) (ws : List Cond) (rm : Room) (mc : Nat) (D : va_G) (ca : Nat → ClassId) (ad : Nat → Nat → Nat) (b0 : Nat) (av : List Value) (M : oa_M) (o : Nat × Int32 × oa_M) : Prop :=
  vx_Met l y ws rm (va_Pc av (oa_P D ca ad b0 M)) (va_Qi (fun (r' : Int32) (u : oa_M) => o.1 = 0 ∧ r' = o.2.1 ∧ u = o.2.2) (fun u t => oa_H D ca ad u t.heap) (fun q => b0 ≤ q)) (vx_X (fun u : oa_M => o.1 ≠ 0 ∧ u = o.2.2) (fun E u t => E = oa_x o.1 ∧ oa_H D ca ad u t.heap) (fun q => b0 ≤ q)) mc (6 * mc) (fun q => b0 ≤ q)
def oa_Xv (l : Launch) (y : MethodName) (ws : List Cond) (rm : Room) (mc : Nat) (D : va_G) (ca : Nat → ClassId) (ad : Nat → Nat → Nat) (b0 : Nat) (av : List Value) (M : oa_M) (o : Nat × oa_M) : Prop :=
  vx_Met l y ws rm (va_Pc av (oa_P D ca ad b0 M)) (va_Qv (fun (u : oa_M) => o.1 = 0 ∧ u = o.2) (fun u t => oa_H D ca ad u t.heap) (fun q => b0 ≤ q)) (vx_X (fun u : oa_M => o.1 ≠ 0 ∧ u = o.2) (fun E u t => E = oa_x o.1 ∧ oa_H D ca ad u t.heap) (fun q => b0 ≤ q)) mc (6 * mc) (fun q => b0 ≤ q)
section OAC
variable {l : Launch} {D : va_G} {ca : Nat → ClassId} {ad : Nat → Nat → Nat} {b0 : Nat} {M : oa_M}
/-- what stays while a method is walked -/
def oa_Cx (p : Program) (s : State) (m : MethodId) (args : Array Value) (meth : Method) (c : Code) (cc : ByteArray) (nL : Nat) (ret : Option FieldType) (own : String) (D : va_G) (ca : Nat → ClassId) (b0 : Nat) (ad : Nat → Nat → Nat) : Prop :=
  p.tables.exec = Jvm.exec ∧ c.code = cc ∧ c.maxLocals = nL ∧ meth.sig.returnType = ret ∧ meth.locks = false ∧ s.vm.findClass own = some m.cls ∧ (∀ w ∈ oa_T, w.before args s = true) ∧ oa_E D ca b0 s ∧ oa_W ad b0
def oa_Cy (p : Program) (l : Launch) (s : State) (m : MethodId) (args : Array Value) (meth : Method) (c : Code) (cc : ByteArray) (nL : Nat) (ret : Option FieldType) (own : String) (D : va_G) (ca : Nat → ClassId) (b0 : Nat) (ad : Nat → Nat → Nat) : Prop :=
  p.tables.exec = Jvm.exec ∧ c.code = cc ∧ c.maxLocals = nL ∧ meth.sig.returnType = ret ∧ meth.locks = false ∧ s.vm.findClass own = some m.cls ∧ (∀ w ∈ oa_T, w.before args s = true) ∧ oa_E D ca b0 s ∧ oa_W ad b0 ∧ l.stackTraces = false ∧ ∀ x ∈ c.exceptionTable.toList, False
theorem oa_ofW {y : MethodName} {ws ws' : List Cond} {rm : Room} {cc : ByteArray} {maxL : Nat} {ret : Option FieldType} {av : List Value} {Pb : State → Prop} {Qc : Array Value → State → Outcome → State → Prop} {mc ms : Nat} {free : Addr → Prop} (hy : plainName y.cls = true) (hw : ws = Cond.code y cc maxL ret :: ws') (hlen : (lg_sl av).length ≤ maxL)
    (body : ∀ p e s m below meth c, p.tables.exec = Jvm.exec → c.code = cc → c.maxLocals = maxL → meth.sig.returnType = ret → meth.locks = false → s.vm.findClass y.cls = some m.cls → (∀ w ∈ ws, w.before av.toArray s = true) → Pb s → ∀ ls, lv_has ls maxL (lv_args 0 av) →
      W p l e rm s m av.toArray below meth c s.heap [] 0 0 (MQ below Qc av.toArray s mc ms free) (F0 m 0 ls [])) : Met l y ws rm (va_Pc av Pb) Qc mc ms free := by
  refine Met.ofW (cc := cc) (maxL := maxL) (ret := ret) hy hw ?_
  intro p e s m args below meth c s₁ B hml hv
  obtain ⟨rfl, hP⟩ := hv
  rw [lg_entry_eq]
  exact body p e s m below meth c B.exec B.bytes hml B.returns B.notSynchronized (findClass_of_methodNamed B.named) (atoms_spec (ws := ws) B.pre) hP _ (lv_entry av hlen)
theorem oa_ofX {y : MethodName} {ws ws' : List Cond} {rm : Room} {cc : ByteArray} {maxL : Nat} {ret : Option FieldType} {av : List Value} {Pb : State → Prop} {Qc : Array Value → State → Outcome → State → Prop} {XC : String → State → State → Prop} {mc ms : Nat} {free : Addr → Prop} (hy : plainName y.cls = true) (hw : ws = Cond.code y cc maxL ret :: ws') (hlen : (lg_sl av).length ≤ maxL)
    (body : ∀ p e s m below meth c, p.tables.exec = Jvm.exec → c.code = cc → c.maxLocals = maxL → meth.sig.returnType = ret → meth.locks = false → s.vm.findClass y.cls = some m.cls → (∀ w ∈ ws, w.before av.toArray s = true) → (∀ x ∈ c.exceptionTable.toList, False) → Pb s → ∀ ls, lv_has ls maxL (lv_args 0 av) →
      W p l e rm s m av.toArray below meth c s.heap [] 0 0 (vx_MQ below Qc XC av.toArray s mc ms free) (F0 m 0 ls [])) : vx_Met l y ws rm (va_Pc av Pb) Qc XC mc ms free := by
  refine vx_ofW (cc := cc) (maxL := maxL) (ret := ret) hy hw ?_
  intro p e s m args below meth c s₁ B hml hx hv
  obtain ⟨rfl, hP⟩ := hv
  rw [lg_entry_eq]
  exact body p e s m below meth c B.exec B.bytes hml B.returns B.notSynchronized (findClass_of_methodNamed B.named) (atoms_spec (ws := ws) B.pre) hx hP _ (lv_entry av hlen)
variable {p : Program} {e : Env} {R : Room} {s : State} {m : MethodId} {args : Array Value} {below : List Frame} {meth : Method} {c : Code} {H : Heap} {locs : List Loc} {cells slots : Nat} {Q : State → Prop}
variable {cc : ByteArray} {pc : Nat} {ls : Array Slot} {rest : List Value}
theorem oa_reti {r r' : Int32} {M' : oa_M} {ty : FieldType} (hexec : p.tables.exec = Jvm.exec) (hb : c.code = cc) (hr : meth.sig.returnType = some ty) (hlocks : meth.locks = false) (hn : narrow ty (.int r) = .int r') (hS : va_S (fun q => b0 ≤ q) s.heap H locs) (hH : oa_H D ca ad M' H) (hdg : decode cc pc = .ok (.ireturn, 1)) :
    W p l e R s m args below meth c H locs cells slots (MQ below (va_Qi (fun (x : Int32) (u : oa_M) => x = r' ∧ u = M') (fun u t => oa_H D ca ad u t.heap) (fun q => b0 ≤ q)) args s cells slots (fun q => b0 ≤ q)) (F0 m pc ls [.int r]) :=
  oa_zret hexec hb hr hlocks hn (fun t ht _ => ⟨⟨r', M', rfl, ⟨rfl, rfl⟩, show oa_H D ca ad _ t.heap by rw [ht]; exact hH⟩, hS.F ht⟩) hS.2.2 hdg
theorem oa_retv {M' : oa_M} (hexec : p.tables.exec = Jvm.exec) (hb : c.code = cc) (hr : meth.sig.returnType = none) (hlocks : meth.locks = false) (hS : va_S (fun q => b0 ≤ q) s.heap H locs) (hH : oa_H D ca ad M' H) (hdg : decode cc pc = .ok (.return_, 1)) :
    W p l e R s m args below meth c H locs cells slots (MQ below (va_Qv (fun (u : oa_M) => u = M') (fun u t => oa_H D ca ad u t.heap) (fun q => b0 ≤ q)) args s cells slots (fun q => b0 ≤ q)) (F0 m pc ls []) :=
  W.vret hexec hb hr (fun t ht _ => ⟨⟨M', rfl, rfl, show oa_H D ca ad _ t.heap by rw [ht]; exact hH⟩, hS.F ht⟩) hS.2.2 hdg hlocks
theorem oa_rexi {r r' : Int32} {o : Nat × Int32 × oa_M} {ty : FieldType} (hexec : p.tables.exec = Jvm.exec) (hb : c.code = cc) (hr : meth.sig.returnType = some ty) (hlocks : meth.locks = false) (hn : narrow ty (.int r) = .int r') (ho : o = (0, r', M)) (hS : va_S (fun q => b0 ≤ q) s.heap H locs) (hH : oa_H D ca ad M H) (hdg : decode cc pc = .ok (.ireturn, 1)) :
    W p l e R s m args below meth c H locs cells slots (MQ below (va_Qi (fun (x : Int32) (u : oa_M) => o.1 = 0 ∧ x = o.2.1 ∧ u = o.2.2) (fun u t => oa_H D ca ad u t.heap) (fun q => b0 ≤ q)) args s cells slots (fun q => b0 ≤ q)) (F0 m pc ls [.int r]) := by
  subst ho
  exact oa_zret hexec hb hr hlocks hn (fun t ht _ => ⟨⟨r', M, rfl, ⟨rfl, rfl, rfl⟩, show oa_H D ca ad _ t.heap by rw [ht]; exact hH⟩, hS.F ht⟩) hS.2.2 hdg
theorem oa_rexv {o : Nat × oa_M} (hexec : p.tables.exec = Jvm.exec) (hb : c.code = cc) (hr : meth.sig.returnType = none) (hlocks : meth.locks = false) (ho : o = (0, M)) (hS : va_S (fun q => b0 ≤ q) s.heap H locs) (hH : oa_H D ca ad M H) (hdg : decode cc pc = .ok (.return_, 1)) :
    W p l e R s m args below meth c H locs cells slots (MQ below (va_Qv (fun (u : oa_M) => o.1 = 0 ∧ u = o.2) (fun u t => oa_H D ca ad u t.heap) (fun q => b0 ≤ q)) args s cells slots (fun q => b0 ≤ q)) (F0 m pc ls []) := by
  subst ho
  exact W.vret hexec hb hr (fun t ht _ => ⟨⟨M, rfl, ⟨rfl, rfl⟩, show oa_H D ca ad _ t.heap by rw [ht]; exact hH⟩, hS.F ht⟩) hS.2.2 hdg hlocks
/-- who is called: an object of the kind k -/
theorem oa_recv {k i ci : Nat} {fs : List Value} {q : vw_C} (hE : oa_E D ca b0 s) (hH : oa_H D ca ad M H) (hi : i < oa_n k) (he : oa_cr ca ad k i (M k i) = .inr (ci, fs)) (hc : vwCl[ci]? = some q) : ∃ cell : Cell, H[ad k i]? = some cell ∧ cell.vm.isStatics = false ∧ s.vm.findClass q.1 = some cell.cls :=
  va_recv (q0 := 0) hE.1 (oa_at hH k i hi he) hc rfl
variable {y : MethodName} {bytes : ByteArray} {maxL nL n index : Nat} {ret : Option FieldType} {ws Ts : List Cond} {rm : Room} {own C : String} {As st0 : List Value} {M' : oa_M} {r : Int32}
theorem oa_cvi (S : CallFix p m c cc nL s args Ts own) {k i : Nat} (hM : oa_Mi l y ws rm D ca ad b0 (.ref (ad k i) :: As) M r M') (cw : CallW R s args own C index y bytes maxL ret ws rm 0 0 n) (hE : oa_E D ca b0 s) (hH : oa_H D ca ad M H) (hS : va_S (fun q => b0 ≤ q) s.heap H locs) (hrc : ∃ cell : Cell, H[ad k i]? = some cell ∧ cell.vm.isStatics = false ∧ s.vm.findClass C = some cell.cls)
    (hn : As.length = n) (hsize : ls.size = nL) (hstack : st0 = As.reverse ++ .ref (ad k i) :: rest) (hW : (rest.map fun v => v.category).sum ≤ 8) (hdg : decode cc pc = .ok (.invokevirtual index, 3)) (hf : cells ≤ R.cells ∧ slots ≤ R.slots)
    (kk : ∀ (H1 : Heap) (locs1 : List Loc), oa_H D ca ad M' H1 → va_S (fun q => b0 ≤ q) s.heap H1 locs1 → W p l e R s m args below meth c H1 locs1 cells slots Q (F0 m (pc + 3) ls (.int r :: rest))) : W p l e R s m args below meth c H locs cells slots Q (F0 m pc ls st0) := by
  refine va_calli (va_runV (As := As) (rest := rest) S hM cw ⟨oa_blind D ca ad b0 M _, hrc, fun U hU hW => ⟨rfl, by rw [hU]; exact hH, hE.call hS hU hW⟩⟩ rfl hn hsize hstack (lv_room hW) hdg hf) hS (fun q _ h => h) (fun q h => h) (fun r9 u t H1 locs1 ht hvm hw hB hz hk hS1 => ?_)
  obtain ⟨rfl, rfl⟩ := hw
  rw [ht] at hB
  exact kk H1 locs1 hB hS1
theorem oa_cvv (S : CallFix p m c cc nL s args Ts own) {k i : Nat} (hM : oa_Mv l y ws rm D ca ad b0 (.ref (ad k i) :: As) M M') (cw : CallW R s args own C index y bytes maxL ret ws rm 0 0 n) (hE : oa_E D ca b0 s) (hH : oa_H D ca ad M H) (hS : va_S (fun q => b0 ≤ q) s.heap H locs) (hrc : ∃ cell : Cell, H[ad k i]? = some cell ∧ cell.vm.isStatics = false ∧ s.vm.findClass C = some cell.cls)
    (hn : As.length = n) (hsize : ls.size = nL) (hstack : st0 = As.reverse ++ .ref (ad k i) :: rest) (hW : (rest.map fun v => v.category).sum ≤ 8) (hdg : decode cc pc = .ok (.invokevirtual index, 3)) (hf : cells ≤ R.cells ∧ slots ≤ R.slots)
    (kk : ∀ (H1 : Heap) (locs1 : List Loc), oa_H D ca ad M' H1 → va_S (fun q => b0 ≤ q) s.heap H1 locs1 → W p l e R s m args below meth c H1 locs1 cells slots Q (F0 m (pc + 3) ls rest)) : W p l e R s m args below meth c H locs cells slots Q (F0 m pc ls st0) := by
  refine va_callv (va_runV (As := As) (rest := rest) S hM cw ⟨oa_blind D ca ad b0 M _, hrc, fun U hU hW => ⟨rfl, by rw [hU]; exact hH, hE.call hS hU hW⟩⟩ rfl hn hsize hstack (lv_room hW) hdg hf) hS (fun q _ h => h) (fun q h => h) (fun u t H1 locs1 ht hvm hw hB hz hk hS1 => ?_)
  cases hw
  rw [ht] at hB
  exact kk H1 locs1 hB hS1
theorem oa_csi (S : CallFix p m c cc nL s args Ts own) (hM : oa_Mi l y ws rm D ca ad b0 As M r M') (cw : CallB R s args own index y bytes maxL ret ws rm 0 0 n ∧ (Cond.static y).before args s = true) (hE : oa_E D ca b0 s) (hH : oa_H D ca ad M H) (hS : va_S (fun q => b0 ≤ q) s.heap H locs)
    (hn : As.length = n) (hsize : ls.size = nL) (hstack : st0 = As.reverse ++ rest) (hW : (rest.map fun v => v.category).sum ≤ 8) (hdg : decode cc pc = .ok (.invokestatic index, 3)) (hf : cells ≤ R.cells ∧ slots ≤ R.slots)
    (kk : ∀ (H1 : Heap) (locs1 : List Loc), oa_H D ca ad M' H1 → va_S (fun q => b0 ≤ q) s.heap H1 locs1 → W p l e R s m args below meth c H1 locs1 cells slots Q (F0 m (pc + 3) ls (.int r :: rest))) : W p l e R s m args below meth c H locs cells slots Q (F0 m pc ls st0) := by
  refine va_calli (va_runS (As := As) (rest := rest) S hM cw ⟨oa_blind D ca ad b0 M _, fun U hU hW => ⟨rfl, by rw [hU]; exact hH, hE.call hS hU hW⟩⟩ rfl hn hsize hstack (lv_room hW) hdg hf) hS (fun q _ h => h) (fun q h => h) (fun r9 u t H1 locs1 ht hvm hw hB hz hk hS1 => ?_)
  obtain ⟨rfl, rfl⟩ := hw
  rw [ht] at hB
  exact kk H1 locs1 hB hS1
theorem oa_cxv (S : CallFix p m c cc nL s args Ts own) {k i : Nat} {cd mc mc0 : Nat} {o2 : Nat × Int32 × oa_M} (hM : oa_Xv l y ws rm mc0 D ca ad b0 (.ref (ad k i) :: As) M (cd, M')) (cw : CallW R s args own C index y bytes maxL ret ws rm mc0 (6 * mc0) n) (hE : oa_E D ca b0 s) (hH : oa_H D ca ad M H) (hS : va_S (fun q => b0 ≤ q) s.heap H locs) (hrc : ∃ cell : Cell, H[ad k i]? = some cell ∧ cell.vm.isStatics = false ∧ s.vm.findClass C = some cell.cls)
    (hn : As.length = n) (hsize : ls.size = nL) (hstack : st0 = As.reverse ++ .ref (ad k i) :: rest) (hW : (rest.map fun v => v.category).sum ≤ 8) (hdg : decode cc pc = .ok (.invokevirtual index, 3)) (hf : cells + mc0 ≤ R.cells ∧ slots + 6 * mc0 ≤ R.slots) (hnt : ∀ x ∈ c.exceptionTable.toList, False) (hlocks : meth.locks = false) (hc : cells + mc0 ≤ mc) (hs : slots + 6 * mc0 ≤ 6 * mc) (hfx : cd ≠ 0 → o2 = (cd, 0, M'))
    (kk : cd = 0 → ∀ (H1 : Heap) (locs1 : List Loc), oa_H D ca ad M' H1 → va_S (fun q => b0 ≤ q) s.heap H1 locs1 → W p l e R s m args below meth c H1 locs1 (cells + mc0) (slots + 6 * mc0) (vx_MQ below (va_Qi (fun (r' : Int32) (u : oa_M) => o2.1 = 0 ∧ r' = o2.2.1 ∧ u = o2.2.2) (fun u t => oa_H D ca ad u t.heap) (fun q => b0 ≤ q)) (vx_X (fun u : oa_M => o2.1 ≠ 0 ∧ u = o2.2.2) (fun E u t => E = oa_x o2.1 ∧ oa_H D ca ad u t.heap) (fun q => b0 ≤ q)) args s mc (6 * mc) (fun q => b0 ≤ q)) (F0 m (pc + 3) ls rest)) :
    W p l e R s m args below meth c H locs cells slots (vx_MQ below (va_Qi (fun (r' : Int32) (u : oa_M) => o2.1 = 0 ∧ r' = o2.2.1 ∧ u = o2.2.2) (fun u t => oa_H D ca ad u t.heap) (fun q => b0 ≤ q)) (vx_X (fun u : oa_M => o2.1 ≠ 0 ∧ u = o2.2.2) (fun E u t => E = oa_x o2.1 ∧ oa_H D ca ad u t.heap) (fun q => b0 ≤ q)) args s mc (6 * mc) (fun q => b0 ≤ q)) (F0 m pc ls st0) := by
  refine vx_callv (vx_runV (As := As) (rest := rest) S hM cw ⟨oa_blind D ca ad b0 M _, hrc, fun U hU hW => ⟨rfl, by rw [hU]; exact hH, hE.call hS hU hW⟩⟩ rfl hn hsize hstack (lv_room hW) hdg hf) hS (fun q _ h => h) (fun q h => h) (fun q _ h => h) ?_ ?_
  · intro E ce q9 u t H1 locs1 ht hvm hpx hB hz hk hS1 hce hcv hcl
    obtain ⟨hcd, rfl⟩ := hpx
    obtain ⟨hX, hH1⟩ := hB
    rw [ht] at hH1
    have ho := hfx hcd
    subst ho
    exact vx_out (fun x hx => (hnt x hx).elim) hlocks hce hcv hcl (fun t ht _ => ⟨u, ⟨hcd, rfl⟩, ⟨hX, by rw [ht]; exact hH1⟩, hS1.F ht⟩) hS1.2.2 hc hs
  · intro u t H1 locs1 ht hvm hw hB hz hk hS1
    obtain ⟨hcd, rfl⟩ := hw
    rw [ht] at hB
    exact kk hcd H1 locs1 hB hS1
/-- a throw: new, dup, ldc, invokespecial, athrow -/
theorem oa_thr {own cls text X : String} {names : List String} {ik is ic mc ms : Nat} {Qc : Array Value → State → Outcome → State → Prop} {px : oa_M → Prop} (hexec : p.tables.exec = Jvm.exec) (hb : c.code = cc) (hl : l.stackTraces = false)
    (hown : s.vm.findClass own = some m.cls) (hcls : Bundle.fit cls = true) (hnames : ∀ n ∈ names, Bundle.fit n = true) (hk : (Cond.classLink own ik cls).before args s = true) (hini : (Cond.initialized cls).before args s = true) (hstr : ∃ sa, vk_R own is text sa s) (hat : ∀ w ∈ vx_atS own ic cls names, w.before args s = true)
    (hgood : ∀ w ∈ Cond.classLink own ik cls :: Cond.initialized cls :: vx_atS own ic cls names, vx_ot w = true) (hE : oa_E D ca b0 s) (hS : va_S (fun q => b0 ≤ q) s.heap H locs) (hH : oa_H D ca ad M H) (hsize : ls.size = c.maxLocals)
    (d0 : decode cc pc = .ok (.new ik, 3)) (d3 : decode cc (pc + 3) = .ok (.dup, 1)) (d4 : decode cc (pc + 4) = .ok (.ldc is, 2)) (d6 : decode cc (pc + 6) = .ok (.invokespecial ic, 3)) (d9 : decode cc (pc + 9) = .ok (.athrow, 1))
    (hnt : ∀ x ∈ c.exceptionTable.toList, False) (hRframes : names.length + 3 < R.frames) (hRlocals : (rest.map fun v => v.category).sum + (13 * (names.length + 1) + 43) ≤ R.locals) (hRcells : cells + 1 ≤ R.cells) (hRslots : slots + 6 ≤ R.slots) (hlocks : meth.locks = false) (hpx : px M) (hX : cls = X) (hc : cells + 1 ≤ mc) (hs : slots + 6 ≤ ms) :
    W p l e R s m args below meth c H locs cells slots (vx_MQ below Qc (vx_X px (fun E u t => E = X ∧ oa_H D ca ad u t.heap) (fun q => b0 ≤ q)) args s mc ms (fun q => b0 ≤ q)) (F0 m pc ls rest) := by
  obtain ⟨sa, hsa⟩ := hstr
  exact vx_throwS hexec hb hl hown hcls hnames hk hini hsa hat hgood hE.2.2.1 hE.2.2.2.1 hS hsize d0 d3 d4 d6 d9 (fun x hx => (hnt x hx).elim) hRframes hRlocals hRcells hRslots hlocks
    (fun t _ hz hq => ⟨M, hpx, ⟨hX, hH.kept hq⟩, Nat.le_trans hS.1 hz, fun q h1 h2 => (hq q (Nat.lt_of_lt_of_le h1 hS.1)).trans (hS.2.1 q h1 h2)⟩) hS.2.2 hc hs
end OAC
section OAX
variable {D : va_G} {ca : Nat → ClassId} {b0 : Nat} {s : State} {args : Array Value}
abbrev oa_nm : List String := ["java/lang/RuntimeException", "java/lang/Exception"]
def oa_bad (X : String) : List Cond := [.declares ⟨"java/lang/RuntimeException", "<init>", "(Ljava/lang/String;)V"⟩, .declares ⟨"java/lang/Exception", "<init>", "(Ljava/lang/String;)V"⟩, .declares ⟨"java/lang/Throwable", "<init>", "(Ljava/lang/String;)V"⟩, .castable X X]
theorem oa_badok (hE : oa_E D ca b0 s) {X : String} (hX : X ∈ oa_cn) : ∀ w ∈ oa_bad X, w.before args s = true :=
  vx_c (va_Nw.use rfl (hE.2.2.2.2.2.1 _ (by decide))) (vx_c (va_Nw.use rfl (hE.2.2.2.2.2.1 _ (by decide))) (vx_c (va_Nw.use rfl (hE.2.2.2.2.2.1 _ (by decide))) (vx_c (va_Nw.use rfl (hE.2.2.2.2.2.2.1 _ hX)) vx_n)))
theorem oa_g59 : ∀ w ∈ (vx_atS RX4 59 "java/lang/IllegalArgumentException" oa_nm).filter goodWord, w ∈ oa_T := by decide +kernel
theorem oa_g69 : ∀ w ∈ (vx_atS RX4 69 "java/lang/IllegalStateException" oa_nm).filter goodWord, w ∈ oa_T := by decide +kernel
theorem oa_g132 : ∀ w ∈ (vx_atS RX4 132 "java/lang/IndexOutOfBoundsException" oa_nm).filter goodWord, w ∈ oa_T := by decide +kernel
theorem oa_at59 (hts : ∀ w ∈ oa_T, w.before args s = true) (hE : oa_E D ca b0 s) : ∀ w ∈ vx_atS RX4 59 "java/lang/IllegalArgumentException" oa_nm, w.before args s = true := vx_hat (fun w h => hts w (oa_g59 w h)) (B := oa_bad "java/lang/IllegalArgumentException") (by decide +kernel) (oa_badok hE (by decide))
theorem oa_at69 (hts : ∀ w ∈ oa_T, w.before args s = true) (hE : oa_E D ca b0 s) : ∀ w ∈ vx_atS RX4 69 "java/lang/IllegalStateException" oa_nm, w.before args s = true := vx_hat (fun w h => hts w (oa_g69 w h)) (B := oa_bad "java/lang/IllegalStateException") (by decide +kernel) (oa_badok hE (by decide))
theorem oa_at132 (hts : ∀ w ∈ oa_T, w.before args s = true) (hE : oa_E D ca b0 s) : ∀ w ∈ vx_atS RX4 132 "java/lang/IndexOutOfBoundsException" oa_nm, w.before args s = true := vx_hat (fun w h => hts w (oa_g132 w h)) (B := oa_bad "java/lang/IndexOutOfBoundsException") (by decide +kernel) (oa_badok hE (by decide))
end OAX

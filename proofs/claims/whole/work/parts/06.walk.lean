def m_AOA (U : State) : Prop := (Cond.arrayOver (.array .long)).before #[] U = true
theorem m_AOA.moved {u U : State} (hvm : u.vm.Alike U.vm) (h : m_AOA u) : m_AOA U := by
  unfold m_AOA Cond.before Cond.holds at h ⊢
  simp only [Cond.value] at h ⊢
  have e1 : ∀ n, U.vm.findClass n = u.vm.findClass n := fun n => hvm.findClass ..
  have e2 : ∀ comp : ClassId, (U.vm.classes.findIdx? fun (x : Class) => match x.kind with | .array component _ => component == comp | _ => false) = (u.vm.classes.findIdx? fun (x : Class) => match x.kind with | .array component _ => component == comp | _ => false) := by
    intro comp
    have a1 := va_idx_bare U.vm comp
    have a2 := va_idx_bare u.vm comp
    have a3 : U.vm.bare = u.vm.bare := by first | exact hvm.bare_eq | exact hvm.bare_eq.symm
    rw [a3] at a1
    exact a1.symm.trans a2
  rw [beq_iff_eq] at h ⊢
  rw [e1]
  cases hc : u.vm.findClass (FieldType.array FieldType.long).toString with
  | none => rw [hc] at h; cases h
  | some comp =>
    rw [hc, Option.bind_some] at h
    rw [Option.bind_some]
    obtain ⟨c, hi, h2⟩ := Option.bind_eq_some_iff.mp h
    obtain ⟨k, hk, hb⟩ := Option.map_eq_some_iff.mp h2
    obtain ⟨k', hk', he⟩ := hvm.2.2 _ _ hk
    refine Option.bind_eq_some_iff.mpr ⟨c, (e2 comp).trans hi, Option.map_eq_some_iff.mpr ⟨k', hk', ?_⟩⟩
    rw [he, e1]
    exact hb
/-- what is known of the classes, and of arrays of objects and of rows -/
def m_Kn (D : va_G) (s : State) : Prop := va_K D vwCl [] s ∧ va_AO RX8 s ∧ m_AOA s
theorem m_Kn.moved {D : va_G} {u U : State} (hvm : u.vm.Alike U.vm) (h : m_Kn D u) : m_Kn D U := ⟨h.1.moved hvm, h.2.1.moved hvm, h.2.2.moved hvm⟩
/-! ===== THE WALK: a method at a place, its locals, its stack, its memory ===== -/
def m_rm (d mc ms : Nat) : Room := { frames := d, cells := mc, slots := ms, locals := 41 * d + 32 }
abbrev mQ : Type := Option Value → mT → mM → Prop
def m_Qc (D : va_G) (b : Nat) (Q : mQ) : Array Value → State → Outcome → State → Prop := fun _ st o t => (∃ (v : Option Value) (Th : mT) (M : mM), o = .returned v ∧ Q v Th M ∧ m_Kn D t ∧ m_R D t b Th M t.heap) ∧ va_F (fun q => b ≤ q) st t
def m_Pc (D : va_G) (b : Nat) (av : List Value) (Th : mT) (M : mM) : Array Value → State → Prop := va_Pc av (fun U => m_Kn D U ∧ m_R D U b Th M U.heap)
/-- a method's contract: from these arguments and this memory it returns with Q; d frames, mc cells of ms slots -/
def m_C (d mc ms : Nat) (y : MethodName) (cc : ByteArray) (nL : Nat) (ret : Option FieldType) (av : List Value) (Th : mT) (M : mM) (Q : mQ) : Prop :=
  ∀ (l : Launch) (D : va_G) (b : Nat), Met l y (.code y cc nL ret :: lw_ok) (m_rm d mc ms) (m_Pc D b av Th M) (m_Qc D b Q) mc ms (fun q => b ≤ q)
def m_X (D : va_G) (y : MethodName) (cc : ByteArray) (nL : Nat) (ret : Option FieldType) (p : Program) (s : State) (m : MethodId) (args : Array Value) (meth : Method) (c : Code) : Prop :=
  p.tables.exec = Jvm.exec ∧ c.code = cc ∧ meth.sig.returnType = ret ∧ c.maxLocals = nL ∧ s.vm.findClass y.cls = some m.cls ∧ (∀ w ∈ lw_ok, w.before args s = true) ∧ meth.locks = false ∧ (y.name = "<init>" → meth.name = y.name) ∧ m_Kn D s
def m_W (d mc ms : Nat) (y : MethodName) (cc : ByteArray) (nL : Nat) (ret : Option FieldType) (Q : mQ) (pc : Nat) (lv : List (Nat × Value)) (st : List Value) (Th : mT) (M : mM) (cells slots : Nat) : Prop :=
  ∀ (p : Program) (l : Launch) (e : Env) (s : State) (m : MethodId) (args : Array Value) (below : List Frame) (meth : Method) (c : Code) (D : va_G) (b : Nat) (H : Heap) (locs : List Loc) (ls : Array Slot),
    m_X D y cc nL ret p s m args meth c → b ≤ s.heap.size → m_R D s b Th M H → va_S (fun q => b ≤ q) s.heap H locs → lv_has ls nL lv →
    W p l e (m_rm d mc ms) s m args below meth c H locs cells slots (MQ below (m_Qc D b Q) args s mc ms (fun q => b ≤ q)) (F0 m pc ls st)
section MW
variable {d mc ms : Nat} {yy : MethodName} {cc : ByteArray} {nL : Nat} {ret : Option FieldType} {Q : mQ} {pc : Nat} {lv : List (Nat × Value)} {rest : List Value} {Th : mT} {M : mM} {cells slots : Nat}
theorem m_C.of {av : List Value} (hy : plainName yy.cls = true) (hn : (lg_sl av).length ≤ nL) (k : m_W d mc ms yy cc nL ret Q 0 (lv_args 0 av) [] Th M 0 0) : m_C d mc ms yy cc nL ret av Th M Q := by
  intro l D b
  refine Met.ofW (cc := cc) (maxL := nL) (ret := ret) hy rfl ?_
  intro p e s m args below meth c s₁ B hml hv
  obtain ⟨rfl, hK, hR⟩ := hv
  have hts := atoms_spec (ws := .code yy cc nL ret :: lw_ok) B.pre
  have hown : s.vm.findClass yy.cls = some m.cls := findClass_of_methodNamed B.named
  have hl := lv_entry av (n := nL) hn
  rw [lg_entry_eq]
  exact k p l e s m _ below meth c D b s.heap [] _ ⟨B.exec, B.bytes, B.returns, hml, hown, fun w hw => hts w (List.mem_cons_of_mem _ hw), B.notSynchronized, (fun _ => (name_of_methodNamed B.named B.method).1), hK⟩ hR.2.1 hR va_S.rf hl
theorem m_C.mono {av : List Value} {Q' : mQ} (h : m_C d mc ms yy cc nL ret av Th M Q) (hQ : ∀ v Th' M', Q v Th' M' → Q' v Th' M') : m_C d mc ms yy cc nL ret av Th M Q' := by
  intro l D b
  refine MetFree.mono (h l D b) (fun _ _ hp => hp) (fun _ _ _ _ _ _ => trivial) ?_
  rintro a st o t - ⟨⟨⟨v, Th', M', h1, h2, h3⟩, h4⟩, h5⟩
  exact ⟨⟨⟨v, Th', M', h1, hQ _ _ _ h2, h3⟩, h4⟩, h5⟩
theorem m_sub (ks : List Nat) {lv' : List (Nat × Value)} (h : lv_pick lv ks = lv') (k : m_W d mc ms yy cc nL ret Q pc lv' rest Th M cells slots) : m_W d mc ms yy cc nL ret Q pc lv rest Th M cells slots :=
  fun _ _ _ _ _ _ _ _ _ _ _ _ _ _ X hb R S hl => k _ _ _ _ _ _ _ _ _ _ _ _ _ _ X hb R S (lv_sub hl ks h)
theorem m_iconst {n : Int} {v : Int32} (hd : decode cc pc = .ok (.iconst n, 1)) (hv : Int32.ofInt n = v) (k : m_W d mc ms yy cc nL ret Q (pc + 1) lv (.int v :: rest) Th M cells slots) : m_W d mc ms yy cc nL ret Q pc lv rest Th M cells slots :=
  fun _ _ _ _ _ _ _ _ _ _ _ _ _ _ X hb R S hl => lv_iconst X.1 X.2.1 hd hv (k _ _ _ _ _ _ _ _ _ _ _ _ _ _ X hb R S hl)
theorem m_bipush {n : Int} {v : Int32} (hd : decode cc pc = .ok (.bipush n, 2)) (hv : (Int8.ofInt n).toInt32 = v) (k : m_W d mc ms yy cc nL ret Q (pc + 2) lv (.int v :: rest) Th M cells slots) : m_W d mc ms yy cc nL ret Q pc lv rest Th M cells slots :=
  fun _ _ _ _ _ _ _ _ _ _ _ _ _ _ X hb R S hl => lv_bipush X.1 X.2.1 hd hv (k _ _ _ _ _ _ _ _ _ _ _ _ _ _ X hb R S hl)
theorem m_sipush {n : Int} {v : Int32} (hd : decode cc pc = .ok (.sipush n, 3)) (hv : (Int16.ofInt n).toInt32 = v) (k : m_W d mc ms yy cc nL ret Q (pc + 3) lv (.int v :: rest) Th M cells slots) : m_W d mc ms yy cc nL ret Q pc lv rest Th M cells slots :=
  fun _ _ _ _ _ _ _ _ _ _ _ _ _ _ X hb R S hl => lv_sipush X.1 X.2.1 hd hv (k _ _ _ _ _ _ _ _ _ _ _ _ _ _ X hb R S hl)
theorem m_lconst {n : Fin 2} {v : Int64} (hd : decode cc pc = .ok (.lconst n, 1)) (hv : Int64.ofNat (n : Nat) = v) (k : m_W d mc ms yy cc nL ret Q (pc + 1) lv (.long v :: rest) Th M cells slots) : m_W d mc ms yy cc nL ret Q pc lv rest Th M cells slots :=
  fun _ _ _ _ _ _ _ _ _ _ _ _ _ _ X hb R S hl => lv_lconst X.1 X.2.1 hd hv (k _ _ _ _ _ _ _ _ _ _ _ _ _ _ X hb R S hl)
theorem m_iload_n {k0 : Fin 4} {i : Nat} {x : Int32} (hd : decode cc pc = .ok (.iload_n k0, 1)) (hi : (k0 : Nat) = i) (j : Nat) (hj : lv[j]? = some (i, Value.int x)) (k : m_W d mc ms yy cc nL ret Q (pc + 1) lv (.int x :: rest) Th M cells slots) : m_W d mc ms yy cc nL ret Q pc lv rest Th M cells slots :=
  fun _ _ _ _ _ _ _ _ _ _ _ _ _ _ X hb R S hl => lv_iload_n X.1 X.2.1 hd hi (lv_at hl j hj) (k _ _ _ _ _ _ _ _ _ _ _ _ _ _ X hb R S hl)
theorem m_iload {i : Nat} {x : Int32} (hd : decode cc pc = .ok (.iload i, 2)) (j : Nat) (hj : lv[j]? = some (i, Value.int x)) (k : m_W d mc ms yy cc nL ret Q (pc + 2) lv (.int x :: rest) Th M cells slots) : m_W d mc ms yy cc nL ret Q pc lv rest Th M cells slots :=
  fun _ _ _ _ _ _ _ _ _ _ _ _ _ _ X hb R S hl => lv_iload X.1 X.2.1 hd (lv_at hl j hj) (k _ _ _ _ _ _ _ _ _ _ _ _ _ _ X hb R S hl)
theorem m_istore_n {k0 : Fin 4} {i : Nat} {x : Int32} {lv' : List (Nat × Value)} (hd : decode cc pc = .ok (.istore_n k0, 1)) (hi : (k0 : Nat) = i) (hn : i < nL) (he : (i, Value.int x) :: lv.filter (fun q => !(q.1 == i) && !(q.1 + 1 == i && q.2.category == 2)) = lv') (k : m_W d mc ms yy cc nL ret Q (pc + 1) lv' rest Th M cells slots) : m_W d mc ms yy cc nL ret Q pc lv (.int x :: rest) Th M cells slots :=
  fun _ _ _ _ _ _ _ _ _ _ _ _ _ _ X hb R S hl => lv_istore_n X.1 X.2.1 hd hi hl hn he (fun _ hl => k _ _ _ _ _ _ _ _ _ _ _ _ _ _ X hb R S hl)
theorem m_istore {i : Nat} {x : Int32} {lv' : List (Nat × Value)} (hd : decode cc pc = .ok (.istore i, 2)) (hn : i < nL) (he : (i, Value.int x) :: lv.filter (fun q => !(q.1 == i) && !(q.1 + 1 == i && q.2.category == 2)) = lv') (k : m_W d mc ms yy cc nL ret Q (pc + 2) lv' rest Th M cells slots) : m_W d mc ms yy cc nL ret Q pc lv (.int x :: rest) Th M cells slots :=
  fun _ _ _ _ _ _ _ _ _ _ _ _ _ _ X hb R S hl => lv_istore X.1 X.2.1 hd hl hn he (fun _ hl => k _ _ _ _ _ _ _ _ _ _ _ _ _ _ X hb R S hl)
theorem m_lload_n {k0 : Fin 4} {i : Nat} {x : Int64} (hd : decode cc pc = .ok (.lload_n k0, 1)) (hi : (k0 : Nat) = i) (j : Nat) (hj : lv[j]? = some (i, Value.long x)) (k : m_W d mc ms yy cc nL ret Q (pc + 1) lv (.long x :: rest) Th M cells slots) : m_W d mc ms yy cc nL ret Q pc lv rest Th M cells slots :=
  fun _ _ _ _ _ _ _ _ _ _ _ _ _ _ X hb R S hl => lv_lload_n X.1 X.2.1 hd hi (lv_at hl j hj) (k _ _ _ _ _ _ _ _ _ _ _ _ _ _ X hb R S hl)
theorem m_lload {i : Nat} {x : Int64} (hd : decode cc pc = .ok (.lload i, 2)) (j : Nat) (hj : lv[j]? = some (i, Value.long x)) (k : m_W d mc ms yy cc nL ret Q (pc + 2) lv (.long x :: rest) Th M cells slots) : m_W d mc ms yy cc nL ret Q pc lv rest Th M cells slots :=
  fun _ _ _ _ _ _ _ _ _ _ _ _ _ _ X hb R S hl => lv_lload X.1 X.2.1 hd (lv_at hl j hj) (k _ _ _ _ _ _ _ _ _ _ _ _ _ _ X hb R S hl)
theorem m_lstore_n {k0 : Fin 4} {i : Nat} {x : Int64} {lv' : List (Nat × Value)} (hd : decode cc pc = .ok (.lstore_n k0, 1)) (hi : (k0 : Nat) = i) (hn : i + 1 < nL) (he : (i, Value.long x) :: lv.filter (fun q => !(q.1 == i) && (!(q.1 == i + 1) && !(q.1 + 1 == i && q.2.category == 2))) = lv') (k : m_W d mc ms yy cc nL ret Q (pc + 1) lv' rest Th M cells slots) : m_W d mc ms yy cc nL ret Q pc lv (.long x :: rest) Th M cells slots :=
  fun _ _ _ _ _ _ _ _ _ _ _ _ _ _ X hb R S hl => lv_lstore_n X.1 X.2.1 hd hi hl hn he (fun _ hl => k _ _ _ _ _ _ _ _ _ _ _ _ _ _ X hb R S hl)
theorem m_lstore {i : Nat} {x : Int64} {lv' : List (Nat × Value)} (hd : decode cc pc = .ok (.lstore i, 2)) (hn : i + 1 < nL) (he : (i, Value.long x) :: lv.filter (fun q => !(q.1 == i) && (!(q.1 == i + 1) && !(q.1 + 1 == i && q.2.category == 2))) = lv') (k : m_W d mc ms yy cc nL ret Q (pc + 2) lv' rest Th M cells slots) : m_W d mc ms yy cc nL ret Q pc lv (.long x :: rest) Th M cells slots :=
  fun _ _ _ _ _ _ _ _ _ _ _ _ _ _ X hb R S hl => lv_lstore X.1 X.2.1 hd hl hn he (fun _ hl => k _ _ _ _ _ _ _ _ _ _ _ _ _ _ X hb R S hl)
theorem m_aload_n {k0 : Fin 4} {i : Nat} {x : Nat} (hd : decode cc pc = .ok (.aload_n k0, 1)) (hi : (k0 : Nat) = i) (j : Nat) (hj : lv[j]? = some (i, Value.ref x)) (k : m_W d mc ms yy cc nL ret Q (pc + 1) lv (.ref x :: rest) Th M cells slots) : m_W d mc ms yy cc nL ret Q pc lv rest Th M cells slots :=
  fun _ _ _ _ _ _ _ _ _ _ _ _ _ _ X hb R S hl => lv_aload_n X.1 X.2.1 hd hi (lv_at hl j hj) (k _ _ _ _ _ _ _ _ _ _ _ _ _ _ X hb R S hl)
theorem m_aload {i : Nat} {x : Nat} (hd : decode cc pc = .ok (.aload i, 2)) (j : Nat) (hj : lv[j]? = some (i, Value.ref x)) (k : m_W d mc ms yy cc nL ret Q (pc + 2) lv (.ref x :: rest) Th M cells slots) : m_W d mc ms yy cc nL ret Q pc lv rest Th M cells slots :=
  fun _ _ _ _ _ _ _ _ _ _ _ _ _ _ X hb R S hl => lv_aload X.1 X.2.1 hd (lv_at hl j hj) (k _ _ _ _ _ _ _ _ _ _ _ _ _ _ X hb R S hl)
theorem m_astore_n {k0 : Fin 4} {i : Nat} {x : Nat} {lv' : List (Nat × Value)} (hd : decode cc pc = .ok (.astore_n k0, 1)) (hi : (k0 : Nat) = i) (hn : i < nL) (he : (i, Value.ref x) :: lv.filter (fun q => !(q.1 == i) && !(q.1 + 1 == i && q.2.category == 2)) = lv') (k : m_W d mc ms yy cc nL ret Q (pc + 1) lv' rest Th M cells slots) : m_W d mc ms yy cc nL ret Q pc lv (.ref x :: rest) Th M cells slots :=
  fun _ _ _ _ _ _ _ _ _ _ _ _ _ _ X hb R S hl => lv_astore_n X.1 X.2.1 hd hi hl hn he (fun _ hl => k _ _ _ _ _ _ _ _ _ _ _ _ _ _ X hb R S hl)
theorem m_astore {i : Nat} {x : Nat} {lv' : List (Nat × Value)} (hd : decode cc pc = .ok (.astore i, 2)) (hn : i < nL) (he : (i, Value.ref x) :: lv.filter (fun q => !(q.1 == i) && !(q.1 + 1 == i && q.2.category == 2)) = lv') (k : m_W d mc ms yy cc nL ret Q (pc + 2) lv' rest Th M cells slots) : m_W d mc ms yy cc nL ret Q pc lv (.ref x :: rest) Th M cells slots :=
  fun _ _ _ _ _ _ _ _ _ _ _ _ _ _ X hb R S hl => lv_astore X.1 X.2.1 hd hl hn he (fun _ hl => k _ _ _ _ _ _ _ _ _ _ _ _ _ _ X hb R S hl)
theorem m_iinc {i : Nat} {n : Int} {x v : Int32} {lv' : List (Nat × Value)} (hd : decode cc pc = .ok (.iinc i n, 3)) (j : Nat) (hj : lv[j]? = some (i, Value.int x)) (hv : x + Int32.ofInt n = v) (hn : i < nL) (he : (i, Value.int v) :: lv.filter (fun q => !(q.1 == i) && !(q.1 + 1 == i && q.2.category == 2)) = lv') (k : m_W d mc ms yy cc nL ret Q (pc + 3) lv' rest Th M cells slots) : m_W d mc ms yy cc nL ret Q pc lv rest Th M cells slots :=
  fun _ _ _ _ _ _ _ _ _ _ _ _ _ _ X hb R S hl => lv_iinc X.1 X.2.1 hd hl hj hv hn he (fun _ hl => k _ _ _ _ _ _ _ _ _ _ _ _ _ _ X hb R S hl)
theorem m_iadd {x y : Int32} (hd : decode cc pc = .ok (.iadd, 1)) (k : m_W d mc ms yy cc nL ret Q (pc + 1) lv (.int (x + y) :: rest) Th M cells slots) : m_W d mc ms yy cc nL ret Q pc lv (.int y :: .int x :: rest) Th M cells slots :=
  fun _ _ _ _ _ _ _ _ _ _ _ _ _ _ X hb R S hl => lv_iadd X.1 X.2.1 hd (k _ _ _ _ _ _ _ _ _ _ _ _ _ _ X hb R S hl)
theorem m_isub {x y : Int32} (hd : decode cc pc = .ok (.isub, 1)) (k : m_W d mc ms yy cc nL ret Q (pc + 1) lv (.int (x - y) :: rest) Th M cells slots) : m_W d mc ms yy cc nL ret Q pc lv (.int y :: .int x :: rest) Th M cells slots :=
  fun _ _ _ _ _ _ _ _ _ _ _ _ _ _ X hb R S hl => lv_isub X.1 X.2.1 hd (k _ _ _ _ _ _ _ _ _ _ _ _ _ _ X hb R S hl)
theorem m_imul {x y : Int32} (hd : decode cc pc = .ok (.imul, 1)) (k : m_W d mc ms yy cc nL ret Q (pc + 1) lv (.int (x * y) :: rest) Th M cells slots) : m_W d mc ms yy cc nL ret Q pc lv (.int y :: .int x :: rest) Th M cells slots :=
  fun _ _ _ _ _ _ _ _ _ _ _ _ _ _ X hb R S hl => lv_imul X.1 X.2.1 hd (k _ _ _ _ _ _ _ _ _ _ _ _ _ _ X hb R S hl)
theorem m_iand {x y : Int32} (hd : decode cc pc = .ok (.iand, 1)) (k : m_W d mc ms yy cc nL ret Q (pc + 1) lv (.int (x &&& y) :: rest) Th M cells slots) : m_W d mc ms yy cc nL ret Q pc lv (.int y :: .int x :: rest) Th M cells slots :=
  fun _ _ _ _ _ _ _ _ _ _ _ _ _ _ X hb R S hl => lv_iand X.1 X.2.1 hd (k _ _ _ _ _ _ _ _ _ _ _ _ _ _ X hb R S hl)
theorem m_ior {x y : Int32} (hd : decode cc pc = .ok (.ior, 1)) (k : m_W d mc ms yy cc nL ret Q (pc + 1) lv (.int (x ||| y) :: rest) Th M cells slots) : m_W d mc ms yy cc nL ret Q pc lv (.int y :: .int x :: rest) Th M cells slots :=
  fun _ _ _ _ _ _ _ _ _ _ _ _ _ _ X hb R S hl => lv_ior X.1 X.2.1 hd (k _ _ _ _ _ _ _ _ _ _ _ _ _ _ X hb R S hl)
theorem m_idiv {x y : Int32} (hd : decode cc pc = .ok (.idiv, 1)) (hne : ¬ y = 0) (k : m_W d mc ms yy cc nL ret Q (pc + 1) lv (.int (x / y) :: rest) Th M cells slots) : m_W d mc ms yy cc nL ret Q pc lv (.int y :: .int x :: rest) Th M cells slots :=
  fun _ _ _ _ _ _ _ _ _ _ _ _ _ _ X hb R S hl => lv_idiv X.1 X.2.1 hd hne (k _ _ _ _ _ _ _ _ _ _ _ _ _ _ X hb R S hl)
theorem m_irem {x y : Int32} (hd : decode cc pc = .ok (.irem, 1)) (hne : ¬ y = 0) (k : m_W d mc ms yy cc nL ret Q (pc + 1) lv (.int (x - x / y * y) :: rest) Th M cells slots) : m_W d mc ms yy cc nL ret Q pc lv (.int y :: .int x :: rest) Th M cells slots :=
  fun _ _ _ _ _ _ _ _ _ _ _ _ _ _ X hb R S hl => lv_irem X.1 X.2.1 hd hne (k _ _ _ _ _ _ _ _ _ _ _ _ _ _ X hb R S hl)
theorem m_ladd {x y : Int64} (hd : decode cc pc = .ok (.ladd, 1)) (k : m_W d mc ms yy cc nL ret Q (pc + 1) lv (.long (x + y) :: rest) Th M cells slots) : m_W d mc ms yy cc nL ret Q pc lv (.long y :: .long x :: rest) Th M cells slots :=
  fun _ _ _ _ _ _ _ _ _ _ _ _ _ _ X hb R S hl => lv_ladd X.1 X.2.1 hd (k _ _ _ _ _ _ _ _ _ _ _ _ _ _ X hb R S hl)
theorem m_lsub {x y : Int64} (hd : decode cc pc = .ok (.lsub, 1)) (k : m_W d mc ms yy cc nL ret Q (pc + 1) lv (.long (x - y) :: rest) Th M cells slots) : m_W d mc ms yy cc nL ret Q pc lv (.long y :: .long x :: rest) Th M cells slots :=
  fun _ _ _ _ _ _ _ _ _ _ _ _ _ _ X hb R S hl => lv_lsub X.1 X.2.1 hd (k _ _ _ _ _ _ _ _ _ _ _ _ _ _ X hb R S hl)
theorem m_lmul {x y : Int64} (hd : decode cc pc = .ok (.lmul, 1)) (k : m_W d mc ms yy cc nL ret Q (pc + 1) lv (.long (x * y) :: rest) Th M cells slots) : m_W d mc ms yy cc nL ret Q pc lv (.long y :: .long x :: rest) Th M cells slots :=
  fun _ _ _ _ _ _ _ _ _ _ _ _ _ _ X hb R S hl => lv_lmul X.1 X.2.1 hd (k _ _ _ _ _ _ _ _ _ _ _ _ _ _ X hb R S hl)
theorem m_ldiv {x y : Int64} (hd : decode cc pc = .ok (.ldiv, 1)) (hne : ¬ y = 0) (k : m_W d mc ms yy cc nL ret Q (pc + 1) lv (.long (x / y) :: rest) Th M cells slots) : m_W d mc ms yy cc nL ret Q pc lv (.long y :: .long x :: rest) Th M cells slots :=
  fun _ _ _ _ _ _ _ _ _ _ _ _ _ _ X hb R S hl => lv_ldiv X.1 X.2.1 hd hne (k _ _ _ _ _ _ _ _ _ _ _ _ _ _ X hb R S hl)
theorem m_lrem {x y : Int64} (hd : decode cc pc = .ok (.lrem, 1)) (hne : ¬ y = 0) (k : m_W d mc ms yy cc nL ret Q (pc + 1) lv (.long (x - x / y * y) :: rest) Th M cells slots) : m_W d mc ms yy cc nL ret Q pc lv (.long y :: .long x :: rest) Th M cells slots :=
  fun _ _ _ _ _ _ _ _ _ _ _ _ _ _ X hb R S hl => lv_lrem X.1 X.2.1 hd hne (k _ _ _ _ _ _ _ _ _ _ _ _ _ _ X hb R S hl)
theorem m_ishl {x y : Int32} (hd : decode cc pc = .ok (.ishl, 1)) (k : m_W d mc ms yy cc nL ret Q (pc + 1) lv (.int (x <<< (y &&& 31)) :: rest) Th M cells slots) : m_W d mc ms yy cc nL ret Q pc lv (.int y :: .int x :: rest) Th M cells slots :=
  fun _ _ _ _ _ _ _ _ _ _ _ _ _ _ X hb R S hl => lv_ishl X.1 X.2.1 hd (k _ _ _ _ _ _ _ _ _ _ _ _ _ _ X hb R S hl)
theorem m_ishr {x y : Int32} (hd : decode cc pc = .ok (.ishr, 1)) (k : m_W d mc ms yy cc nL ret Q (pc + 1) lv (.int (x >>> (y &&& 31)) :: rest) Th M cells slots) : m_W d mc ms yy cc nL ret Q pc lv (.int y :: .int x :: rest) Th M cells slots :=
  fun _ _ _ _ _ _ _ _ _ _ _ _ _ _ X hb R S hl => lv_ishr X.1 X.2.1 hd (k _ _ _ _ _ _ _ _ _ _ _ _ _ _ X hb R S hl)
theorem m_iushr {x y : Int32} (hd : decode cc pc = .ok (.iushr, 1)) (k : m_W d mc ms yy cc nL ret Q (pc + 1) lv (.int (x.toUInt32 >>> (y.toUInt32 &&& Int32.toUInt32 31)).toInt32 :: rest) Th M cells slots) : m_W d mc ms yy cc nL ret Q pc lv (.int y :: .int x :: rest) Th M cells slots :=
  fun _ _ _ _ _ _ _ _ _ _ _ _ _ _ X hb R S hl => lv_iushr X.1 X.2.1 hd rfl (k _ _ _ _ _ _ _ _ _ _ _ _ _ _ X hb R S hl)
theorem m_lshl {x : Int64} {y : Int32} (hd : decode cc pc = .ok (.lshl, 1)) (k : m_W d mc ms yy cc nL ret Q (pc + 1) lv (.long (x <<< (y.toInt64 &&& 63)) :: rest) Th M cells slots) : m_W d mc ms yy cc nL ret Q pc lv (.int y :: .long x :: rest) Th M cells slots :=
  fun _ _ _ _ _ _ _ _ _ _ _ _ _ _ X hb R S hl => lv_lshl X.1 X.2.1 hd rfl (k _ _ _ _ _ _ _ _ _ _ _ _ _ _ X hb R S hl)
theorem m_i2l {x : Int32} (hd : decode cc pc = .ok (.i2l, 1)) (k : m_W d mc ms yy cc nL ret Q (pc + 1) lv (.long x.toInt64 :: rest) Th M cells slots) : m_W d mc ms yy cc nL ret Q pc lv (.int x :: rest) Th M cells slots :=
  fun _ _ _ _ _ _ _ _ _ _ _ _ _ _ X hb R S hl => lv_i2l X.1 X.2.1 hd rfl (k _ _ _ _ _ _ _ _ _ _ _ _ _ _ X hb R S hl)
theorem m_l2i {x : Int64} (hd : decode cc pc = .ok (.l2i, 1)) (k : m_W d mc ms yy cc nL ret Q (pc + 1) lv (.int x.toInt32 :: rest) Th M cells slots) : m_W d mc ms yy cc nL ret Q pc lv (.long x :: rest) Th M cells slots :=
  fun _ _ _ _ _ _ _ _ _ _ _ _ _ _ X hb R S hl => lv_l2i X.1 X.2.1 hd rfl (k _ _ _ _ _ _ _ _ _ _ _ _ _ _ X hb R S hl)
theorem m_i2b {x : Int32} (hd : decode cc pc = .ok (.i2b, 1)) (k : m_W d mc ms yy cc nL ret Q (pc + 1) lv (.int x.toInt8.toInt32 :: rest) Th M cells slots) : m_W d mc ms yy cc nL ret Q pc lv (.int x :: rest) Th M cells slots :=
  fun _ _ _ _ _ _ _ _ _ _ _ _ _ _ X hb R S hl => lv_i2b X.1 X.2.1 hd rfl (k _ _ _ _ _ _ _ _ _ _ _ _ _ _ X hb R S hl)
theorem m_lcmp {x y : Int64} (hd : decode cc pc = .ok (.lcmp, 1)) (k : m_W d mc ms yy cc nL ret Q (pc + 1) lv (.int (lg_cmp x y) :: rest) Th M cells slots) : m_W d mc ms yy cc nL ret Q pc lv (.long y :: .long x :: rest) Th M cells slots :=
  fun _ _ _ _ _ _ _ _ _ _ _ _ _ _ X hb R S hl => W.lcmp X.1 X.2.1 hd (k _ _ _ _ _ _ _ _ _ _ _ _ _ _ X hb R S hl)
theorem m_dup {va : Value} (hd : decode cc pc = .ok (.dup, 1)) (hva : va.category = 1) (k : m_W d mc ms yy cc nL ret Q (pc + 1) lv (va :: va :: rest) Th M cells slots) : m_W d mc ms yy cc nL ret Q pc lv (va :: rest) Th M cells slots :=
  fun _ _ _ _ _ _ _ _ _ _ _ _ _ _ X hb R S hl => lv_dup X.1 X.2.1 hd hva (k _ _ _ _ _ _ _ _ _ _ _ _ _ _ X hb R S hl)
theorem m_pop {va : Value} (hd : decode cc pc = .ok (.pop, 1)) (hva : va.category = 1) (k : m_W d mc ms yy cc nL ret Q (pc + 1) lv rest Th M cells slots) : m_W d mc ms yy cc nL ret Q pc lv (va :: rest) Th M cells slots :=
  fun _ _ _ _ _ _ _ _ _ _ _ _ _ _ X hb R S hl => lv_pop X.1 X.2.1 hd hva (k _ _ _ _ _ _ _ _ _ _ _ _ _ _ X hb R S hl)
theorem m_dup2_2 {va : Value} (hd : decode cc pc = .ok (.dup2, 1)) (hva : va.category = 2) (k : m_W d mc ms yy cc nL ret Q (pc + 1) lv (va :: va :: rest) Th M cells slots) : m_W d mc ms yy cc nL ret Q pc lv (va :: rest) Th M cells slots :=
  fun _ _ _ _ _ _ _ _ _ _ _ _ _ _ X hb R S hl => lv_dup2_2 X.1 X.2.1 hd hva (k _ _ _ _ _ _ _ _ _ _ _ _ _ _ X hb R S hl)
theorem m_dup2_11 {va vb : Value} (hd : decode cc pc = .ok (.dup2, 1)) (hva : va.category = 1) (hvb : vb.category = 1) (k : m_W d mc ms yy cc nL ret Q (pc + 1) lv (va :: vb :: va :: vb :: rest) Th M cells slots) : m_W d mc ms yy cc nL ret Q pc lv (va :: vb :: rest) Th M cells slots :=
  fun _ _ _ _ _ _ _ _ _ _ _ _ _ _ X hb R S hl => lv_dup2_11 X.1 X.2.1 hd hva hvb (k _ _ _ _ _ _ _ _ _ _ _ _ _ _ X hb R S hl)
theorem m_pop2_2 {va : Value} (hd : decode cc pc = .ok (.pop2, 1)) (hva : va.category = 2) (k : m_W d mc ms yy cc nL ret Q (pc + 1) lv rest Th M cells slots) : m_W d mc ms yy cc nL ret Q pc lv (va :: rest) Th M cells slots :=
  fun _ _ _ _ _ _ _ _ _ _ _ _ _ _ X hb R S hl => lv_pop2_2 X.1 X.2.1 hd hva (k _ _ _ _ _ _ _ _ _ _ _ _ _ _ X hb R S hl)
theorem m_goto {off : Int} {tgt : Nat} (hd : decode cc pc = .ok (.goto off, 3)) (ht : (pc : Int) + off = (tgt : Int)) (k : m_W d mc ms yy cc nL ret Q tgt lv rest Th M cells slots) : m_W d mc ms yy cc nL ret Q pc lv rest Th M cells slots :=
  fun _ _ _ _ _ _ _ _ _ _ _ _ _ _ X hb R S hl => lv_goto X.1 X.2.1 hd ht (k _ _ _ _ _ _ _ _ _ _ _ _ _ _ X hb R S hl)
theorem m_if_eq {x : Int32} {off : Int} {tgt : Nat} (hd : decode cc pc = .ok (.ifCond .eq off, 3)) (ht : (pc : Int) + off = (tgt : Int)) (kt : (x = 0) → m_W d mc ms yy cc nL ret Q tgt lv rest Th M cells slots) (kf : ¬ (x = 0) → m_W d mc ms yy cc nL ret Q (pc + 3) lv rest Th M cells slots) : m_W d mc ms yy cc nL ret Q pc lv (.int x :: rest) Th M cells slots :=
  fun _ _ _ _ _ _ _ _ _ _ _ _ _ _ X hb R S hl => lv_if_eq X.1 X.2.1 hd ht (fun h => kt h _ _ _ _ _ _ _ _ _ _ _ _ _ _ X hb R S hl) (fun h => kf h _ _ _ _ _ _ _ _ _ _ _ _ _ _ X hb R S hl)
theorem m_icmp_eq {x y0 : Int32} {off : Int} {tgt : Nat} (hd : decode cc pc = .ok (.if_icmp .eq off, 3)) (ht : (pc : Int) + off = (tgt : Int)) (kt : (x = y0) → m_W d mc ms yy cc nL ret Q tgt lv rest Th M cells slots) (kf : ¬ (x = y0) → m_W d mc ms yy cc nL ret Q (pc + 3) lv rest Th M cells slots) : m_W d mc ms yy cc nL ret Q pc lv (.int y0 :: .int x :: rest) Th M cells slots :=
  fun _ _ _ _ _ _ _ _ _ _ _ _ _ _ X hb R S hl => lv_icmp_eq X.1 X.2.1 hd ht (fun h => kt h _ _ _ _ _ _ _ _ _ _ _ _ _ _ X hb R S hl) (fun h => kf h _ _ _ _ _ _ _ _ _ _ _ _ _ _ X hb R S hl)
theorem m_if_ne {x : Int32} {off : Int} {tgt : Nat} (hd : decode cc pc = .ok (.ifCond .ne off, 3)) (ht : (pc : Int) + off = (tgt : Int)) (kt : ¬ (x = 0) → m_W d mc ms yy cc nL ret Q tgt lv rest Th M cells slots) (kf : (x = 0) → m_W d mc ms yy cc nL ret Q (pc + 3) lv rest Th M cells slots) : m_W d mc ms yy cc nL ret Q pc lv (.int x :: rest) Th M cells slots :=
  fun _ _ _ _ _ _ _ _ _ _ _ _ _ _ X hb R S hl => lv_if_ne X.1 X.2.1 hd ht (fun h => kt h _ _ _ _ _ _ _ _ _ _ _ _ _ _ X hb R S hl) (fun h => kf h _ _ _ _ _ _ _ _ _ _ _ _ _ _ X hb R S hl)
theorem m_icmp_ne {x y0 : Int32} {off : Int} {tgt : Nat} (hd : decode cc pc = .ok (.if_icmp .ne off, 3)) (ht : (pc : Int) + off = (tgt : Int)) (kt : ¬ (x = y0) → m_W d mc ms yy cc nL ret Q tgt lv rest Th M cells slots) (kf : (x = y0) → m_W d mc ms yy cc nL ret Q (pc + 3) lv rest Th M cells slots) : m_W d mc ms yy cc nL ret Q pc lv (.int y0 :: .int x :: rest) Th M cells slots :=
  fun _ _ _ _ _ _ _ _ _ _ _ _ _ _ X hb R S hl => lv_icmp_ne X.1 X.2.1 hd ht (fun h => kt h _ _ _ _ _ _ _ _ _ _ _ _ _ _ X hb R S hl) (fun h => kf h _ _ _ _ _ _ _ _ _ _ _ _ _ _ X hb R S hl)
theorem m_if_lt {x : Int32} {off : Int} {tgt : Nat} (hd : decode cc pc = .ok (.ifCond .lt off, 3)) (ht : (pc : Int) + off = (tgt : Int)) (kt : (x < 0) → m_W d mc ms yy cc nL ret Q tgt lv rest Th M cells slots) (kf : ¬ (x < 0) → m_W d mc ms yy cc nL ret Q (pc + 3) lv rest Th M cells slots) : m_W d mc ms yy cc nL ret Q pc lv (.int x :: rest) Th M cells slots :=
  fun _ _ _ _ _ _ _ _ _ _ _ _ _ _ X hb R S hl => lv_if_lt X.1 X.2.1 hd ht (fun h => kt h _ _ _ _ _ _ _ _ _ _ _ _ _ _ X hb R S hl) (fun h => kf h _ _ _ _ _ _ _ _ _ _ _ _ _ _ X hb R S hl)
theorem m_icmp_lt {x y0 : Int32} {off : Int} {tgt : Nat} (hd : decode cc pc = .ok (.if_icmp .lt off, 3)) (ht : (pc : Int) + off = (tgt : Int)) (kt : (x < y0) → m_W d mc ms yy cc nL ret Q tgt lv rest Th M cells slots) (kf : ¬ (x < y0) → m_W d mc ms yy cc nL ret Q (pc + 3) lv rest Th M cells slots) : m_W d mc ms yy cc nL ret Q pc lv (.int y0 :: .int x :: rest) Th M cells slots :=
  fun _ _ _ _ _ _ _ _ _ _ _ _ _ _ X hb R S hl => lv_icmp_lt X.1 X.2.1 hd ht (fun h => kt h _ _ _ _ _ _ _ _ _ _ _ _ _ _ X hb R S hl) (fun h => kf h _ _ _ _ _ _ _ _ _ _ _ _ _ _ X hb R S hl)
theorem m_if_ge {x : Int32} {off : Int} {tgt : Nat} (hd : decode cc pc = .ok (.ifCond .ge off, 3)) (ht : (pc : Int) + off = (tgt : Int)) (kt : (0 ≤ x) → m_W d mc ms yy cc nL ret Q tgt lv rest Th M cells slots) (kf : ¬ (0 ≤ x) → m_W d mc ms yy cc nL ret Q (pc + 3) lv rest Th M cells slots) : m_W d mc ms yy cc nL ret Q pc lv (.int x :: rest) Th M cells slots :=
  fun _ _ _ _ _ _ _ _ _ _ _ _ _ _ X hb R S hl => lv_if_ge X.1 X.2.1 hd ht (fun h => kt h _ _ _ _ _ _ _ _ _ _ _ _ _ _ X hb R S hl) (fun h => kf h _ _ _ _ _ _ _ _ _ _ _ _ _ _ X hb R S hl)
theorem m_icmp_ge {x y0 : Int32} {off : Int} {tgt : Nat} (hd : decode cc pc = .ok (.if_icmp .ge off, 3)) (ht : (pc : Int) + off = (tgt : Int)) (kt : (y0 ≤ x) → m_W d mc ms yy cc nL ret Q tgt lv rest Th M cells slots) (kf : ¬ (y0 ≤ x) → m_W d mc ms yy cc nL ret Q (pc + 3) lv rest Th M cells slots) : m_W d mc ms yy cc nL ret Q pc lv (.int y0 :: .int x :: rest) Th M cells slots :=
  fun _ _ _ _ _ _ _ _ _ _ _ _ _ _ X hb R S hl => lv_icmp_ge X.1 X.2.1 hd ht (fun h => kt h _ _ _ _ _ _ _ _ _ _ _ _ _ _ X hb R S hl) (fun h => kf h _ _ _ _ _ _ _ _ _ _ _ _ _ _ X hb R S hl)
theorem m_if_gt {x : Int32} {off : Int} {tgt : Nat} (hd : decode cc pc = .ok (.ifCond .gt off, 3)) (ht : (pc : Int) + off = (tgt : Int)) (kt : (0 < x) → m_W d mc ms yy cc nL ret Q tgt lv rest Th M cells slots) (kf : ¬ (0 < x) → m_W d mc ms yy cc nL ret Q (pc + 3) lv rest Th M cells slots) : m_W d mc ms yy cc nL ret Q pc lv (.int x :: rest) Th M cells slots :=
  fun _ _ _ _ _ _ _ _ _ _ _ _ _ _ X hb R S hl => lv_if_gt X.1 X.2.1 hd ht (fun h => kt h _ _ _ _ _ _ _ _ _ _ _ _ _ _ X hb R S hl) (fun h => kf h _ _ _ _ _ _ _ _ _ _ _ _ _ _ X hb R S hl)
theorem m_icmp_gt {x y0 : Int32} {off : Int} {tgt : Nat} (hd : decode cc pc = .ok (.if_icmp .gt off, 3)) (ht : (pc : Int) + off = (tgt : Int)) (kt : (y0 < x) → m_W d mc ms yy cc nL ret Q tgt lv rest Th M cells slots) (kf : ¬ (y0 < x) → m_W d mc ms yy cc nL ret Q (pc + 3) lv rest Th M cells slots) : m_W d mc ms yy cc nL ret Q pc lv (.int y0 :: .int x :: rest) Th M cells slots :=
  fun _ _ _ _ _ _ _ _ _ _ _ _ _ _ X hb R S hl => lv_icmp_gt X.1 X.2.1 hd ht (fun h => kt h _ _ _ _ _ _ _ _ _ _ _ _ _ _ X hb R S hl) (fun h => kf h _ _ _ _ _ _ _ _ _ _ _ _ _ _ X hb R S hl)
theorem m_if_le {x : Int32} {off : Int} {tgt : Nat} (hd : decode cc pc = .ok (.ifCond .le off, 3)) (ht : (pc : Int) + off = (tgt : Int)) (kt : (x ≤ 0) → m_W d mc ms yy cc nL ret Q tgt lv rest Th M cells slots) (kf : ¬ (x ≤ 0) → m_W d mc ms yy cc nL ret Q (pc + 3) lv rest Th M cells slots) : m_W d mc ms yy cc nL ret Q pc lv (.int x :: rest) Th M cells slots :=
  fun _ _ _ _ _ _ _ _ _ _ _ _ _ _ X hb R S hl => lv_if_le X.1 X.2.1 hd ht (fun h => kt h _ _ _ _ _ _ _ _ _ _ _ _ _ _ X hb R S hl) (fun h => kf h _ _ _ _ _ _ _ _ _ _ _ _ _ _ X hb R S hl)
theorem m_icmp_le {x y0 : Int32} {off : Int} {tgt : Nat} (hd : decode cc pc = .ok (.if_icmp .le off, 3)) (ht : (pc : Int) + off = (tgt : Int)) (kt : (x ≤ y0) → m_W d mc ms yy cc nL ret Q tgt lv rest Th M cells slots) (kf : ¬ (x ≤ y0) → m_W d mc ms yy cc nL ret Q (pc + 3) lv rest Th M cells slots) : m_W d mc ms yy cc nL ret Q pc lv (.int y0 :: .int x :: rest) Th M cells slots :=
  fun _ _ _ _ _ _ _ _ _ _ _ _ _ _ X hb R S hl => lv_icmp_le X.1 X.2.1 hd ht (fun h => kt h _ _ _ _ _ _ _ _ _ _ _ _ _ _ X hb R S hl) (fun h => kf h _ _ _ _ _ _ _ _ _ _ _ _ _ _ X hb R S hl)
theorem m_ifnonnull {x : Nat} {off : Int} {tgt : Nat} (hd : decode cc pc = .ok (.ifnonnull off, 3)) (ht : (pc : Int) + off = (tgt : Int)) (k : m_W d mc ms yy cc nL ret Q tgt lv rest Th M cells slots) : m_W d mc ms yy cc nL ret Q pc lv (.ref x :: rest) Th M cells slots :=
  fun _ _ _ _ _ _ _ _ _ _ _ _ _ _ X hb R S hl => lv_ifnonnull X.1 X.2.1 hd ht (k _ _ _ _ _ _ _ _ _ _ _ _ _ _ X hb R S hl)
theorem m_tableIn {dflt lo hi : Int} {offs : Array Int} {len : Nat} {x : Int32} {off : Int} {tgt : Nat} (hd : decode cc pc = .ok (.tableswitch dflt lo hi offs, len)) (h1 : ¬ x.toInt < lo) (h2 : ¬ hi < x.toInt) (ho : offs[(x.toInt - lo).toNat]? = some off) (ht : (pc : Int) + off = (tgt : Int)) (k : m_W d mc ms yy cc nL ret Q tgt lv rest Th M cells slots) : m_W d mc ms yy cc nL ret Q pc lv (.int x :: rest) Th M cells slots :=
  fun _ _ _ _ _ _ _ _ _ _ _ _ _ _ X hb R S hl => lv_tableIn X.1 X.2.1 hd h1 h2 ho ht (k _ _ _ _ _ _ _ _ _ _ _ _ _ _ X hb R S hl)
theorem m_tableOut {dflt lo hi : Int} {offs : Array Int} {len : Nat} {x : Int32} {tgt : Nat} (hd : decode cc pc = .ok (.tableswitch dflt lo hi offs, len)) (h : x.toInt < lo ∨ hi < x.toInt) (ht : (pc : Int) + dflt = (tgt : Int)) (k : m_W d mc ms yy cc nL ret Q tgt lv rest Th M cells slots) : m_W d mc ms yy cc nL ret Q pc lv (.int x :: rest) Th M cells slots :=
  fun _ _ _ _ _ _ _ _ _ _ _ _ _ _ X hb R S hl => lv_tableOut X.1 X.2.1 hd h ht (k _ _ _ _ _ _ _ _ _ _ _ _ _ _ X hb R S hl)
theorem m_lookup {dflt : Int} {ps : Array (Int × Int)} {len : Nat} {x : Int32} {off : Int} {tgt : Nat} (hd : decode cc pc = .ok (.lookupswitch dflt ps, len)) (hp : (ps.toList.zip (ps.toList.drop 1)).all (fun (a, next) => a.1 < next.1) = true) (ho : Op.lookupswitch.offset ps.toList dflt x.toInt = off) (ht : (pc : Int) + off = (tgt : Int)) (k : m_W d mc ms yy cc nL ret Q tgt lv rest Th M cells slots) : m_W d mc ms yy cc nL ret Q pc lv (.int x :: rest) Th M cells slots :=
  fun _ _ _ _ _ _ _ _ _ _ _ _ _ _ X hb R S hl => lv_lookup X.1 X.2.1 hd hp ho ht (k _ _ _ _ _ _ _ _ _ _ _ _ _ _ X hb R S hl)
theorem m_ldc {index : Nat} {v : Int32} (hc : Cond.constant yy.cls index v ∈ lw_ok) (hd : decode cc pc = .ok (.ldc index, 2)) (k : m_W d mc ms yy cc nL ret Q (pc + 2) lv (.int v :: rest) Th M cells slots) : m_W d mc ms yy cc nL ret Q pc lv rest Th M cells slots :=
  fun _ _ _ _ _ _ _ _ _ _ _ _ _ _ X hb R S hl => lv_ldc X.1 X.2.1 X.2.2.2.2.1 (X.2.2.2.2.2.1 _ hc) hd (k _ _ _ _ _ _ _ _ _ _ _ _ _ _ X hb R S hl)
theorem m_ldc2 {index : Nat} {v : Int64} (hc : Cond.constantLong yy.cls index v ∈ lw_ok) (hd : decode cc pc = .ok (.ldc2_w index, 3)) (k : m_W d mc ms yy cc nL ret Q (pc + 3) lv (.long v :: rest) Th M cells slots) : m_W d mc ms yy cc nL ret Q pc lv rest Th M cells slots :=
  fun _ _ _ _ _ _ _ _ _ _ _ _ _ _ X hb R S hl => lv_ldc2 X.1 X.2.1 X.2.2.2.2.1 (X.2.2.2.2.2.1 _ hc) hd (k _ _ _ _ _ _ _ _ _ _ _ _ _ _ X hb R S hl)
theorem m_get {index c k a : Nat} {ty : FieldType} {fin : Bool} {v : Value} (hF : m_F yy.cls index c k ty fin) (hT : Th.2.2 a = some (.inl c)) (hv : m_val ty M a k = v) (hd : decode cc pc = .ok (.getfield index, 3)) (kk : m_W d mc ms yy cc nL ret Q (pc + 3) lv (v :: rest) Th M cells slots) : m_W d mc ms yy cc nL ret Q pc lv (.ref a :: rest) Th M cells slots := by
  intro p l e s m args below meth c0 D b H locs ls X hb R S hl
  obtain ⟨C, T, N, hc, hk, hty, hlink, hin, hpar, hnm, hfin, hcls⟩ := hF
  obtain ⟨hx, hbytes, hret, hml, hown, hts, hlocks, hname, hK⟩ := id X
  obtain ⟨-, r, h1, cell, q1, q2, q3, q4⟩ := R.2.2.2 a _ hT
  have hr : r = (C, T, N) := Option.some.inj (h1.symm.trans hc)
  subst hr
  obtain ⟨hS, hfc, kC, hkC, hkind⟩ := hK.1.1 c _ hc
  obtain ⟨cf, kf, fi, f, hi, hsl⟩ := hS k hk
  refine W.getf hx hbytes hown (hts _ hlink) hi (u_facts hfc hkC (u_lays hts hin hk) hi).1 q1 (by rw [q3]; exact fun h => by cases h) (v := v) ?_ rfl rfl hd (kk _ _ _ _ _ _ _ _ _ _ _ _ _ _ X hb R S hl)
  rw [hsl, q4 k hk]
  show some (m_val (m_ty c k) M a k) = some v
  rw [hty, hv]
theorem m_put {index c k a : Nat} {ty : FieldType} {fin : Bool} {v : Value} {M1 : mM} (hF : m_F yy.cls index c k ty fin) (hT : Th.2.2 a = some (.inl c)) (hfinal : fin = false ∨ (yy.name = "<init>" ∧ ∃ C T N, vwCl[c]? = some (C, T, N) ∧ C = yy.cls)) (hn : narrow ty v = v) (hfit : fits ty v = true)
    (hM : ∀ q, q ≠ a → ∀ ty j, m_val ty M1 q j = m_val ty M q j) (hv : m_val ty M1 a k = v) (hO : ∀ j, j ≠ k → ∀ ty', m_val ty' M1 a j = m_val ty' M a j) (hd : decode cc pc = .ok (.putfield index, 3)) (kk : m_W d mc ms yy cc nL ret Q (pc + 3) lv rest Th M1 cells slots) : m_W d mc ms yy cc nL ret Q pc lv (v :: .ref a :: rest) Th M cells slots := by
  intro p l e s m args below meth c0 D b H locs ls X hb R S hl
  obtain ⟨C, T, N, hc, hk, hty, hlink, hin, hpar, hnm, hfin, hcls⟩ := hF
  obtain ⟨hx, hbytes, hret, hml, hown, hts, hlocks, hname, hK⟩ := id X
  have hap := va_apart (own := yy.cls) hts hin (m_ty c) hpar hnm hK.1 hc
  obtain ⟨hba, r, h1, cell, q1, q2, q3, q4⟩ := R.2.2.2 a _ hT
  have hr : r = (C, T, N) := Option.some.inj (h1.symm.trans hc)
  subst hr
  obtain ⟨hS, hfc, kC, hkC, hkind⟩ := hK.1.1 c _ hc
  obtain ⟨cf, kf, fi, f, hi, hsl⟩ := hS k hk
  have hlay := hts _ (hin _ (u_in_lay hk))
  have hst := (u_facts hfc hkC (u_lays hts hin hk) hi).1
  have hd2 : parseFieldDescriptor (T k).2.2.1 = some ty := by rw [← hty]; exact hpar k hk
  have goes : ∀ H' : Heap, H'[a]? = some (cell.setSlot f.slot v) → H'.size = H.size → (∀ q, q ≠ a → H'[q]? = H[q]?) → W p l e (m_rm d mc ms) s m args below meth c0 H' (locs ++ [⟨a, f.slot⟩]) cells slots (MQ below (m_Qc D b Q) args s mc ms (fun q => b ≤ q)) (F0 m (pc + 3) ls rest) := by
    intro H' e1 e2 e3
    refine kk _ _ _ _ _ _ _ _ _ _ _ _ _ _ X hb (R.put hba e2 e3 hM ?_) (S.put e2 e3 hba) hl
    intro t ht
    cases hT.symm.trans ht
    rw [hsl] at e1
    refine ⟨hba, _, hc, t_OB.to (V := updV (fun j => m_val (m_ty c j) M a j) k v) ⟨_, e1, q2, q3, t_set q4 hap hk v⟩ (fun j _ => ?_)⟩
    by_cases ej : j = k
    · subst ej
      simp only [updV, if_true]
      rw [hty, hv]
    · simp only [updV, if_neg ej]
      rw [hO j ej]
  cases hf : fin with
  | false =>
    have hfin' : (T k).2.2.2 = false := hfin.trans hf
    unfold u_lay at hlay
    rw [if_neg (by rw [hfin']; decide)] at hlay
    have h6 := u_store hfc hkC hkind hlay hi hd2 hn hfit
    exact W.putK hx hbytes (f := f) ⟨hown, hts _ hlink, ⟨_, _, _, hi⟩, hst⟩ (by rw [q2]; exact h6) q1 q3 (by rw [hsl]; exact k2_hasslot (q4 k hk)) rfl rfl hd goes
  | true =>
    have hfin' : (T k).2.2.2 = true := hfin.trans hf
    rcases hfinal with h | ⟨hn2, C2, T2, N2, hc2, hC2⟩
    · rw [hf] at h; cases h
    cases hc.symm.trans hc2
    unfold u_lay at hlay
    rw [if_pos hfin'] at hlay
    have hcf : m.cls = cf := by
      obtain ⟨_, _, c', _, _, _, -, -, hf', -, -, -, hown2, -⟩ := Cond.laysFinal_spec hlay
      have e1 : c' = cf := by have := hi.symm.trans hf'; simp at this; exact this.1.symm
      rw [hcls, hC2] at hown2
      rw [← e1]; exact Option.some.inj (hown.symm.trans hown2)
    have h6 := u_fits hfc hkC hkind (Or.inr hlay) hi hd2 hn hfit
    exact W.putFinK hx hbytes hown (hts _ hlink) hi hst hcf ((hname hn2).trans hn2) (by rw [q2]; exact h6) q1 q3 (by rw [hsl]; exact k2_hasslot (q4 k hk)) rfl rfl hd goes
theorem m_geti {index c k a : Nat} {ty : FieldType} {fin : Bool} (hF : m_F yy.cls index c k ty fin) (hty : m_isI ty = true) (hd : decode cc pc = .ok (.getfield index, 3)) (hT : Th.2.2 a = some (.inl c)) (kk : m_W d mc ms yy cc nL ret Q (pc + 3) lv (.int (M.1 a k) :: rest) Th M cells slots) : m_W d mc ms yy cc nL ret Q pc lv (.ref a :: rest) Th M cells slots := m_get hF hT (m_valI hty M a k) hd kk
theorem m_getl {index c k a : Nat} {fin : Bool} (hF : m_F yy.cls index c k .long fin) (hd : decode cc pc = .ok (.getfield index, 3)) (hT : Th.2.2 a = some (.inl c)) (kk : m_W d mc ms yy cc nL ret Q (pc + 3) lv (.long (M.2.1 a k) :: rest) Th M cells slots) : m_W d mc ms yy cc nL ret Q pc lv (.ref a :: rest) Th M cells slots := m_get hF hT rfl hd kk
theorem m_getr {index c k a r : Nat} {ty : FieldType} {fin : Bool} (hF : m_F yy.cls index c k ty fin) (hty : m_isR ty = true) (hd : decode cc pc = .ok (.getfield index, 3)) (hT : Th.2.2 a = some (.inl c)) (hr : M.2.2 a k = some r) (kk : m_W d mc ms yy cc nL ret Q (pc + 3) lv (.ref r :: rest) Th M cells slots) : m_W d mc ms yy cc nL ret Q pc lv (.ref a :: rest) Th M cells slots := m_get hF hT (by rw [m_valR hty, hr]; rfl) hd kk
def m_fitI (ty : FieldType) (x : Int32) : Prop := narrow ty (.int x) = .int x ∧ fits ty (.int x) = true
theorem m_puti {index c k a : Nat} {ty : FieldType} {fin : Bool} {x : Int32} (hF : m_F yy.cls index c k ty fin) (hty : m_isI ty = true) (hfinal : fin = false ∨ (yy.name = "<init>" ∧ ∃ C T N, vwCl[c]? = some (C, T, N) ∧ C = yy.cls)) (hd : decode cc pc = .ok (.putfield index, 3)) (hT : Th.2.2 a = some (.inl c)) (hn : m_fitI ty x) (kk : m_W d mc ms yy cc nL ret Q (pc + 3) lv rest Th (m_ui M a k x) cells slots) : m_W d mc ms yy cc nL ret Q pc lv (.int x :: .ref a :: rest) Th M cells slots :=
  m_put hF hT hfinal hn.1 hn.2 m_val_ui (by rw [m_valI hty]; simp [m_u_eq]) (fun j hj ty' => by cases ty' <;> simp [m_val, m_u_nk hj]) hd kk
theorem m_putl {index c k a : Nat} {fin : Bool} {x : Int64} (hF : m_F yy.cls index c k .long fin) (hfinal : fin = false ∨ (yy.name = "<init>" ∧ ∃ C T N, vwCl[c]? = some (C, T, N) ∧ C = yy.cls)) (hd : decode cc pc = .ok (.putfield index, 3)) (hT : Th.2.2 a = some (.inl c)) (kk : m_W d mc ms yy cc nL ret Q (pc + 3) lv rest Th (m_ul M a k x) cells slots) : m_W d mc ms yy cc nL ret Q pc lv (.long x :: .ref a :: rest) Th M cells slots :=
  m_put hF hT hfinal rfl rfl m_val_ul (by simp [m_val, m_u_eq]) (fun j hj ty' => by cases ty' <;> simp [m_val, m_u_nk hj]) hd kk
theorem m_putr {index c k a x : Nat} {ty : FieldType} {fin : Bool} (hF : m_F yy.cls index c k ty fin) (hty : m_isR ty = true) (hfinal : fin = false ∨ (yy.name = "<init>" ∧ ∃ C T N, vwCl[c]? = some (C, T, N) ∧ C = yy.cls)) (hd : decode cc pc = .ok (.putfield index, 3)) (hT : Th.2.2 a = some (.inl c)) (kk : m_W d mc ms yy cc nL ret Q (pc + 3) lv rest Th (m_ur M a k (some x)) cells slots) : m_W d mc ms yy cc nL ret Q pc lv (.ref x :: .ref a :: rest) Th M cells slots :=
  m_put hF hT hfinal (by cases ty <;> rfl) (by cases ty <;> first | rfl | cases hty) m_val_ur (by rw [m_valR hty]; simp [m_u_eq, va_rf]) (fun j hj ty' => by cases ty' <;> simp [m_val, m_u_nk hj]) hd kk
/-- arrays -/
def m_ok (Th : mT) (a : Nat) (ty : FieldType) (i : Int32) : Prop := ∃ (fz : Bool) (n : Nat), Th.2.2 a = some (.inr (ty, fz, n)) ∧ vp_in i n
def m_okw (Th : mT) (a : Nat) (ty : FieldType) (i : Int32) : Prop := ∃ n : Nat, Th.2.2 a = some (.inr (ty, false, n)) ∧ vp_in i n
theorem m_arr {D : va_G} {s : State} {b : Nat} {H : Heap} {a n : Nat} {ty : FieldType} {fz : Bool} (R : m_R D s b Th M H) (h : Th.2.2 a = some (.inr (ty, fz, n))) : ∃ cell : Cell, H[a]? = some cell ∧ s.isArrayOf cell ty ∧ cell.vm ≠ .unknown ∧ n ≤ cell.slots.size ∧ cell.slots.size.toInt32 = Int32.ofNat n ∧ ∀ j : Nat, j < n → cell.slots[j]? = some (m_val ty M a j) := by
  have h1 := R.2.2.2 a _ h
  cases fz with
  | true => exact h1.2
  | false =>
    obtain ⟨-, cA, h2, h3, h4⟩ := h1
    exact ⟨_, h4, h2 _ _, (fun q => by cases q), Nat.le_of_eq (arrV_size _ _ _).symm, by (rw [arrV_size]; try rfl), fun j hj => arrV_read _ _ hj⟩
theorem m_alen {a n : Nat} {ty : FieldType} {fz : Bool} (hd : decode cc pc = .ok (.arraylength, 1)) (hT : Th.2.2 a = some (.inr (ty, fz, n))) (kk : m_W d mc ms yy cc nL ret Q (pc + 1) lv (.int (nI n) :: rest) Th M cells slots) : m_W d mc ms yy cc nL ret Q pc lv (.ref a :: rest) Th M cells slots := by
  intro p l e s m args below meth c0 D b H locs ls X hb R S hl
  obtain ⟨cell, h1, h2, h3, h4, h6, h5⟩ := m_arr R hT
  exact W.alen (n := nI n) X.1 X.2.1 h1 h2 h6 rfl rfl hd (kk _ _ _ _ _ _ _ _ _ _ _ _ _ _ X hb R S hl)
theorem m_iald {a : Nat} {i : Int32} (hd : decode cc pc = .ok (.iaload, 1)) (hT : m_ok Th a .int i) (kk : m_W d mc ms yy cc nL ret Q (pc + 1) lv (.int (M.1 a i.toNatClampNeg) :: rest) Th M cells slots) : m_W d mc ms yy cc nL ret Q pc lv (.int i :: .ref a :: rest) Th M cells slots := by
  intro p l e s m args below meth c0 D b H locs ls X hb R S hl
  obtain ⟨fz, n, hT, hin⟩ := hT
  obtain ⟨cell, h1, h2, h3, h4, h6, h5⟩ := m_arr R hT
  have hlt : i.toNatClampNeg < n := Nat.not_le.mp fun q => hin (Or.inr q)
  exact W.iald (v := .int (M.1 a i.toNatClampNeg)) X.1 X.2.1 h1 h2 h3 (fun q => hin (q.imp id (fun z => Nat.le_trans h4 z))) (h5 _ hlt) rfl rfl hd (kk _ _ _ _ _ _ _ _ _ _ _ _ _ _ X hb R S hl)
theorem m_bald {a : Nat} {i : Int32} (hd : decode cc pc = .ok (.baload, 1)) (hT : m_ok Th a .byte i) (kk : m_W d mc ms yy cc nL ret Q (pc + 1) lv (.int (M.1 a i.toNatClampNeg) :: rest) Th M cells slots) : m_W d mc ms yy cc nL ret Q pc lv (.int i :: .ref a :: rest) Th M cells slots := by
  intro p l e s m args below meth c0 D b H locs ls X hb R S hl
  obtain ⟨fz, n, hT, hin⟩ := hT
  obtain ⟨cell, h1, h2, h3, h4, h6, h5⟩ := m_arr R hT
  have hlt : i.toNatClampNeg < n := Nat.not_le.mp fun q => hin (Or.inr q)
  exact W.bald (v := .int (M.1 a i.toNatClampNeg)) X.1 X.2.1 h1 h2 h3 (fun q => hin (q.imp id (fun z => Nat.le_trans h4 z))) (h5 _ hlt) rfl rfl hd (kk _ _ _ _ _ _ _ _ _ _ _ _ _ _ X hb R S hl)
theorem m_zald {a : Nat} {i : Int32} (hd : decode cc pc = .ok (.baload, 1)) (hT : m_ok Th a .boolean i) (kk : m_W d mc ms yy cc nL ret Q (pc + 1) lv (.int (M.1 a i.toNatClampNeg) :: rest) Th M cells slots) : m_W d mc ms yy cc nL ret Q pc lv (.int i :: .ref a :: rest) Th M cells slots := by
  intro p l e s m args below meth c0 D b H locs ls X hb R S hl
  obtain ⟨fz, n, hT, hin⟩ := hT
  obtain ⟨cell, h1, h2, h3, h4, h6, h5⟩ := m_arr R hT
  have hlt : i.toNatClampNeg < n := Nat.not_le.mp fun q => hin (Or.inr q)
  exact W.zald (v := .int (M.1 a i.toNatClampNeg)) X.1 X.2.1 h1 h2 h3 (fun q => hin (q.imp id (fun z => Nat.le_trans h4 z))) (h5 _ hlt) rfl rfl hd (kk _ _ _ _ _ _ _ _ _ _ _ _ _ _ X hb R S hl)
theorem m_cald {a : Nat} {i : Int32} (hd : decode cc pc = .ok (.caload, 1)) (hT : m_ok Th a .char i) (kk : m_W d mc ms yy cc nL ret Q (pc + 1) lv (.int (M.1 a i.toNatClampNeg) :: rest) Th M cells slots) : m_W d mc ms yy cc nL ret Q pc lv (.int i :: .ref a :: rest) Th M cells slots := by
  intro p l e s m args below meth c0 D b H locs ls X hb R S hl
  obtain ⟨fz, n, hT, hin⟩ := hT
  obtain ⟨cell, h1, h2, h3, h4, h6, h5⟩ := m_arr R hT
  have hlt : i.toNatClampNeg < n := Nat.not_le.mp fun q => hin (Or.inr q)
  exact W.cald (v := .int (M.1 a i.toNatClampNeg)) X.1 X.2.1 h1 h2 h3 (fun q => hin (q.imp id (fun z => Nat.le_trans h4 z))) (h5 _ hlt) rfl rfl hd (kk _ _ _ _ _ _ _ _ _ _ _ _ _ _ X hb R S hl)
theorem m_lald {a : Nat} {i : Int32} (hd : decode cc pc = .ok (.laload, 1)) (hT : m_ok Th a .long i) (kk : m_W d mc ms yy cc nL ret Q (pc + 1) lv (.long (M.2.1 a i.toNatClampNeg) :: rest) Th M cells slots) : m_W d mc ms yy cc nL ret Q pc lv (.int i :: .ref a :: rest) Th M cells slots := by
  intro p l e s m args below meth c0 D b H locs ls X hb R S hl
  obtain ⟨fz, n, hT, hin⟩ := hT
  obtain ⟨cell, h1, h2, h3, h4, h6, h5⟩ := m_arr R hT
  have hlt : i.toNatClampNeg < n := Nat.not_le.mp fun q => hin (Or.inr q)
  exact W.lald (v := .long (M.2.1 a i.toNatClampNeg)) X.1 X.2.1 h1 h2 h3 (fun q => hin (q.imp id (fun z => Nat.le_trans h4 z))) (h5 _ hlt) rfl rfl hd (kk _ _ _ _ _ _ _ _ _ _ _ _ _ _ X hb R S hl)
theorem m_aald {a r : Nat} {i : Int32} {ty : FieldType} (hty : m_isR ty = true) (hd : decode cc pc = .ok (.aaload, 1)) (hT : m_ok Th a ty i) (hr : M.2.2 a i.toNatClampNeg = some r) (kk : m_W d mc ms yy cc nL ret Q (pc + 1) lv (.ref r :: rest) Th M cells slots) : m_W d mc ms yy cc nL ret Q pc lv (.int i :: .ref a :: rest) Th M cells slots := by
  intro p l e s m args below meth c0 D b H locs ls X hb R S hl
  obtain ⟨fz, n, hT, hin⟩ := hT
  obtain ⟨cell, h1, h2, h3, h4, h6, h5⟩ := m_arr R hT
  have hlt : i.toNatClampNeg < n := Nat.not_le.mp fun q => hin (Or.inr q)
  exact W.aald (v := .ref r) X.1 X.2.1 h1 h2 (by cases ty <;> first | rfl | cases hty) h3 (fun q => hin (q.imp id (fun z => Nat.le_trans h4 z))) (by rw [h5 _ hlt, m_valR hty, hr]; rfl) rfl rfl hd (kk _ _ _ _ _ _ _ _ _ _ _ _ _ _ X hb R S hl)
theorem m_iast {a : Nat} {i : Int32} {x : Int32} (hd : decode cc pc = .ok (.iastore, 1)) (hT : m_okw Th a .int i) (kk : m_W d mc ms yy cc nL ret Q (pc + 1) lv rest Th (m_ui M a i.toNatClampNeg x) cells slots) : m_W d mc ms yy cc nL ret Q pc lv (.int x :: .int i :: .ref a :: rest) Th M cells slots := by
  intro p l e s m args below meth c0 D b H locs ls X hb R S hl
  obtain ⟨n, hT, hin⟩ := hT
  obtain ⟨hba, cA, h2, h3, h4⟩ := R.2.2.2 a _ hT
  refine W.iast X.1 X.2.1 h4 (h2 _ _) (fun q => by cases q) (by rw [arrV_size]; exact hin) rfl rfl hd fun H1 e1 z oq => ?_
  refine kk _ _ _ _ _ _ _ _ _ _ _ _ _ _ X hb (R.put hba z oq m_val_ui ?_) (S.put z oq hba) hl
  intro t ht
  cases hT.symm.trans ht
  refine ⟨hba, cA, h2, h3, ?_⟩
  rw [e1, arrV_store, ← m_updI rfl]
theorem m_bast {a : Nat} {i : Int32} {x : Int32} (hd : decode cc pc = .ok (.bastore, 1)) (hT : m_okw Th a .byte i) (kk : m_W d mc ms yy cc nL ret Q (pc + 1) lv rest Th (m_ui M a i.toNatClampNeg x.toInt8.toInt32) cells slots) : m_W d mc ms yy cc nL ret Q pc lv (.int x :: .int i :: .ref a :: rest) Th M cells slots := by
  intro p l e s m args below meth c0 D b H locs ls X hb R S hl
  obtain ⟨n, hT, hin⟩ := hT
  obtain ⟨hba, cA, h2, h3, h4⟩ := R.2.2.2 a _ hT
  refine W.bast X.1 X.2.1 h4 (h2 _ _) (fun q => by cases q) (by rw [arrV_size]; exact hin) rfl rfl hd fun H1 e1 z oq => ?_
  refine kk _ _ _ _ _ _ _ _ _ _ _ _ _ _ X hb (R.put hba z oq m_val_ui ?_) (S.put z oq hba) hl
  intro t ht
  cases hT.symm.trans ht
  refine ⟨hba, cA, h2, h3, ?_⟩
  rw [e1, arrV_store, ← m_updI rfl]
  rfl
theorem m_zast {a : Nat} {i : Int32} {x : Int32} (hd : decode cc pc = .ok (.bastore, 1)) (hT : m_okw Th a .boolean i) (kk : m_W d mc ms yy cc nL ret Q (pc + 1) lv rest Th (m_ui M a i.toNatClampNeg (x &&& 1)) cells slots) : m_W d mc ms yy cc nL ret Q pc lv (.int x :: .int i :: .ref a :: rest) Th M cells slots := by
  intro p l e s m args below meth c0 D b H locs ls X hb R S hl
  obtain ⟨n, hT, hin⟩ := hT
  obtain ⟨hba, cA, h2, h3, h4⟩ := R.2.2.2 a _ hT
  refine W.zast X.1 X.2.1 h4 (h2 _ _) (fun q => by cases q) (by rw [arrV_size]; exact hin) rfl rfl hd fun H1 e1 z oq => ?_
  refine kk _ _ _ _ _ _ _ _ _ _ _ _ _ _ X hb (R.put hba z oq m_val_ui ?_) (S.put z oq hba) hl
  intro t ht
  cases hT.symm.trans ht
  refine ⟨hba, cA, h2, h3, ?_⟩
  rw [e1, arrV_store, ← m_updI rfl]
  rfl
theorem m_last {a : Nat} {i : Int32} {x : Int64} (hd : decode cc pc = .ok (.lastore, 1)) (hT : m_okw Th a .long i) (kk : m_W d mc ms yy cc nL ret Q (pc + 1) lv rest Th (m_ul M a i.toNatClampNeg x) cells slots) : m_W d mc ms yy cc nL ret Q pc lv (.long x :: .int i :: .ref a :: rest) Th M cells slots := by
  intro p l e s m args below meth c0 D b H locs ls X hb R S hl
  obtain ⟨n, hT, hin⟩ := hT
  obtain ⟨hba, cA, h2, h3, h4⟩ := R.2.2.2 a _ hT
  refine W.last X.1 X.2.1 h4 (h2 _ _) (fun q => by cases q) (by rw [arrV_size]; exact hin) rfl rfl hd fun H1 e1 z oq => ?_
  refine kk _ _ _ _ _ _ _ _ _ _ _ _ _ _ X hb (R.put hba z oq m_val_ul ?_) (S.put z oq hba) hl
  intro t ht
  cases hT.symm.trans ht
  refine ⟨hba, cA, h2, h3, ?_⟩
  rw [e1, arrV_store, ← m_updL]
theorem m_aast {a v i0 ci : Nat} {i : Int32} {r : vw_C} (hc : vwCl[ci]? = some r) (hd : decode cc pc = .ok (.aastore, 1)) (hT : m_okw Th a (.object r.1) i) (hv : Th.2.2 v = some (.inl ci)) (kk : m_W d mc ms yy cc nL ret Q (pc + 1) lv rest Th (m_ur M a i.toNatClampNeg (some v)) cells slots) : m_W d mc ms yy cc nL ret Q pc lv (.ref v :: .int i :: .ref a :: rest) Th M cells slots := by
  intro p l e s m args below meth c0 D b H locs ls X hb R S hl
  obtain ⟨n, hT, hin⟩ := hT
  obtain ⟨hba, cA, h2, h3, h4⟩ := R.2.2.2 a _ hT
  have hlt : i.toNatClampNeg < n := Nat.not_le.mp fun q => hin (Or.inr q)
  have h0 : ¬ i < 0 := fun q => hin (Or.inl q)
  obtain ⟨-, r', hr', cellV, g1, g2, g3, -⟩ := R.2.2.2 v _ hv
  have hcls := (X.2.2.2.2.2.2.2.2.1.1 ci r hc).2
  obtain ⟨kA, comp, k1, k2, k3, k4⟩ := h3
  have hcomp : comp = D.1 ci := Option.some.inj (k3.symm.trans hcls.1)
  subst hcomp
  obtain ⟨kC, hkC, -⟩ := hcls.2
  refine W.aast X.1 X.2.1 h4 (fun q h => by cases h) (fun h => by cases h) k1 k2 rfl hkC ⟨h0, by rw [arrV_size]; exact hlt⟩ g1 (fun q h => by rw [g3] at h; cases h) (by rw [g2]; exact hkC) (by rw [g2]; exact va_assign hcls) rfl rfl hd fun H1 e1 z oq => ?_
  refine kk _ _ _ _ _ _ _ _ _ _ _ _ _ _ X hb (R.put hba z oq m_val_ur ?_) (S.put z oq hba) hl
  intro t ht
  cases hT.symm.trans ht
  refine ⟨hba, cA, h2, ⟨kA, _, k1, k2, k3, k4⟩, ?_⟩
  rw [e1, arrV_store, ← m_updR rfl]
  rfl
theorem m_gets {index : Nat} (hlink : Cond.fieldLink yy.cls index RX4 "LETTERS" "[C" ∈ lw_ok) (hd : decode cc pc = .ok (.getstatic index, 3)) (kk : m_W d mc ms yy cc nL ret Q (pc + 3) lv (.ref Th.2.1 :: rest) Th M cells slots) : m_W d mc ms yy cc nL ret Q pc lv rest Th M cells slots := by
  intro p l e s m args below meth c0 D b H locs ls X hb R S hl
  obtain ⟨cf, kf, fi, f, a, cell, h1, h2, h3, h4, h5, h6, h7, h8⟩ := R.2.2.1
  exact W.gets X.1 X.2.1 X.2.2.2.2.1 (X.2.2.2.2.2.1 _ hlink) h1 h2 h3 h4 h5 (fun e => by rw [e] at h6; cases h6) h7 rfl hd (kk _ _ _ _ _ _ _ _ _ _ _ _ _ _ X hb R S hl)
theorem m_end {D : va_G} {s t : State} {b : Nat} {H : Heap} {locs : List Loc} {v : Option Value} {p : Program} {m : MethodId} {args : Array Value} {meth : Method} {c0 : Code} (X : m_X D yy cc nL ret p s m args meth c0) (R : m_R D s b Th M H) (S : va_S (fun q => b ≤ q) s.heap H locs) (hQ : Q v Th M) (ht : t.heap = H) (hW : s.WarmedH t.vm) : m_Qc D b Q args s (.returned v) t :=
  ⟨⟨v, Th, M, rfl, hQ, m_Kn.moved hW.alike X.2.2.2.2.2.2.2.2, by rw [ht]; exact R.moved hW.alike⟩, S.F ht⟩
theorem m_ireturn {x : Int32} {ty : FieldType} (hd : decode cc pc = .ok (.ireturn, 1)) (hr : ret = some ty) (hn : narrow ty (.int x) = .int x) (hQ : Q (some (.int x)) Th M) : m_W d mc ms yy cc nL ret Q pc lv [.int x] Th M mc ms := by
  intro p l e s m args below meth c0 D b H locs ls X hb R S hl
  exact W.zret (v := x) X.1 X.2.1 (X.2.2.1.trans hr) hn (fun t ht hW => m_end X R S hQ ht hW) S.2.2 hd X.2.2.2.2.2.2.1
theorem m_lreturn {x : Int64} (hd : decode cc pc = .ok (.lreturn, 1)) (hr : ret = some .long) (hQ : Q (some (.long x)) Th M) : m_W d mc ms yy cc nL ret Q pc lv [.long x] Th M mc ms := by
  intro p l e s m args below meth c0 D b H locs ls X hb R S hl
  exact W.lret (v := x) X.1 X.2.1 (X.2.2.1.trans hr) (fun t ht hW => m_end X R S hQ ht hW) S.2.2 hd X.2.2.2.2.2.2.1
theorem m_areturn {x : Nat} {C : String} (hd : decode cc pc = .ok (.areturn, 1)) (hr : ret = some (.object C)) (hQ : Q (some (.ref x)) Th M) : m_W d mc ms yy cc nL ret Q pc lv [.ref x] Th M mc ms := by
  intro p l e s m args below meth c0 D b H locs ls X hb R S hl
  exact W.aret (v := .ref x) X.1 X.2.1 (X.2.2.1.trans hr) (Or.inl ⟨C, rfl⟩) (Or.inr ⟨x, rfl⟩) (fun t ht hW => m_end X R S hQ ht hW) S.2.2 hd X.2.2.2.2.2.2.1
theorem m_return (hd : decode cc pc = .ok (.return_, 1)) (hr : ret = none) (hQ : Q none Th M) : m_W d mc ms yy cc nL ret Q pc lv [] Th M mc ms := by
  intro p l e s m args below meth c0 D b H locs ls X hb R S hl
  exact W.vret X.1 X.2.1 (X.2.2.1.trans hr) (fun t ht hW => m_end X R S hQ ht hW) S.2.2 hd X.2.2.2.2.2.2.1
end MW

/-- the tables' words that hold in every state later on -/
def lw_good : List Cond := lw_tbl.filter goodWord
theorem gd_in {x : Cond} (i : Nat) (h : lw_tbl[i]? = some x) (hg : goodWord x = true) : x ∈ lw_good := List.mem_filter.mpr ⟨List.mem_of_getElem? h, hg⟩
/-- the class's static table of sets -/
def tSW : Nat → Int64 := fun j => match j with
  | 0 => -6148914691236517206
  | 1 => -3689348814741910324
  | 2 => -1085102592571150096
  | 3 => -71777214294589696
  | 4 => -281470681808896
  | _ => -4294967296
/-! the judgement: at pc, with these locals and this stack, over every heap that holds the world of S -/
def XW {σ : Type} (p : Program) (l : Launch) (e : Env) (R : Room) (s : State) (m : MethodId) (args : Array Value) (below : List Frame) (meth : Method) (c : Code) (nL cells slots : Nat) (A : Nat → Prop) (D : va_G) (Q : State → Prop) (w : σ → va_W) (S : σ) (pc : Nat) (lv : List (Nat × Value)) (st : List Value) : Prop :=
  ∀ (H : Heap) (locs : List Loc) (ls : Array Slot), va_P D vwCl (w S) H → va_D A (w S) → va_S A s.heap H locs → lv_has ls nL lv → W p l e R s m args below meth c H locs cells slots Q (F0 m pc ls st)
/-- what holds of the machine, the code and the tables in a body -/
def xC (p : Program) (s : State) (m : MethodId) (args : Array Value) (meth : Method) (c : Code) (own : String) (cc : ByteArray) (nL : Nat) (ret : Option FieldType) : Prop :=
  p.tables.exec = Jvm.exec ∧ c.code = cc ∧ c.maxLocals = nL ∧ s.vm.findClass own = some m.cls ∧ (∀ w ∈ lw_good, w.before args s = true) ∧ meth.sig.returnType = ret ∧ meth.locks = false
def rmk (f k : Nat) : Room := { frames := f, cells := 0, slots := 0, locals := k }
/-- the static table, if a method needs it -/
def zS (t : Option Nat) (A : Nat → Prop) (U : State) (H : Heap) : Prop := match t with
  | none => True
  | some t => va_Z RX2 "SETS_WITH" "[J" (.ref t) A U H ∧ va_T .long t 6 (fun j => .long (tSW j)) A U H
theorem zS.moved {t : Option Nat} {A : Nat → Prop} {u U : State} {H : Heap} (hvm : u.vm.Alike U.vm) (h : zS t A u H) : zS t A U H := by
  cases t with
  | none => trivial
  | some t => exact ⟨h.1.moved hvm, h.2.moved hvm⟩
theorem zS.kept {t : Option Nat} {A : Nat → Prop} {U : State} {H H1 : Heap} (h : zS t A U H) (hq : ∀ a : Nat, a < H.size → ¬ A a → H1[a]? = H[a]?) : zS t A U H1 := by
  cases t with
  | none => trivial
  | some t => exact ⟨h.1.kept hq, h.2.kept hq⟩
theorem zS.narrow {t : Option Nat} {A B : Nat → Prop} {U : State} {H : Heap} (h : zS t A U H) (hAB : ∀ q, B q → A q) : zS t B U H := by
  cases t with
  | none => trivial
  | some t => exact ⟨h.1.narrow hAB, h.2.narrow hAB⟩
section HDF
variable {p : Program} {l : Launch} {e : Env} {R : Room} {s : State} {m : MethodId} {args : Array Value} {below : List Frame} {meth : Method} {c : Code} {own : String} {cc : ByteArray} {nL : Nat} {ret : Option FieldType} {cells slots : Nat} {A : Nat → Prop} {D : va_G} {tys : List (ClassId × FieldType)} {Q : State → Prop} {σ : Type} {w : σ → va_W} {S : σ} {pc : Nat} {lv : List (Nat × Value)} {st : List Value}

theorem hd_iconst {z : Int} (n : Nat) (C : xC p s m args meth c own cc nL ret) (d : decode cc pc = .ok (.iconst z, 1)) (hn : pc + 1 = n) (v : Int32) (hv : Int32.ofInt z = v) (k : XW p l e R s m args below meth c nL cells slots A D Q w S n lv (.int v :: st)) : XW p l e R s m args below meth c nL cells slots A D Q w S pc lv st := by
  subst hn
  exact fun H locs ls h1 h2 h3 hl => lv_iconst C.1 C.2.1 d hv (k H locs ls h1 h2 h3 hl)
theorem hd_bipush {z : Int} (n : Nat) (C : xC p s m args meth c own cc nL ret) (d : decode cc pc = .ok (.bipush z, 2)) (hn : pc + 2 = n) (v : Int32) (hv : (Int8.ofInt z).toInt32 = v) (k : XW p l e R s m args below meth c nL cells slots A D Q w S n lv (.int v :: st)) : XW p l e R s m args below meth c nL cells slots A D Q w S pc lv st := by
  subst hn
  exact fun H locs ls h1 h2 h3 hl => lv_bipush C.1 C.2.1 d hv (k H locs ls h1 h2 h3 hl)
theorem hd_sipush {z : Int} (n : Nat) (C : xC p s m args meth c own cc nL ret) (d : decode cc pc = .ok (.sipush z, 3)) (hn : pc + 3 = n) (v : Int32) (hv : (Int16.ofInt z).toInt32 = v) (k : XW p l e R s m args below meth c nL cells slots A D Q w S n lv (.int v :: st)) : XW p l e R s m args below meth c nL cells slots A D Q w S pc lv st := by
  subst hn
  exact fun H locs ls h1 h2 h3 hl => lv_sipush C.1 C.2.1 d hv (k H locs ls h1 h2 h3 hl)
theorem hd_lconst {z : Fin 2} (n : Nat) (C : xC p s m args meth c own cc nL ret) (d : decode cc pc = .ok (.lconst z, 1)) (hn : pc + 1 = n) (v : Int64) (hv : Int64.ofNat (z : Nat) = v) (k : XW p l e R s m args below meth c nL cells slots A D Q w S n lv (.long v :: st)) : XW p l e R s m args below meth c nL cells slots A D Q w S pc lv st := by
  subst hn
  exact fun H locs ls h1 h2 h3 hl => lv_lconst C.1 C.2.1 d hv (k H locs ls h1 h2 h3 hl)
theorem hd_iload_n {z : Fin 4} {i : Nat} {x : Int32} (n : Nat) (C : xC p s m args meth c own cc nL ret) (d : decode cc pc = .ok (.iload_n z, 1)) (hn : pc + 1 = n) (q : Nat) (hi : (z : Nat) = i) (hq : lv[q]? = some (i, .int x)) (k : XW p l e R s m args below meth c nL cells slots A D Q w S n lv (.int x :: st)) : XW p l e R s m args below meth c nL cells slots A D Q w S pc lv st := by
  subst hn
  exact fun H locs ls h1 h2 h3 hl => lv_iload_n C.1 C.2.1 d hi (lv_at hl q hq) (k H locs ls h1 h2 h3 hl)
theorem hd_iload {i : Nat} {x : Int32} (n : Nat) (C : xC p s m args meth c own cc nL ret) (d : decode cc pc = .ok (.iload i, 2)) (hn : pc + 2 = n) (q : Nat) (hq : lv[q]? = some (i, .int x)) (k : XW p l e R s m args below meth c nL cells slots A D Q w S n lv (.int x :: st)) : XW p l e R s m args below meth c nL cells slots A D Q w S pc lv st := by
  subst hn
  exact fun H locs ls h1 h2 h3 hl => lv_iload C.1 C.2.1 d (lv_at hl q hq) (k H locs ls h1 h2 h3 hl)
theorem hd_lload_n {z : Fin 4} {i : Nat} {x : Int64} (n : Nat) (C : xC p s m args meth c own cc nL ret) (d : decode cc pc = .ok (.lload_n z, 1)) (hn : pc + 1 = n) (q : Nat) (hi : (z : Nat) = i) (hq : lv[q]? = some (i, .long x)) (k : XW p l e R s m args below meth c nL cells slots A D Q w S n lv (.long x :: st)) : XW p l e R s m args below meth c nL cells slots A D Q w S pc lv st := by
  subst hn
  exact fun H locs ls h1 h2 h3 hl => lv_lload_n C.1 C.2.1 d hi (lv_at hl q hq) (k H locs ls h1 h2 h3 hl)
theorem hd_lload {i : Nat} {x : Int64} (n : Nat) (C : xC p s m args meth c own cc nL ret) (d : decode cc pc = .ok (.lload i, 2)) (hn : pc + 2 = n) (q : Nat) (hq : lv[q]? = some (i, .long x)) (k : XW p l e R s m args below meth c nL cells slots A D Q w S n lv (.long x :: st)) : XW p l e R s m args below meth c nL cells slots A D Q w S pc lv st := by
  subst hn
  exact fun H locs ls h1 h2 h3 hl => lv_lload C.1 C.2.1 d (lv_at hl q hq) (k H locs ls h1 h2 h3 hl)
theorem hd_aload_n {z : Fin 4} {i : Nat} {x : Nat} (n : Nat) (C : xC p s m args meth c own cc nL ret) (d : decode cc pc = .ok (.aload_n z, 1)) (hn : pc + 1 = n) (q : Nat) (hi : (z : Nat) = i) (hq : lv[q]? = some (i, .ref x)) (k : XW p l e R s m args below meth c nL cells slots A D Q w S n lv (.ref x :: st)) : XW p l e R s m args below meth c nL cells slots A D Q w S pc lv st := by
  subst hn
  exact fun H locs ls h1 h2 h3 hl => lv_aload_n C.1 C.2.1 d hi (lv_at hl q hq) (k H locs ls h1 h2 h3 hl)
theorem hd_aload {i : Nat} {x : Nat} (n : Nat) (C : xC p s m args meth c own cc nL ret) (d : decode cc pc = .ok (.aload i, 2)) (hn : pc + 2 = n) (q : Nat) (hq : lv[q]? = some (i, .ref x)) (k : XW p l e R s m args below meth c nL cells slots A D Q w S n lv (.ref x :: st)) : XW p l e R s m args below meth c nL cells slots A D Q w S pc lv st := by
  subst hn
  exact fun H locs ls h1 h2 h3 hl => lv_aload C.1 C.2.1 d (lv_at hl q hq) (k H locs ls h1 h2 h3 hl)
theorem hd_istore_n {z : Fin 4} {i : Nat} {x : Int32} (n : Nat) (C : xC p s m args meth c own cc nL ret) (d : decode cc pc = .ok (.istore_n z, 1)) (hn : pc + 1 = n) (lv' : List (Nat × Value)) (hi : (z : Nat) = i) (hlt : i < nL) (hl' : (i, Value.int x) :: lv.filter (fun q => !(q.1 == i) && !(q.1 + 1 == i && q.2.category == 2)) = lv') (k : XW p l e R s m args below meth c nL cells slots A D Q w S n lv' st) : XW p l e R s m args below meth c nL cells slots A D Q w S pc lv (.int x :: st) := by
  subst hn
  exact fun H locs ls h1 h2 h3 hl => lv_istore_n C.1 C.2.1 d hi hl hlt hl' (fun ls' hl'' => k H locs ls' h1 h2 h3 hl'')
theorem hd_istore {i : Nat} {x : Int32} (n : Nat) (C : xC p s m args meth c own cc nL ret) (d : decode cc pc = .ok (.istore i, 2)) (hn : pc + 2 = n) (lv' : List (Nat × Value))  (hlt : i < nL) (hl' : (i, Value.int x) :: lv.filter (fun q => !(q.1 == i) && !(q.1 + 1 == i && q.2.category == 2)) = lv') (k : XW p l e R s m args below meth c nL cells slots A D Q w S n lv' st) : XW p l e R s m args below meth c nL cells slots A D Q w S pc lv (.int x :: st) := by
  subst hn
  exact fun H locs ls h1 h2 h3 hl => lv_istore C.1 C.2.1 d  hl hlt hl' (fun ls' hl'' => k H locs ls' h1 h2 h3 hl'')
theorem hd_lstore_n {z : Fin 4} {i : Nat} {x : Int64} (n : Nat) (C : xC p s m args meth c own cc nL ret) (d : decode cc pc = .ok (.lstore_n z, 1)) (hn : pc + 1 = n) (lv' : List (Nat × Value)) (hi : (z : Nat) = i) (hlt : i + 1 < nL) (hl' : (i, Value.long x) :: lv.filter (fun q => !(q.1 == i) && (!(q.1 == i + 1) && !(q.1 + 1 == i && q.2.category == 2))) = lv') (k : XW p l e R s m args below meth c nL cells slots A D Q w S n lv' st) : XW p l e R s m args below meth c nL cells slots A D Q w S pc lv (.long x :: st) := by
  subst hn
  exact fun H locs ls h1 h2 h3 hl => lv_lstore_n C.1 C.2.1 d hi hl hlt hl' (fun ls' hl'' => k H locs ls' h1 h2 h3 hl'')
theorem hd_lstore {i : Nat} {x : Int64} (n : Nat) (C : xC p s m args meth c own cc nL ret) (d : decode cc pc = .ok (.lstore i, 2)) (hn : pc + 2 = n) (lv' : List (Nat × Value))  (hlt : i + 1 < nL) (hl' : (i, Value.long x) :: lv.filter (fun q => !(q.1 == i) && (!(q.1 == i + 1) && !(q.1 + 1 == i && q.2.category == 2))) = lv') (k : XW p l e R s m args below meth c nL cells slots A D Q w S n lv' st) : XW p l e R s m args below meth c nL cells slots A D Q w S pc lv (.long x :: st) := by
  subst hn
  exact fun H locs ls h1 h2 h3 hl => lv_lstore C.1 C.2.1 d  hl hlt hl' (fun ls' hl'' => k H locs ls' h1 h2 h3 hl'')
theorem hd_astore_n {z : Fin 4} {i : Nat} {x : Nat} (n : Nat) (C : xC p s m args meth c own cc nL ret) (d : decode cc pc = .ok (.astore_n z, 1)) (hn : pc + 1 = n) (lv' : List (Nat × Value)) (hi : (z : Nat) = i) (hlt : i < nL) (hl' : (i, Value.ref x) :: lv.filter (fun q => !(q.1 == i) && !(q.1 + 1 == i && q.2.category == 2)) = lv') (k : XW p l e R s m args below meth c nL cells slots A D Q w S n lv' st) : XW p l e R s m args below meth c nL cells slots A D Q w S pc lv (.ref x :: st) := by
  subst hn
  exact fun H locs ls h1 h2 h3 hl => lv_astore_n C.1 C.2.1 d hi hl hlt hl' (fun ls' hl'' => k H locs ls' h1 h2 h3 hl'')
theorem hd_astore {i : Nat} {x : Nat} (n : Nat) (C : xC p s m args meth c own cc nL ret) (d : decode cc pc = .ok (.astore i, 2)) (hn : pc + 2 = n) (lv' : List (Nat × Value))  (hlt : i < nL) (hl' : (i, Value.ref x) :: lv.filter (fun q => !(q.1 == i) && !(q.1 + 1 == i && q.2.category == 2)) = lv') (k : XW p l e R s m args below meth c nL cells slots A D Q w S n lv' st) : XW p l e R s m args below meth c nL cells slots A D Q w S pc lv (.ref x :: st) := by
  subst hn
  exact fun H locs ls h1 h2 h3 hl => lv_astore C.1 C.2.1 d  hl hlt hl' (fun ls' hl'' => k H locs ls' h1 h2 h3 hl'')
theorem hd_iinc {i : Nat} {z : Int} {x : Int32} (n : Nat) (C : xC p s m args meth c own cc nL ret) (d : decode cc pc = .ok (.iinc i z, 3)) (hn : pc + 3 = n) (q : Nat) (v : Int32) (lv' : List (Nat × Value)) (hq : lv[q]? = some (i, .int x)) (hv : x + Int32.ofInt z = v) (hlt : i < nL) (hl' : (i, Value.int v) :: lv.filter (fun q => !(q.1 == i) && !(q.1 + 1 == i && q.2.category == 2)) = lv') (k : XW p l e R s m args below meth c nL cells slots A D Q w S n lv' st) : XW p l e R s m args below meth c nL cells slots A D Q w S pc lv st := by
  subst hn
  exact fun H locs ls h1 h2 h3 hl => lv_iinc C.1 C.2.1 d hl hq hv hlt hl' (fun ls' hl'' => k H locs ls' h1 h2 h3 hl'')
theorem hd_iadd {x y : Int32} (n : Nat) (C : xC p s m args meth c own cc nL ret) (d : decode cc pc = .ok (.iadd, 1)) (hn : pc + 1 = n) (v : Int32) (hv : x + y = v) (k : XW p l e R s m args below meth c nL cells slots A D Q w S n lv (.int v :: st)) : XW p l e R s m args below meth c nL cells slots A D Q w S pc lv (.int y :: .int x :: st) := by
  subst hn; subst hv
  exact fun H locs ls h1 h2 h3 hl => lv_iadd C.1 C.2.1 d (k H locs ls h1 h2 h3 hl)
theorem hd_isub {x y : Int32} (n : Nat) (C : xC p s m args meth c own cc nL ret) (d : decode cc pc = .ok (.isub, 1)) (hn : pc + 1 = n) (v : Int32) (hv : x - y = v) (k : XW p l e R s m args below meth c nL cells slots A D Q w S n lv (.int v :: st)) : XW p l e R s m args below meth c nL cells slots A D Q w S pc lv (.int y :: .int x :: st) := by
  subst hn; subst hv
  exact fun H locs ls h1 h2 h3 hl => lv_isub C.1 C.2.1 d (k H locs ls h1 h2 h3 hl)
theorem hd_imul {x y : Int32} (n : Nat) (C : xC p s m args meth c own cc nL ret) (d : decode cc pc = .ok (.imul, 1)) (hn : pc + 1 = n) (v : Int32) (hv : x * y = v) (k : XW p l e R s m args below meth c nL cells slots A D Q w S n lv (.int v :: st)) : XW p l e R s m args below meth c nL cells slots A D Q w S pc lv (.int y :: .int x :: st) := by
  subst hn; subst hv
  exact fun H locs ls h1 h2 h3 hl => lv_imul C.1 C.2.1 d (k H locs ls h1 h2 h3 hl)
theorem hd_iand {x y : Int32} (n : Nat) (C : xC p s m args meth c own cc nL ret) (d : decode cc pc = .ok (.iand, 1)) (hn : pc + 1 = n) (v : Int32) (hv : x &&& y = v) (k : XW p l e R s m args below meth c nL cells slots A D Q w S n lv (.int v :: st)) : XW p l e R s m args below meth c nL cells slots A D Q w S pc lv (.int y :: .int x :: st) := by
  subst hn; subst hv
  exact fun H locs ls h1 h2 h3 hl => lv_iand C.1 C.2.1 d (k H locs ls h1 h2 h3 hl)
theorem hd_ior {x y : Int32} (n : Nat) (C : xC p s m args meth c own cc nL ret) (d : decode cc pc = .ok (.ior, 1)) (hn : pc + 1 = n) (v : Int32) (hv : x ||| y = v) (k : XW p l e R s m args below meth c nL cells slots A D Q w S n lv (.int v :: st)) : XW p l e R s m args below meth c nL cells slots A D Q w S pc lv (.int y :: .int x :: st) := by
  subst hn; subst hv
  exact fun H locs ls h1 h2 h3 hl => lv_ior C.1 C.2.1 d (k H locs ls h1 h2 h3 hl)
theorem hd_ixor {x y : Int32} (n : Nat) (C : xC p s m args meth c own cc nL ret) (d : decode cc pc = .ok (.ixor, 1)) (hn : pc + 1 = n) (v : Int32) (hv : x ^^^ y = v) (k : XW p l e R s m args below meth c nL cells slots A D Q w S n lv (.int v :: st)) : XW p l e R s m args below meth c nL cells slots A D Q w S pc lv (.int y :: .int x :: st) := by
  subst hn; subst hv
  exact fun H locs ls h1 h2 h3 hl => lv_ixor C.1 C.2.1 d (k H locs ls h1 h2 h3 hl)
theorem hd_ishl {x y : Int32} (n : Nat) (C : xC p s m args meth c own cc nL ret) (d : decode cc pc = .ok (.ishl, 1)) (hn : pc + 1 = n) (v : Int32) (hv : x <<< (y &&& 31) = v) (k : XW p l e R s m args below meth c nL cells slots A D Q w S n lv (.int v :: st)) : XW p l e R s m args below meth c nL cells slots A D Q w S pc lv (.int y :: .int x :: st) := by
  subst hn; subst hv
  exact fun H locs ls h1 h2 h3 hl => lv_ishl C.1 C.2.1 d (k H locs ls h1 h2 h3 hl)
theorem hd_ishr {x y : Int32} (n : Nat) (C : xC p s m args meth c own cc nL ret) (d : decode cc pc = .ok (.ishr, 1)) (hn : pc + 1 = n) (v : Int32) (hv : x >>> (y &&& 31) = v) (k : XW p l e R s m args below meth c nL cells slots A D Q w S n lv (.int v :: st)) : XW p l e R s m args below meth c nL cells slots A D Q w S pc lv (.int y :: .int x :: st) := by
  subst hn; subst hv
  exact fun H locs ls h1 h2 h3 hl => lv_ishr C.1 C.2.1 d (k H locs ls h1 h2 h3 hl)
theorem hd_idiv {x y : Int32} (n : Nat) (C : xC p s m args meth c own cc nL ret) (d : decode cc pc = .ok (.idiv, 1)) (hn : pc + 1 = n) (v : Int32) (h0 : ¬ y = 0) (hv : x / y = v) (k : XW p l e R s m args below meth c nL cells slots A D Q w S n lv (.int v :: st)) : XW p l e R s m args below meth c nL cells slots A D Q w S pc lv (.int y :: .int x :: st) := by
  subst hn; subst hv
  exact fun H locs ls h1 h2 h3 hl => lv_idiv C.1 C.2.1 d h0 (k H locs ls h1 h2 h3 hl)
theorem hd_irem {x y : Int32} (n : Nat) (C : xC p s m args meth c own cc nL ret) (d : decode cc pc = .ok (.irem, 1)) (hn : pc + 1 = n) (v : Int32) (h0 : ¬ y = 0) (hv : x - x / y * y = v) (k : XW p l e R s m args below meth c nL cells slots A D Q w S n lv (.int v :: st)) : XW p l e R s m args below meth c nL cells slots A D Q w S pc lv (.int y :: .int x :: st) := by
  subst hn; subst hv
  exact fun H locs ls h1 h2 h3 hl => lv_irem C.1 C.2.1 d h0 (k H locs ls h1 h2 h3 hl)
theorem hd_ladd {x y : Int64} (n : Nat) (C : xC p s m args meth c own cc nL ret) (d : decode cc pc = .ok (.ladd, 1)) (hn : pc + 1 = n) (v : Int64) (hv : x + y = v) (k : XW p l e R s m args below meth c nL cells slots A D Q w S n lv (.long v :: st)) : XW p l e R s m args below meth c nL cells slots A D Q w S pc lv (.long y :: .long x :: st) := by
  subst hn; subst hv
  exact fun H locs ls h1 h2 h3 hl => lv_ladd C.1 C.2.1 d (k H locs ls h1 h2 h3 hl)
theorem hd_lsub {x y : Int64} (n : Nat) (C : xC p s m args meth c own cc nL ret) (d : decode cc pc = .ok (.lsub, 1)) (hn : pc + 1 = n) (v : Int64) (hv : x - y = v) (k : XW p l e R s m args below meth c nL cells slots A D Q w S n lv (.long v :: st)) : XW p l e R s m args below meth c nL cells slots A D Q w S pc lv (.long y :: .long x :: st) := by
  subst hn; subst hv
  exact fun H locs ls h1 h2 h3 hl => lv_lsub C.1 C.2.1 d (k H locs ls h1 h2 h3 hl)
theorem hd_lmul {x y : Int64} (n : Nat) (C : xC p s m args meth c own cc nL ret) (d : decode cc pc = .ok (.lmul, 1)) (hn : pc + 1 = n) (v : Int64) (hv : x * y = v) (k : XW p l e R s m args below meth c nL cells slots A D Q w S n lv (.long v :: st)) : XW p l e R s m args below meth c nL cells slots A D Q w S pc lv (.long y :: .long x :: st) := by
  subst hn; subst hv
  exact fun H locs ls h1 h2 h3 hl => lv_lmul C.1 C.2.1 d (k H locs ls h1 h2 h3 hl)
theorem hd_land {x y : Int64} (n : Nat) (C : xC p s m args meth c own cc nL ret) (d : decode cc pc = .ok (.land, 1)) (hn : pc + 1 = n) (v : Int64) (hv : x &&& y = v) (k : XW p l e R s m args below meth c nL cells slots A D Q w S n lv (.long v :: st)) : XW p l e R s m args below meth c nL cells slots A D Q w S pc lv (.long y :: .long x :: st) := by
  subst hn; subst hv
  exact fun H locs ls h1 h2 h3 hl => lv_land C.1 C.2.1 d (k H locs ls h1 h2 h3 hl)
theorem hd_lor {x y : Int64} (n : Nat) (C : xC p s m args meth c own cc nL ret) (d : decode cc pc = .ok (.lor, 1)) (hn : pc + 1 = n) (v : Int64) (hv : x ||| y = v) (k : XW p l e R s m args below meth c nL cells slots A D Q w S n lv (.long v :: st)) : XW p l e R s m args below meth c nL cells slots A D Q w S pc lv (.long y :: .long x :: st) := by
  subst hn; subst hv
  exact fun H locs ls h1 h2 h3 hl => lv_lor C.1 C.2.1 d (k H locs ls h1 h2 h3 hl)
theorem hd_lxor {x y : Int64} (n : Nat) (C : xC p s m args meth c own cc nL ret) (d : decode cc pc = .ok (.lxor, 1)) (hn : pc + 1 = n) (v : Int64) (hv : x ^^^ y = v) (k : XW p l e R s m args below meth c nL cells slots A D Q w S n lv (.long v :: st)) : XW p l e R s m args below meth c nL cells slots A D Q w S pc lv (.long y :: .long x :: st) := by
  subst hn; subst hv
  exact fun H locs ls h1 h2 h3 hl => lv_lxor C.1 C.2.1 d (k H locs ls h1 h2 h3 hl)
theorem hd_ldiv {x y : Int64} (n : Nat) (C : xC p s m args meth c own cc nL ret) (d : decode cc pc = .ok (.ldiv, 1)) (hn : pc + 1 = n) (v : Int64) (h0 : ¬ y = 0) (hv : x / y = v) (k : XW p l e R s m args below meth c nL cells slots A D Q w S n lv (.long v :: st)) : XW p l e R s m args below meth c nL cells slots A D Q w S pc lv (.long y :: .long x :: st) := by
  subst hn; subst hv
  exact fun H locs ls h1 h2 h3 hl => lv_ldiv C.1 C.2.1 d h0 (k H locs ls h1 h2 h3 hl)
theorem hd_lrem {x y : Int64} (n : Nat) (C : xC p s m args meth c own cc nL ret) (d : decode cc pc = .ok (.lrem, 1)) (hn : pc + 1 = n) (v : Int64) (h0 : ¬ y = 0) (hv : x - x / y * y = v) (k : XW p l e R s m args below meth c nL cells slots A D Q w S n lv (.long v :: st)) : XW p l e R s m args below meth c nL cells slots A D Q w S pc lv (.long y :: .long x :: st) := by
  subst hn; subst hv
  exact fun H locs ls h1 h2 h3 hl => lv_lrem C.1 C.2.1 d h0 (k H locs ls h1 h2 h3 hl)
theorem hd_ineg {x : Int32} (n : Nat) (C : xC p s m args meth c own cc nL ret) (d : decode cc pc = .ok (.ineg, 1)) (hn : pc + 1 = n) (v : Int32) (hv : -x = v) (k : XW p l e R s m args below meth c nL cells slots A D Q w S n lv (.int v :: st)) : XW p l e R s m args below meth c nL cells slots A D Q w S pc lv (.int x :: st) := by
  subst hn; subst hv
  exact fun H locs ls h1 h2 h3 hl => lv_ineg C.1 C.2.1 d (k H locs ls h1 h2 h3 hl)
theorem hd_i2l {x : Int32} (n : Nat) (C : xC p s m args meth c own cc nL ret) (d : decode cc pc = .ok (.i2l, 1)) (hn : pc + 1 = n) (v : Int64) (hv : x.toInt64 = v) (k : XW p l e R s m args below meth c nL cells slots A D Q w S n lv (.long v :: st)) : XW p l e R s m args below meth c nL cells slots A D Q w S pc lv (.int x :: st) := by
  subst hn
  exact fun H locs ls h1 h2 h3 hl => lv_i2l C.1 C.2.1 d hv (k H locs ls h1 h2 h3 hl)
theorem hd_l2i {x : Int64} (n : Nat) (C : xC p s m args meth c own cc nL ret) (d : decode cc pc = .ok (.l2i, 1)) (hn : pc + 1 = n) (v : Int32) (hv : x.toInt32 = v) (k : XW p l e R s m args below meth c nL cells slots A D Q w S n lv (.int v :: st)) : XW p l e R s m args below meth c nL cells slots A D Q w S pc lv (.long x :: st) := by
  subst hn
  exact fun H locs ls h1 h2 h3 hl => lv_l2i C.1 C.2.1 d hv (k H locs ls h1 h2 h3 hl)
theorem hd_i2b {x : Int32} (n : Nat) (C : xC p s m args meth c own cc nL ret) (d : decode cc pc = .ok (.i2b, 1)) (hn : pc + 1 = n) (v : Int32) (hv : x.toInt8.toInt32 = v) (k : XW p l e R s m args below meth c nL cells slots A D Q w S n lv (.int v :: st)) : XW p l e R s m args below meth c nL cells slots A D Q w S pc lv (.int x :: st) := by
  subst hn
  exact fun H locs ls h1 h2 h3 hl => lv_i2b C.1 C.2.1 d hv (k H locs ls h1 h2 h3 hl)
theorem hd_i2s {x : Int32} (n : Nat) (C : xC p s m args meth c own cc nL ret) (d : decode cc pc = .ok (.i2s, 1)) (hn : pc + 1 = n) (v : Int32) (hv : x.toInt16.toInt32 = v) (k : XW p l e R s m args below meth c nL cells slots A D Q w S n lv (.int v :: st)) : XW p l e R s m args below meth c nL cells slots A D Q w S pc lv (.int x :: st) := by
  subst hn
  exact fun H locs ls h1 h2 h3 hl => lv_i2s C.1 C.2.1 d hv (k H locs ls h1 h2 h3 hl)
theorem hd_lshl {x : Int64} {y : Int32} (n : Nat) (C : xC p s m args meth c own cc nL ret) (d : decode cc pc = .ok (.lshl, 1)) (hn : pc + 1 = n) (v : Int64) (hv : x <<< (y.toInt64 &&& 63) = v) (k : XW p l e R s m args below meth c nL cells slots A D Q w S n lv (.long v :: st)) : XW p l e R s m args below meth c nL cells slots A D Q w S pc lv (.int y :: .long x :: st) := by
  subst hn
  exact fun H locs ls h1 h2 h3 hl => lv_lshl C.1 C.2.1 d hv (k H locs ls h1 h2 h3 hl)
theorem hd_lcmp {x y : Int64} (n : Nat) (C : xC p s m args meth c own cc nL ret) (d : decode cc pc = .ok (.lcmp, 1)) (hn : pc + 1 = n) (k : XW p l e R s m args below meth c nL cells slots A D Q w S n lv (.int (lg_cmp x y) :: st)) : XW p l e R s m args below meth c nL cells slots A D Q w S pc lv (.long y :: .long x :: st) := by
  subst hn
  exact fun H locs ls h1 h2 h3 hl => W.lcmp C.1 C.2.1 d (k H locs ls h1 h2 h3 hl)
theorem hd_dup {va : Value} (n : Nat) (C : xC p s m args meth c own cc nL ret) (d : decode cc pc = .ok (.dup, 1)) (hn : pc + 1 = n) (hva : va.category = 1) (k : XW p l e R s m args below meth c nL cells slots A D Q w S n lv (va :: va :: st)) : XW p l e R s m args below meth c nL cells slots A D Q w S pc lv (va :: st) := by
  subst hn
  exact fun H locs ls h1 h2 h3 hl => lv_dup C.1 C.2.1 d hva (k H locs ls h1 h2 h3 hl)
theorem hd_pop {va : Value} (n : Nat) (C : xC p s m args meth c own cc nL ret) (d : decode cc pc = .ok (.pop, 1)) (hn : pc + 1 = n) (hva : va.category = 1) (k : XW p l e R s m args below meth c nL cells slots A D Q w S n lv st) : XW p l e R s m args below meth c nL cells slots A D Q w S pc lv (va :: st) := by
  subst hn
  exact fun H locs ls h1 h2 h3 hl => lv_pop C.1 C.2.1 d hva (k H locs ls h1 h2 h3 hl)
theorem hd_dup2 {va vb : Value} (n : Nat) (C : xC p s m args meth c own cc nL ret) (d : decode cc pc = .ok (.dup2, 1)) (hn : pc + 1 = n) (hva : va.category = 1) (hvb : vb.category = 1) (k : XW p l e R s m args below meth c nL cells slots A D Q w S n lv (va :: vb :: va :: vb :: st)) : XW p l e R s m args below meth c nL cells slots A D Q w S pc lv (va :: vb :: st) := by
  subst hn
  exact fun H locs ls h1 h2 h3 hl => lv_dup2_11 C.1 C.2.1 d hva hvb (k H locs ls h1 h2 h3 hl)
theorem hd_goto {z : Int} (t : Nat) (C : xC p s m args meth c own cc nL ret) (d : decode cc pc = .ok (.goto z, 3)) (ht : (pc : Int) + z = (t : Int)) (k : XW p l e R s m args below meth c nL cells slots A D Q w S t lv st) : XW p l e R s m args below meth c nL cells slots A D Q w S pc lv st := fun H locs ls h1 h2 h3 hl => lv_goto C.1 C.2.1 d ht (k H locs ls h1 h2 h3 hl)
theorem hd_if_eq {x : Int32} {z : Int} (n t : Nat) (C : xC p s m args meth c own cc nL ret) (d : decode cc pc = .ok (.ifCond .eq z, 3)) (hn : pc + 3 = n) (ht : (pc : Int) + z = (t : Int)) (kt : x = 0 → XW p l e R s m args below meth c nL cells slots A D Q w S t lv st) (kf : ¬ x = 0 → XW p l e R s m args below meth c nL cells slots A D Q w S n lv st) : XW p l e R s m args below meth c nL cells slots A D Q w S pc lv (.int x :: st) := by
  subst hn
  exact fun H locs ls h1 h2 h3 hl => lv_if_eq C.1 C.2.1 d ht (fun q => kt q H locs ls h1 h2 h3 hl) (fun q => kf q H locs ls h1 h2 h3 hl)
theorem hd_icmp_eq {x y : Int32} {z : Int} (n t : Nat) (C : xC p s m args meth c own cc nL ret) (d : decode cc pc = .ok (.if_icmp .eq z, 3)) (hn : pc + 3 = n) (ht : (pc : Int) + z = (t : Int)) (kt : x = y → XW p l e R s m args below meth c nL cells slots A D Q w S t lv st) (kf : ¬ x = y → XW p l e R s m args below meth c nL cells slots A D Q w S n lv st) : XW p l e R s m args below meth c nL cells slots A D Q w S pc lv (.int y :: .int x :: st) := by
  subst hn
  exact fun H locs ls h1 h2 h3 hl => lv_icmp_eq C.1 C.2.1 d ht (fun q => kt q H locs ls h1 h2 h3 hl) (fun q => kf q H locs ls h1 h2 h3 hl)
theorem hd_if_ne {x : Int32} {z : Int} (n t : Nat) (C : xC p s m args meth c own cc nL ret) (d : decode cc pc = .ok (.ifCond .ne z, 3)) (hn : pc + 3 = n) (ht : (pc : Int) + z = (t : Int)) (kt : ¬ x = 0 → XW p l e R s m args below meth c nL cells slots A D Q w S t lv st) (kf : x = 0 → XW p l e R s m args below meth c nL cells slots A D Q w S n lv st) : XW p l e R s m args below meth c nL cells slots A D Q w S pc lv (.int x :: st) := by
  subst hn
  exact fun H locs ls h1 h2 h3 hl => lv_if_ne C.1 C.2.1 d ht (fun q => kt q H locs ls h1 h2 h3 hl) (fun q => kf q H locs ls h1 h2 h3 hl)
theorem hd_icmp_ne {x y : Int32} {z : Int} (n t : Nat) (C : xC p s m args meth c own cc nL ret) (d : decode cc pc = .ok (.if_icmp .ne z, 3)) (hn : pc + 3 = n) (ht : (pc : Int) + z = (t : Int)) (kt : ¬ x = y → XW p l e R s m args below meth c nL cells slots A D Q w S t lv st) (kf : x = y → XW p l e R s m args below meth c nL cells slots A D Q w S n lv st) : XW p l e R s m args below meth c nL cells slots A D Q w S pc lv (.int y :: .int x :: st) := by
  subst hn
  exact fun H locs ls h1 h2 h3 hl => lv_icmp_ne C.1 C.2.1 d ht (fun q => kt q H locs ls h1 h2 h3 hl) (fun q => kf q H locs ls h1 h2 h3 hl)
theorem hd_if_lt {x : Int32} {z : Int} (n t : Nat) (C : xC p s m args meth c own cc nL ret) (d : decode cc pc = .ok (.ifCond .lt z, 3)) (hn : pc + 3 = n) (ht : (pc : Int) + z = (t : Int)) (kt : x < 0 → XW p l e R s m args below meth c nL cells slots A D Q w S t lv st) (kf : ¬ x < 0 → XW p l e R s m args below meth c nL cells slots A D Q w S n lv st) : XW p l e R s m args below meth c nL cells slots A D Q w S pc lv (.int x :: st) := by
  subst hn
  exact fun H locs ls h1 h2 h3 hl => lv_if_lt C.1 C.2.1 d ht (fun q => kt q H locs ls h1 h2 h3 hl) (fun q => kf q H locs ls h1 h2 h3 hl)
theorem hd_icmp_lt {x y : Int32} {z : Int} (n t : Nat) (C : xC p s m args meth c own cc nL ret) (d : decode cc pc = .ok (.if_icmp .lt z, 3)) (hn : pc + 3 = n) (ht : (pc : Int) + z = (t : Int)) (kt : x < y → XW p l e R s m args below meth c nL cells slots A D Q w S t lv st) (kf : ¬ x < y → XW p l e R s m args below meth c nL cells slots A D Q w S n lv st) : XW p l e R s m args below meth c nL cells slots A D Q w S pc lv (.int y :: .int x :: st) := by
  subst hn
  exact fun H locs ls h1 h2 h3 hl => lv_icmp_lt C.1 C.2.1 d ht (fun q => kt q H locs ls h1 h2 h3 hl) (fun q => kf q H locs ls h1 h2 h3 hl)
theorem hd_if_ge {x : Int32} {z : Int} (n t : Nat) (C : xC p s m args meth c own cc nL ret) (d : decode cc pc = .ok (.ifCond .ge z, 3)) (hn : pc + 3 = n) (ht : (pc : Int) + z = (t : Int)) (kt : 0 ≤ x → XW p l e R s m args below meth c nL cells slots A D Q w S t lv st) (kf : ¬ 0 ≤ x → XW p l e R s m args below meth c nL cells slots A D Q w S n lv st) : XW p l e R s m args below meth c nL cells slots A D Q w S pc lv (.int x :: st) := by
  subst hn
  exact fun H locs ls h1 h2 h3 hl => lv_if_ge C.1 C.2.1 d ht (fun q => kt q H locs ls h1 h2 h3 hl) (fun q => kf q H locs ls h1 h2 h3 hl)
theorem hd_icmp_ge {x y : Int32} {z : Int} (n t : Nat) (C : xC p s m args meth c own cc nL ret) (d : decode cc pc = .ok (.if_icmp .ge z, 3)) (hn : pc + 3 = n) (ht : (pc : Int) + z = (t : Int)) (kt : y ≤ x → XW p l e R s m args below meth c nL cells slots A D Q w S t lv st) (kf : ¬ y ≤ x → XW p l e R s m args below meth c nL cells slots A D Q w S n lv st) : XW p l e R s m args below meth c nL cells slots A D Q w S pc lv (.int y :: .int x :: st) := by
  subst hn
  exact fun H locs ls h1 h2 h3 hl => lv_icmp_ge C.1 C.2.1 d ht (fun q => kt q H locs ls h1 h2 h3 hl) (fun q => kf q H locs ls h1 h2 h3 hl)
theorem hd_if_gt {x : Int32} {z : Int} (n t : Nat) (C : xC p s m args meth c own cc nL ret) (d : decode cc pc = .ok (.ifCond .gt z, 3)) (hn : pc + 3 = n) (ht : (pc : Int) + z = (t : Int)) (kt : 0 < x → XW p l e R s m args below meth c nL cells slots A D Q w S t lv st) (kf : ¬ 0 < x → XW p l e R s m args below meth c nL cells slots A D Q w S n lv st) : XW p l e R s m args below meth c nL cells slots A D Q w S pc lv (.int x :: st) := by
  subst hn
  exact fun H locs ls h1 h2 h3 hl => lv_if_gt C.1 C.2.1 d ht (fun q => kt q H locs ls h1 h2 h3 hl) (fun q => kf q H locs ls h1 h2 h3 hl)
theorem hd_icmp_gt {x y : Int32} {z : Int} (n t : Nat) (C : xC p s m args meth c own cc nL ret) (d : decode cc pc = .ok (.if_icmp .gt z, 3)) (hn : pc + 3 = n) (ht : (pc : Int) + z = (t : Int)) (kt : y < x → XW p l e R s m args below meth c nL cells slots A D Q w S t lv st) (kf : ¬ y < x → XW p l e R s m args below meth c nL cells slots A D Q w S n lv st) : XW p l e R s m args below meth c nL cells slots A D Q w S pc lv (.int y :: .int x :: st) := by
  subst hn
  exact fun H locs ls h1 h2 h3 hl => lv_icmp_gt C.1 C.2.1 d ht (fun q => kt q H locs ls h1 h2 h3 hl) (fun q => kf q H locs ls h1 h2 h3 hl)
theorem hd_if_le {x : Int32} {z : Int} (n t : Nat) (C : xC p s m args meth c own cc nL ret) (d : decode cc pc = .ok (.ifCond .le z, 3)) (hn : pc + 3 = n) (ht : (pc : Int) + z = (t : Int)) (kt : x ≤ 0 → XW p l e R s m args below meth c nL cells slots A D Q w S t lv st) (kf : ¬ x ≤ 0 → XW p l e R s m args below meth c nL cells slots A D Q w S n lv st) : XW p l e R s m args below meth c nL cells slots A D Q w S pc lv (.int x :: st) := by
  subst hn
  exact fun H locs ls h1 h2 h3 hl => lv_if_le C.1 C.2.1 d ht (fun q => kt q H locs ls h1 h2 h3 hl) (fun q => kf q H locs ls h1 h2 h3 hl)
theorem hd_icmp_le {x y : Int32} {z : Int} (n t : Nat) (C : xC p s m args meth c own cc nL ret) (d : decode cc pc = .ok (.if_icmp .le z, 3)) (hn : pc + 3 = n) (ht : (pc : Int) + z = (t : Int)) (kt : x ≤ y → XW p l e R s m args below meth c nL cells slots A D Q w S t lv st) (kf : ¬ x ≤ y → XW p l e R s m args below meth c nL cells slots A D Q w S n lv st) : XW p l e R s m args below meth c nL cells slots A D Q w S pc lv (.int y :: .int x :: st) := by
  subst hn
  exact fun H locs ls h1 h2 h3 hl => lv_icmp_le C.1 C.2.1 d ht (fun q => kt q H locs ls h1 h2 h3 hl) (fun q => kf q H locs ls h1 h2 h3 hl)
theorem hd_icmp_eqN {a b : Nat} {z : Int} (n t : Nat) (C : xC p s m args meth c own cc nL ret) (d : decode cc pc = .ok (.if_icmp .eq z, 3)) (hn : pc + 3 = n) (ht : (pc : Int) + z = (t : Int)) (ha : a < 2 ^ 31) (hb : b < 2 ^ 31) (kt : a = b → XW p l e R s m args below meth c nL cells slots A D Q w S t lv st) (kf : a ≠ b → XW p l e R s m args below meth c nL cells slots A D Q w S n lv st) : XW p l e R s m args below meth c nL cells slots A D Q w S pc lv (.int (nI b) :: .int (nI a) :: st) := hd_icmp_eq n t C d hn ht (fun q => kt ((nI_eq ha hb).mp q)) (fun q => kf (fun e => q ((nI_eq ha hb).mpr e)))
theorem hd_icmp_neN {a b : Nat} {z : Int} (n t : Nat) (C : xC p s m args meth c own cc nL ret) (d : decode cc pc = .ok (.if_icmp .ne z, 3)) (hn : pc + 3 = n) (ht : (pc : Int) + z = (t : Int)) (ha : a < 2 ^ 31) (hb : b < 2 ^ 31) (kt : a ≠ b → XW p l e R s m args below meth c nL cells slots A D Q w S t lv st) (kf : a = b → XW p l e R s m args below meth c nL cells slots A D Q w S n lv st) : XW p l e R s m args below meth c nL cells slots A D Q w S pc lv (.int (nI b) :: .int (nI a) :: st) := hd_icmp_ne n t C d hn ht (fun q => kt ((not_congr (nI_eq ha hb)).mp q)) (fun q => kf ((nI_eq ha hb).mp q))
theorem hd_icmp_ltN {a b : Nat} {z : Int} (n t : Nat) (C : xC p s m args meth c own cc nL ret) (d : decode cc pc = .ok (.if_icmp .lt z, 3)) (hn : pc + 3 = n) (ht : (pc : Int) + z = (t : Int)) (ha : a < 2 ^ 31) (hb : b < 2 ^ 31) (kt : a < b → XW p l e R s m args below meth c nL cells slots A D Q w S t lv st) (kf : b ≤ a → XW p l e R s m args below meth c nL cells slots A D Q w S n lv st) : XW p l e R s m args below meth c nL cells slots A D Q w S pc lv (.int (nI b) :: .int (nI a) :: st) := hd_icmp_lt n t C d hn ht (fun q => kt ((nI_ltI ha hb).mp q)) (fun q => kf (Nat.le_of_not_lt fun e => q ((nI_ltI ha hb).mpr e)))
theorem hd_icmp_geN {a b : Nat} {z : Int} (n t : Nat) (C : xC p s m args meth c own cc nL ret) (d : decode cc pc = .ok (.if_icmp .ge z, 3)) (hn : pc + 3 = n) (ht : (pc : Int) + z = (t : Int)) (ha : a < 2 ^ 31) (hb : b < 2 ^ 31) (kt : b ≤ a → XW p l e R s m args below meth c nL cells slots A D Q w S t lv st) (kf : a < b → XW p l e R s m args below meth c nL cells slots A D Q w S n lv st) : XW p l e R s m args below meth c nL cells slots A D Q w S pc lv (.int (nI b) :: .int (nI a) :: st) := hd_icmp_ge n t C d hn ht (fun q => kt ((nI_leI hb ha).mp q)) (fun q => kf (Nat.lt_of_not_le fun e => q ((nI_leI hb ha).mpr e)))
theorem hd_icmp_gtN {a b : Nat} {z : Int} (n t : Nat) (C : xC p s m args meth c own cc nL ret) (d : decode cc pc = .ok (.if_icmp .gt z, 3)) (hn : pc + 3 = n) (ht : (pc : Int) + z = (t : Int)) (ha : a < 2 ^ 31) (hb : b < 2 ^ 31) (kt : b < a → XW p l e R s m args below meth c nL cells slots A D Q w S t lv st) (kf : a ≤ b → XW p l e R s m args below meth c nL cells slots A D Q w S n lv st) : XW p l e R s m args below meth c nL cells slots A D Q w S pc lv (.int (nI b) :: .int (nI a) :: st) := hd_icmp_gt n t C d hn ht (fun q => kt ((nI_ltI hb ha).mp q)) (fun q => kf (Nat.le_of_not_lt fun e => q ((nI_ltI hb ha).mpr e)))
theorem hd_icmp_leN {a b : Nat} {z : Int} (n t : Nat) (C : xC p s m args meth c own cc nL ret) (d : decode cc pc = .ok (.if_icmp .le z, 3)) (hn : pc + 3 = n) (ht : (pc : Int) + z = (t : Int)) (ha : a < 2 ^ 31) (hb : b < 2 ^ 31) (kt : a ≤ b → XW p l e R s m args below meth c nL cells slots A D Q w S t lv st) (kf : b < a → XW p l e R s m args below meth c nL cells slots A D Q w S n lv st) : XW p l e R s m args below meth c nL cells slots A D Q w S pc lv (.int (nI b) :: .int (nI a) :: st) := hd_icmp_le n t C d hn ht (fun q => kt ((nI_leI ha hb).mp q)) (fun q => kf (Nat.lt_of_not_le fun e => q ((nI_leI ha hb).mpr e)))
theorem nI_eq0 {a : Nat} (ha : a < 2 ^ 31) : nI a = 0 ↔ a = 0 := by rw [← nI_0]; exact nI_eq ha (by decide)
theorem hd_if_eqN {a : Nat} {z : Int} (n t : Nat) (C : xC p s m args meth c own cc nL ret) (d : decode cc pc = .ok (.ifCond .eq z, 3)) (hn : pc + 3 = n) (ht : (pc : Int) + z = (t : Int)) (ha : a < 2 ^ 31) (kt : a = 0 → XW p l e R s m args below meth c nL cells slots A D Q w S t lv st) (kf : a ≠ 0 → XW p l e R s m args below meth c nL cells slots A D Q w S n lv st) : XW p l e R s m args below meth c nL cells slots A D Q w S pc lv (.int (nI a) :: st) := hd_if_eq n t C d hn ht (fun q => kt ((nI_eq0 ha).mp q)) (fun q => kf (fun e => q ((nI_eq0 ha).mpr e)))
theorem hd_if_neN {a : Nat} {z : Int} (n t : Nat) (C : xC p s m args meth c own cc nL ret) (d : decode cc pc = .ok (.ifCond .ne z, 3)) (hn : pc + 3 = n) (ht : (pc : Int) + z = (t : Int)) (ha : a < 2 ^ 31) (kt : a ≠ 0 → XW p l e R s m args below meth c nL cells slots A D Q w S t lv st) (kf : a = 0 → XW p l e R s m args below meth c nL cells slots A D Q w S n lv st) : XW p l e R s m args below meth c nL cells slots A D Q w S pc lv (.int (nI a) :: st) := hd_if_ne n t C d hn ht (fun q => kt (fun e => q ((nI_eq0 ha).mpr e))) (fun q => kf ((nI_eq0 ha).mp q))
theorem lg_lt (x y : Int64) : ((lg_cmp x y) < 0) ↔ x < y := by
  unfold lg_cmp
  by_cases h1 : y < x
  · have h2 : ¬ x = y := fun e => by subst e; exact absurd h1 (by rw [Int64.lt_iff_toInt_lt]; omega)
    have h3 : ¬ x < y := by rw [Int64.lt_iff_toInt_lt] at h1 ⊢; omega
    have h4 : ¬ x ≤ y := by rw [Int64.le_iff_toInt_le]; rw [Int64.lt_iff_toInt_lt] at h1; omega
    have h5 : y ≤ x := by rw [Int64.le_iff_toInt_le]; rw [Int64.lt_iff_toInt_lt] at h1; omega
    simp [GT.gt, h1, h2, h3, h4, h5]
  · by_cases h2 : x = y
    · subst h2
      simp [GT.gt, h1]
    · have h3 : x < y := by rw [Int64.lt_iff_toInt_lt] at h1 ⊢; have := mt Int64.toInt_inj.mp h2; omega
      have h4 : x ≤ y := by rw [Int64.le_iff_toInt_le]; rw [Int64.lt_iff_toInt_lt] at h3; omega
      have h5 : ¬ y ≤ x := by rw [Int64.le_iff_toInt_le]; rw [Int64.lt_iff_toInt_lt] at h3; omega
      simp [GT.gt, h1, h2, h3, h4, h5]
theorem hd_lc_lt {x y : Int64} {z : Int} (n t : Nat) (C : xC p s m args meth c own cc nL ret) (d : decode cc pc = .ok (.lcmp, 1)) (d2 : decode cc (pc + 1) = .ok (.ifCond .lt z, 3)) (hn : pc + 4 = n) (ht : ((pc + 1 : Nat) : Int) + z = (t : Int)) (kt : x < y → XW p l e R s m args below meth c nL cells slots A D Q w S t lv st) (kf : ¬ (x < y) → XW p l e R s m args below meth c nL cells slots A D Q w S n lv st) : XW p l e R s m args below meth c nL cells slots A D Q w S pc lv (.long y :: .long x :: st) := hd_lcmp (pc + 1) C d rfl (hd_if_lt n t C d2 (by omega) ht (fun q => kt ((lg_lt x y).mp q)) (fun q => kf (fun e => q ((lg_lt x y).mpr e))))
theorem lg_ge (x y : Int64) : (0 ≤ (lg_cmp x y)) ↔ y ≤ x := by
  unfold lg_cmp
  by_cases h1 : y < x
  · have h2 : ¬ x = y := fun e => by subst e; exact absurd h1 (by rw [Int64.lt_iff_toInt_lt]; omega)
    have h3 : ¬ x < y := by rw [Int64.lt_iff_toInt_lt] at h1 ⊢; omega
    have h4 : ¬ x ≤ y := by rw [Int64.le_iff_toInt_le]; rw [Int64.lt_iff_toInt_lt] at h1; omega
    have h5 : y ≤ x := by rw [Int64.le_iff_toInt_le]; rw [Int64.lt_iff_toInt_lt] at h1; omega
    simp [GT.gt, h1, h2, h3, h4, h5]
  · by_cases h2 : x = y
    · subst h2
      simp [GT.gt, h1]
    · have h3 : x < y := by rw [Int64.lt_iff_toInt_lt] at h1 ⊢; have := mt Int64.toInt_inj.mp h2; omega
      have h4 : x ≤ y := by rw [Int64.le_iff_toInt_le]; rw [Int64.lt_iff_toInt_lt] at h3; omega
      have h5 : ¬ y ≤ x := by rw [Int64.le_iff_toInt_le]; rw [Int64.lt_iff_toInt_lt] at h3; omega
      simp [GT.gt, h1, h2, h3, h4, h5]
theorem hd_lc_ge {x y : Int64} {z : Int} (n t : Nat) (C : xC p s m args meth c own cc nL ret) (d : decode cc pc = .ok (.lcmp, 1)) (d2 : decode cc (pc + 1) = .ok (.ifCond .ge z, 3)) (hn : pc + 4 = n) (ht : ((pc + 1 : Nat) : Int) + z = (t : Int)) (kt : y ≤ x → XW p l e R s m args below meth c nL cells slots A D Q w S t lv st) (kf : ¬ (y ≤ x) → XW p l e R s m args below meth c nL cells slots A D Q w S n lv st) : XW p l e R s m args below meth c nL cells slots A D Q w S pc lv (.long y :: .long x :: st) := hd_lcmp (pc + 1) C d rfl (hd_if_ge n t C d2 (by omega) ht (fun q => kt ((lg_ge x y).mp q)) (fun q => kf (fun e => q ((lg_ge x y).mpr e))))
theorem lg_gt (x y : Int64) : (0 < (lg_cmp x y)) ↔ y < x := by
  unfold lg_cmp
  by_cases h1 : y < x
  · have h2 : ¬ x = y := fun e => by subst e; exact absurd h1 (by rw [Int64.lt_iff_toInt_lt]; omega)
    have h3 : ¬ x < y := by rw [Int64.lt_iff_toInt_lt] at h1 ⊢; omega
    have h4 : ¬ x ≤ y := by rw [Int64.le_iff_toInt_le]; rw [Int64.lt_iff_toInt_lt] at h1; omega
    have h5 : y ≤ x := by rw [Int64.le_iff_toInt_le]; rw [Int64.lt_iff_toInt_lt] at h1; omega
    simp [GT.gt, h1, h2, h3, h4, h5]
  · by_cases h2 : x = y
    · subst h2
      simp [GT.gt, h1]
    · have h3 : x < y := by rw [Int64.lt_iff_toInt_lt] at h1 ⊢; have := mt Int64.toInt_inj.mp h2; omega
      have h4 : x ≤ y := by rw [Int64.le_iff_toInt_le]; rw [Int64.lt_iff_toInt_lt] at h3; omega
      have h5 : ¬ y ≤ x := by rw [Int64.le_iff_toInt_le]; rw [Int64.lt_iff_toInt_lt] at h3; omega
      simp [GT.gt, h1, h2, h3, h4, h5]
theorem hd_lc_gt {x y : Int64} {z : Int} (n t : Nat) (C : xC p s m args meth c own cc nL ret) (d : decode cc pc = .ok (.lcmp, 1)) (d2 : decode cc (pc + 1) = .ok (.ifCond .gt z, 3)) (hn : pc + 4 = n) (ht : ((pc + 1 : Nat) : Int) + z = (t : Int)) (kt : y < x → XW p l e R s m args below meth c nL cells slots A D Q w S t lv st) (kf : ¬ (y < x) → XW p l e R s m args below meth c nL cells slots A D Q w S n lv st) : XW p l e R s m args below meth c nL cells slots A D Q w S pc lv (.long y :: .long x :: st) := hd_lcmp (pc + 1) C d rfl (hd_if_gt n t C d2 (by omega) ht (fun q => kt ((lg_gt x y).mp q)) (fun q => kf (fun e => q ((lg_gt x y).mpr e))))
theorem lg_le (x y : Int64) : ((lg_cmp x y) ≤ 0) ↔ x ≤ y := by
  unfold lg_cmp
  by_cases h1 : y < x
  · have h2 : ¬ x = y := fun e => by subst e; exact absurd h1 (by rw [Int64.lt_iff_toInt_lt]; omega)
    have h3 : ¬ x < y := by rw [Int64.lt_iff_toInt_lt] at h1 ⊢; omega
    have h4 : ¬ x ≤ y := by rw [Int64.le_iff_toInt_le]; rw [Int64.lt_iff_toInt_lt] at h1; omega
    have h5 : y ≤ x := by rw [Int64.le_iff_toInt_le]; rw [Int64.lt_iff_toInt_lt] at h1; omega
    simp [GT.gt, h1, h2, h3, h4, h5]
  · by_cases h2 : x = y
    · subst h2
      simp [GT.gt, h1]
    · have h3 : x < y := by rw [Int64.lt_iff_toInt_lt] at h1 ⊢; have := mt Int64.toInt_inj.mp h2; omega
      have h4 : x ≤ y := by rw [Int64.le_iff_toInt_le]; rw [Int64.lt_iff_toInt_lt] at h3; omega
      have h5 : ¬ y ≤ x := by rw [Int64.le_iff_toInt_le]; rw [Int64.lt_iff_toInt_lt] at h3; omega
      simp [GT.gt, h1, h2, h3, h4, h5]
theorem hd_lc_le {x y : Int64} {z : Int} (n t : Nat) (C : xC p s m args meth c own cc nL ret) (d : decode cc pc = .ok (.lcmp, 1)) (d2 : decode cc (pc + 1) = .ok (.ifCond .le z, 3)) (hn : pc + 4 = n) (ht : ((pc + 1 : Nat) : Int) + z = (t : Int)) (kt : x ≤ y → XW p l e R s m args below meth c nL cells slots A D Q w S t lv st) (kf : ¬ (x ≤ y) → XW p l e R s m args below meth c nL cells slots A D Q w S n lv st) : XW p l e R s m args below meth c nL cells slots A D Q w S pc lv (.long y :: .long x :: st) := hd_lcmp (pc + 1) C d rfl (hd_if_le n t C d2 (by omega) ht (fun q => kt ((lg_le x y).mp q)) (fun q => kf (fun e => q ((lg_le x y).mpr e))))
theorem lg_eq (x y : Int64) : ((lg_cmp x y) = 0) ↔ x = y := by
  unfold lg_cmp
  by_cases h1 : y < x
  · have h2 : ¬ x = y := fun e => by subst e; exact absurd h1 (by rw [Int64.lt_iff_toInt_lt]; omega)
    have h3 : ¬ x < y := by rw [Int64.lt_iff_toInt_lt] at h1 ⊢; omega
    have h4 : ¬ x ≤ y := by rw [Int64.le_iff_toInt_le]; rw [Int64.lt_iff_toInt_lt] at h1; omega
    have h5 : y ≤ x := by rw [Int64.le_iff_toInt_le]; rw [Int64.lt_iff_toInt_lt] at h1; omega
    simp [GT.gt, h1, h2, h3, h4, h5]
  · by_cases h2 : x = y
    · subst h2
      simp [GT.gt, h1]
    · have h3 : x < y := by rw [Int64.lt_iff_toInt_lt] at h1 ⊢; have := mt Int64.toInt_inj.mp h2; omega
      have h4 : x ≤ y := by rw [Int64.le_iff_toInt_le]; rw [Int64.lt_iff_toInt_lt] at h3; omega
      have h5 : ¬ y ≤ x := by rw [Int64.le_iff_toInt_le]; rw [Int64.lt_iff_toInt_lt] at h3; omega
      simp [GT.gt, h1, h2, h3, h4, h5]
theorem hd_lc_eq {x y : Int64} {z : Int} (n t : Nat) (C : xC p s m args meth c own cc nL ret) (d : decode cc pc = .ok (.lcmp, 1)) (d2 : decode cc (pc + 1) = .ok (.ifCond .eq z, 3)) (hn : pc + 4 = n) (ht : ((pc + 1 : Nat) : Int) + z = (t : Int)) (kt : x = y → XW p l e R s m args below meth c nL cells slots A D Q w S t lv st) (kf : ¬ (x = y) → XW p l e R s m args below meth c nL cells slots A D Q w S n lv st) : XW p l e R s m args below meth c nL cells slots A D Q w S pc lv (.long y :: .long x :: st) := hd_lcmp (pc + 1) C d rfl (hd_if_eq n t C d2 (by omega) ht (fun q => kt ((lg_eq x y).mp q)) (fun q => kf (fun e => q ((lg_eq x y).mpr e))))
theorem lg_ne (x y : Int64) : (¬ (lg_cmp x y) = 0) ↔ ¬ x = y := by
  unfold lg_cmp
  by_cases h1 : y < x
  · have h2 : ¬ x = y := fun e => by subst e; exact absurd h1 (by rw [Int64.lt_iff_toInt_lt]; omega)
    have h3 : ¬ x < y := by rw [Int64.lt_iff_toInt_lt] at h1 ⊢; omega
    have h4 : ¬ x ≤ y := by rw [Int64.le_iff_toInt_le]; rw [Int64.lt_iff_toInt_lt] at h1; omega
    have h5 : y ≤ x := by rw [Int64.le_iff_toInt_le]; rw [Int64.lt_iff_toInt_lt] at h1; omega
    simp [GT.gt, h1, h2, h3, h4, h5]
  · by_cases h2 : x = y
    · subst h2
      simp [GT.gt, h1]
    · have h3 : x < y := by rw [Int64.lt_iff_toInt_lt] at h1 ⊢; have := mt Int64.toInt_inj.mp h2; omega
      have h4 : x ≤ y := by rw [Int64.le_iff_toInt_le]; rw [Int64.lt_iff_toInt_lt] at h3; omega
      have h5 : ¬ y ≤ x := by rw [Int64.le_iff_toInt_le]; rw [Int64.lt_iff_toInt_lt] at h3; omega
      simp [GT.gt, h1, h2, h3, h4, h5]
theorem hd_lc_ne {x y : Int64} {z : Int} (n t : Nat) (C : xC p s m args meth c own cc nL ret) (d : decode cc pc = .ok (.lcmp, 1)) (d2 : decode cc (pc + 1) = .ok (.ifCond .ne z, 3)) (hn : pc + 4 = n) (ht : ((pc + 1 : Nat) : Int) + z = (t : Int)) (kt : ¬ x = y → XW p l e R s m args below meth c nL cells slots A D Q w S t lv st) (kf : x = y → XW p l e R s m args below meth c nL cells slots A D Q w S n lv st) : XW p l e R s m args below meth c nL cells slots A D Q w S pc lv (.long y :: .long x :: st) := hd_lcmp (pc + 1) C d rfl (hd_if_ne n t C d2 (by omega) ht (fun q => kt ((lg_ne x y).mp q)) (fun q => kf ((lg_eq x y).mp q)))
theorem hd_ldc2 {index : Nat} {v : Int64} (n : Nat) (C : xC p s m args meth c own cc nL ret) (d : decode cc pc = .ok (.ldc2_w index, 3)) (hn : pc + 3 = n) (hw : Cond.constantLong own index v ∈ lw_good) (k : XW p l e R s m args below meth c nL cells slots A D Q w S n lv (.long v :: st)) : XW p l e R s m args below meth c nL cells slots A D Q w S pc lv st := by
  subst hn
  exact fun H locs ls h1 h2 h3 hl => lv_ldc2 C.1 C.2.1 C.2.2.2.1 (C.2.2.2.2.1 _ hw) d (k H locs ls h1 h2 h3 hl)
theorem hd_tableIn {dflt lo hi : Int} {offs : Array Int} {len : Nat} {x : Int32} {off : Int} (t : Nat) (C : xC p s m args meth c own cc nL ret) (d : decode cc pc = .ok (.tableswitch dflt lo hi offs, len)) (h1 : ¬ x.toInt < lo) (h2 : ¬ hi < x.toInt) (ho : offs[(x.toInt - lo).toNat]? = some off) (ht : (pc : Int) + off = (t : Int)) (k : XW p l e R s m args below meth c nL cells slots A D Q w S t lv st) : XW p l e R s m args below meth c nL cells slots A D Q w S pc lv (.int x :: st) := fun H locs ls g1 g2 g3 hl => lv_tableIn C.1 C.2.1 d h1 h2 ho ht (k H locs ls g1 g2 g3 hl)
theorem hd_tableOut {dflt lo hi : Int} {offs : Array Int} {len : Nat} {x : Int32} (t : Nat) (C : xC p s m args meth c own cc nL ret) (d : decode cc pc = .ok (.tableswitch dflt lo hi offs, len)) (h : x.toInt < lo ∨ hi < x.toInt) (ht : (pc : Int) + dflt = (t : Int)) (k : XW p l e R s m args below meth c nL cells slots A D Q w S t lv st) : XW p l e R s m args below meth c nL cells slots A D Q w S pc lv (.int x :: st) := fun H locs ls g1 g2 g3 hl => lv_tableOut C.1 C.2.1 d h ht (k H locs ls g1 g2 g3 hl)
theorem hd_lookup {dflt : Int} {ps : Array (Int × Int)} {len : Nat} {x : Int32} {off : Int} (t : Nat) (C : xC p s m args meth c own cc nL ret) (d : decode cc pc = .ok (.lookupswitch dflt ps, len)) (hp : (ps.toList.zip (ps.toList.drop 1)).all (fun (a, next) => a.1 < next.1) = true) (ho : Op.lookupswitch.offset ps.toList dflt x.toInt = off) (ht : (pc : Int) + off = (t : Int)) (k : XW p l e R s m args below meth c nL cells slots A D Q w S t lv st) : XW p l e R s m args below meth c nL cells slots A D Q w S pc lv (.int x :: st) := fun H locs ls g1 g2 g3 hl => lv_lookup C.1 C.2.1 d hp ho ht (k H locs ls g1 g2 g3 hl)
theorem hd_sub (lv' : List (Nat × Value)) (is : List Nat) (h : lv_pick lv is = lv') (k : XW p l e R s m args below meth c nL cells slots A D Q w S pc lv' st) : XW p l e R s m args below meth c nL cells slots A D Q w S pc lv st := fun H locs ls h1 h2 h3 hl => k H locs ls h1 h2 h3 (lv_sub hl is h)
theorem hd_eqS {S' : σ} (h : S = S') (k : XW p l e R s m args below meth c nL cells slots A D Q w S' pc lv st) : XW p l e R s m args below meth c nL cells slots A D Q w S pc lv st := h ▸ k
theorem hd_get {ref Cn : String} {T : u_T} {Nn ci index a : Nat} {fs : List Value} {v : Value} (n : Nat) (C : xC p s m args meth c own cc nL ret) (hK : va_K D vwCl tys s) (d : decode cc pc = .ok (.getfield index, 3)) (hn : pc + 3 = n) (q0 : Nat) (he : (w S)[q0]? = some (a, .inr (ci, fs))) (hc : vwCl[ci]? = some (Cn, T, Nn)) (hin : ∀ x ∈ u_ws Cn T Nn, x ∈ lw_good) (k0 : Nat) (hk : k0 < Nn) (hlink : Cond.fieldLink own index ref (T k0).2.1 (T k0).2.2.1 ∈ lw_good) (href : (T k0).1 = ref) (hv : fs[k0]? = some v) (k : XW p l e R s m args below meth c nL cells slots A D Q w S n lv (v :: st)) : XW p l e R s m args below meth c nL cells slots A D Q w S pc lv (.ref a :: st) := by
  subst hn; subst href
  exact fun H locs ls h1 h2 h3 hl => va_get (D := D) C.1 C.2.1 C.2.2.2.2.1 hin C.2.2.2.1 hK h1 q0 he hc k0 hk (C.2.2.2.2.1 _ hlink) (fun _ h9 => h9) hv d (k H locs ls h1 h2 h3 hl)
theorem hd_put {S' : σ} {ref Cn : String} {T : u_T} {Nn ci index a : Nat} {fs : List Value} {v : Value} {ty0 : Nat → FieldType} {ty : FieldType} (n : Nat) (C : xC p s m args meth c own cc nL ret) (hK : va_K D vwCl tys s) (d : decode cc pc = .ok (.putfield index, 3)) (hn : pc + 3 = n) (q0 : Nat) (he : (w S)[q0]? = some (a, .inr (ci, fs))) (hc : vwCl[ci]? = some (Cn, T, Nn)) (hin : ∀ x ∈ u_ws Cn T Nn, x ∈ lw_good) (hty : ∀ k, k < Nn → parseFieldDescriptor (T k).2.2.1 = some (ty0 k)) (hnm : ∀ a, a < Nn → ∀ b, b < Nn → a ≠ b → (T a).2.1 ≠ (T b).2.1) (k0 : Nat) (hk : k0 < Nn) (hlink : Cond.fieldLink own index ref (T k0).2.1 (T k0).2.2.1 ∈ lw_good) (href : (T k0).1 = ref) (hfin : (T k0).2.2.2 = false) (hd : parseFieldDescriptor (T k0).2.2.1 = some ty) (hnar : narrow ty v = v) (hfit : fits ty v = true) (hl0 : k0 < fs.length) (hS' : (w S).set q0 (a, .inr (ci, fs.set k0 v)) = w S') (k : XW p l e R s m args below meth c nL cells slots A D Q w S' n lv st) : XW p l e R s m args below meth c nL cells slots A D Q w S pc lv (v :: .ref a :: st) := by
  subst hn; subst href
  exact fun H locs ls h1 h2 h3 hl => va_put (D := D) C.1 C.2.1 C.2.2.2.2.1 hin ty0 hty hnm C.2.2.2.1 hK h1 h2 h3 q0 he hc k0 hk (C.2.2.2.2.1 _ hlink) (fun _ h9 => h9) hfin hd hnar hfit hl0 d (fun H1 locs1 g1 g2 g3 => k H1 locs1 ls (hS' ▸ g1) (hS' ▸ g2) g3 hl)
theorem hd_iald {a len : Nat} {cA : ClassId} {f : Nat → Int32} {i : Int32} (n : Nat) (C : xC p s m args meth c own cc nL ret) (hK : va_K D vwCl tys s) (d : decode cc pc = .ok (.iaload, 1)) (hn : pc + 1 = n) (q0 t0 : Nat) (he : (w S)[q0]? = some (a, .inl (cA, len, .inl f))) (ht : tys[t0]? = some (cA, .int)) (hi : vp_in i len) (v : Int32) (hv : f i.toNatClampNeg = v) (k : XW p l e R s m args below meth c nL cells slots A D Q w S n lv (.int v :: st)) : XW p l e R s m args below meth c nL cells slots A D Q w S pc lv (.int i :: .ref a :: st) := by
  subst hn; subst hv
  exact fun H locs ls h1 h2 h3 hl => va_iald (D := D) C.1 C.2.1 hK h1 q0 t0 he ht hi d (k H locs ls h1 h2 h3 hl)
theorem hd_lald {a len : Nat} {cA : ClassId} {f : Nat → Int64} {i : Int32} (n : Nat) (C : xC p s m args meth c own cc nL ret) (hK : va_K D vwCl tys s) (d : decode cc pc = .ok (.laload, 1)) (hn : pc + 1 = n) (q0 t0 : Nat) (he : (w S)[q0]? = some (a, .inl (cA, len, .inr (.inl f)))) (ht : tys[t0]? = some (cA, .long)) (hi : vp_in i len) (v : Int64) (hv : f i.toNatClampNeg = v) (k : XW p l e R s m args below meth c nL cells slots A D Q w S n lv (.long v :: st)) : XW p l e R s m args below meth c nL cells slots A D Q w S pc lv (.int i :: .ref a :: st) := by
  subst hn; subst hv
  exact fun H locs ls h1 h2 h3 hl => va_lald (D := D) C.1 C.2.1 hK h1 q0 t0 he ht hi d (k H locs ls h1 h2 h3 hl)
theorem hd_aald {a len r : Nat} {cA : ClassId} {Cn : String} {f : Nat → Option Nat} {i : Int32} (n : Nat) (C : xC p s m args meth c own cc nL ret) (hK : va_K D vwCl tys s) (d : decode cc pc = .ok (.aaload, 1)) (hn : pc + 1 = n) (q0 t0 : Nat) (he : (w S)[q0]? = some (a, .inl (cA, len, .inr (.inr (.inr (.inr f)))))) (ht : tys[t0]? = some (cA, .object Cn)) (hi : vp_in i len) (hv : f i.toNatClampNeg = some r) (k : XW p l e R s m args below meth c nL cells slots A D Q w S n lv (.ref r :: st)) : XW p l e R s m args below meth c nL cells slots A D Q w S pc lv (.int i :: .ref a :: st) := by
  subst hn
  exact fun H locs ls h1 h2 h3 hl => va_aldq (D := D) C.1 C.2.1 hK h1 q0 t0 he ht hi d (by rw [hv]; exact k H locs ls h1 h2 h3 hl)
theorem hd_iast {S' : σ} {a len : Nat} {cA : ClassId} {f : Nat → Int32} {i x : Int32} (n : Nat) (C : xC p s m args meth c own cc nL ret) (hK : va_K D vwCl tys s) (d : decode cc pc = .ok (.iastore, 1)) (hn : pc + 1 = n) (q0 t0 : Nat) (he : (w S)[q0]? = some (a, .inl (cA, len, .inl f))) (ht : tys[t0]? = some (cA, .int)) (hi : vp_in i len) (hS' : (w S).set q0 (a, .inl (cA, len, .inl (upd f i.toNatClampNeg x))) = w S') (k : XW p l e R s m args below meth c nL cells slots A D Q w S' n lv st) : XW p l e R s m args below meth c nL cells slots A D Q w S pc lv (.int x :: .int i :: .ref a :: st) := by
  subst hn
  exact fun H locs ls h1 h2 h3 hl => va_iast (D := D) C.1 C.2.1 hK h1 h2 h3 q0 t0 he ht hi d (fun H1 locs1 g1 g2 g3 => k H1 locs1 ls (hS' ▸ g1) (hS' ▸ g2) g3 hl)
theorem hd_last {S' : σ} {a len : Nat} {cA : ClassId} {f : Nat → Int64} {i : Int32} {x : Int64} (n : Nat) (C : xC p s m args meth c own cc nL ret) (hK : va_K D vwCl tys s) (d : decode cc pc = .ok (.lastore, 1)) (hn : pc + 1 = n) (q0 t0 : Nat) (he : (w S)[q0]? = some (a, .inl (cA, len, .inr (.inl f)))) (ht : tys[t0]? = some (cA, .long)) (hi : vp_in i len) (hS' : (w S).set q0 (a, .inl (cA, len, .inr (.inl (vp_updL f i.toNatClampNeg x)))) = w S') (k : XW p l e R s m args below meth c nL cells slots A D Q w S' n lv st) : XW p l e R s m args below meth c nL cells slots A D Q w S pc lv (.long x :: .int i :: .ref a :: st) := by
  subst hn
  exact fun H locs ls h1 h2 h3 hl => va_last (D := D) C.1 C.2.1 hK h1 h2 h3 q0 t0 he ht hi d (fun H1 locs1 g1 g2 g3 => k H1 locs1 ls (hS' ▸ g1) (hS' ▸ g2) g3 hl)
theorem hd_alen {a : Nat} {cA : ClassId} {x : vp_A} {ty : FieldType} (n : Nat) (C : xC p s m args meth c own cc nL ret) (hK : va_K D vwCl tys s) (d : decode cc pc = .ok (.arraylength, 1)) (hn : pc + 1 = n) (q0 t0 : Nat) (he : (w S)[q0]? = some (a, .inl (cA, x))) (ht : tys[t0]? = some (cA, ty)) (v : Int32) (hv : Int32.ofNat x.1 = v) (k : XW p l e R s m args below meth c nL cells slots A D Q w S n lv (.int v :: st)) : XW p l e R s m args below meth c nL cells slots A D Q w S pc lv (.ref a :: st) := by
  subst hn
  exact fun H locs ls h1 h2 h3 hl => va_alen (D := D) C.1 C.2.1 hK h1 q0 t0 he ht hv d (k H locs ls h1 h2 h3 hl)
theorem hd_copyi {S' : σ} {a a0 n0 n1 index : Nat} {c0 c1 : ClassId} {f g : Nat → Int32} {sp dp cn : Int32} (n : Nat) (C : xC p s m args meth c own cc nL ret) (hK : va_K D vwCl tys s) (d : decode cc pc = .ok (.invokestatic index, 3)) (hn : pc + 3 = n) (hlink : Cond.methodLink own index arraycopyName ∈ lw_good) (hnat : Cond.native arraycopyName ∈ lw_good) (hstat : Cond.static arraycopyName ∈ lw_good) (hini : Cond.initialized "java/lang/System" ∈ lw_good) (q0 q1 t0 t1 : Nat) (he0 : (w S)[q0]? = some (a0, .inl (c0, n0, .inl f))) (he1 : (w S)[q1]? = some (a, .inl (c1, n1, .inl g))) (ht0 : tys[t0]? = some (c0, .int)) (ht1 : tys[t1]? = some (c1, .int)) (h1 : ¬ sp < 0) (h2 : ¬ dp < 0) (h3 : ¬ cn < 0) (h4 : sp.toNatClampNeg + cn.toNatClampNeg ≤ n0) (h5 : dp.toNatClampNeg + cn.toNatClampNeg ≤ n1) (hframes : 1 ≤ R.frames) (hlocals : (st.map fun v => v.category).sum + (nativeFrameWords "java/lang/System" "arraycopy" 5 + 11) ≤ R.locals) (hS' : (w S).set q1 (a, .inl (c1, n1, .inl (va_cpy f g sp.toNatClampNeg dp.toNatClampNeg cn.toNatClampNeg))) = w S') (k : XW p l e R s m args below meth c nL cells slots A D Q w S' n lv st) : XW p l e R s m args below meth c nL cells slots A D Q w S pc lv (.int cn :: .int dp :: .ref a :: .int sp :: .ref a0 :: st) := by
  subst hn
  exact fun H locs ls g1 g2 g3 hl => va_copyi (D := D) C.1 C.2.1 (C.2.2.1.trans hl.1.symm) C.2.2.2.1 (C.2.2.2.2.1 _ hlink) (C.2.2.2.2.1 _ hnat) (C.2.2.2.2.1 _ hstat) (C.2.2.2.2.1 _ hini) hK g1 g2 g3 q0 q1 t0 t1 he0 he1 ht0 ht1 rfl h1 h2 h3 h4 h5 (fun _ _ => rfl) hframes hlocals d (fun H1 locs1 g1 g2 g3 => k H1 locs1 ls (hS' ▸ g1) (hS' ▸ g2) g3 hl)
theorem hd_copyl {S' : σ} {a a0 n0 n1 index : Nat} {c0 c1 : ClassId} {f g : Nat → Int64} {sp dp cn : Int32} (n : Nat) (C : xC p s m args meth c own cc nL ret) (hK : va_K D vwCl tys s) (d : decode cc pc = .ok (.invokestatic index, 3)) (hn : pc + 3 = n) (hlink : Cond.methodLink own index arraycopyName ∈ lw_good) (hnat : Cond.native arraycopyName ∈ lw_good) (hstat : Cond.static arraycopyName ∈ lw_good) (hini : Cond.initialized "java/lang/System" ∈ lw_good) (q0 q1 t0 t1 : Nat) (he0 : (w S)[q0]? = some (a0, .inl (c0, n0, .inr (.inl f)))) (he1 : (w S)[q1]? = some (a, .inl (c1, n1, .inr (.inl g)))) (ht0 : tys[t0]? = some (c0, .long)) (ht1 : tys[t1]? = some (c1, .long)) (h1 : ¬ sp < 0) (h2 : ¬ dp < 0) (h3 : ¬ cn < 0) (h4 : sp.toNatClampNeg + cn.toNatClampNeg ≤ n0) (h5 : dp.toNatClampNeg + cn.toNatClampNeg ≤ n1) (hframes : 1 ≤ R.frames) (hlocals : (st.map fun v => v.category).sum + (nativeFrameWords "java/lang/System" "arraycopy" 5 + 11) ≤ R.locals) (hS' : (w S).set q1 (a, .inl (c1, n1, .inr (.inl (va_cpy f g sp.toNatClampNeg dp.toNatClampNeg cn.toNatClampNeg)))) = w S') (k : XW p l e R s m args below meth c nL cells slots A D Q w S' n lv st) : XW p l e R s m args below meth c nL cells slots A D Q w S pc lv (.int cn :: .int dp :: .ref a :: .int sp :: .ref a0 :: st) := by
  subst hn
  exact fun H locs ls g1 g2 g3 hl => va_copyl (D := D) C.1 C.2.1 (C.2.2.1.trans hl.1.symm) C.2.2.2.1 (C.2.2.2.2.1 _ hlink) (C.2.2.2.2.1 _ hnat) (C.2.2.2.2.1 _ hstat) (C.2.2.2.2.1 _ hini) hK g1 g2 g3 q0 q1 t0 t1 he0 he1 ht0 ht1 rfl h1 h2 h3 h4 h5 (fun _ _ => rfl) hframes hlocals d (fun H1 locs1 g1 g2 g3 => k H1 locs1 ls (hS' ▸ g1) (hS' ▸ g2) g3 hl)
theorem hd_getsw {t index : Nat} (n : Nat) (C : xC p s m args meth c own cc nL ret) (hZ : zS (some t) A s s.heap) (d : decode cc pc = .ok (.getstatic index, 3)) (hn : pc + 3 = n) (hlink : Cond.fieldLink own index RX2 "SETS_WITH" "[J" ∈ lw_good) (k : XW p l e R s m args below meth c nL cells slots A D Q w S n lv (.ref t :: st)) : XW p l e R s m args below meth c nL cells slots A D Q w S pc lv st := by
  subst hn
  exact fun H locs ls h1 h2 h3 hl => va_gets (C := RX2) C.1 C.2.1 hZ.1 h3 C.2.2.2.1 (C.2.2.2.2.1 _ hlink) (fun _ h => h) d (k H locs ls h1 h2 h3 hl)
theorem hd_ldsw {t : Nat} {i : Int32} (n : Nat) (C : xC p s m args meth c own cc nL ret) (hZ : zS (some t) A s s.heap) (d : decode cc pc = .ok (.laload, 1)) (hn : pc + 1 = n) (hi : vp_in i 6) (v : Int64) (hv : tSW i.toNatClampNeg = v) (k : XW p l e R s m args below meth c nL cells slots A D Q w S n lv (.long v :: st)) : XW p l e R s m args below meth c nL cells slots A D Q w S pc lv (.int i :: .ref t :: st) := by
  subst hn; subst hv
  exact fun H locs ls h1 h2 h3 hl => va_tl C.1 C.2.1 hZ.2 h3 hi rfl d (k H locs ls h1 h2 h3 hl)
/-- the world behind a method -/
def cB {σ : Type} (D : va_G) (tys : List (ClassId × FieldType)) (w : σ → va_W) (A : Nat → Prop) : σ → State → Prop := fun u t => va_P D vwCl (w u) t.heap ∧ va_K D vwCl tys t ∧ va_D A (w u)
theorem hd_iret {post : Int32 → σ → Prop} {v : Int32} (C : xC p s m args meth c own cc nL (some .int)) (hK : va_K D vwCl tys s) (d : decode cc pc = .ok (.ireturn, 1)) (h : post v S) : XW p l e R s m args below meth c nL cells slots A D (MQ below (va_Qi post (cB D tys w A) A) args s cells slots A) w S pc lv ([.int v]) :=
  fun H locs ls h1 h2 h3 hl => W.iret C.1 C.2.1 C.2.2.2.2.2.1 (fun t ht hW => ⟨⟨v, S, rfl, h, by rw [ht]; exact h1, va_K.moved hW.alike hK, h2⟩, h3.F ht⟩) h3.2.2 d C.2.2.2.2.2.2
theorem hd_zret {post : Int32 → σ → Prop} {v : Int32} (C : xC p s m args meth c own cc nL (some .boolean)) (hK : va_K D vwCl tys s) (d : decode cc pc = .ok (.ireturn, 1)) (hb : v = 0 ∨ v = 1) (h : post v S) : XW p l e R s m args below meth c nL cells slots A D (MQ below (va_Qi post (cB D tys w A) A) args s cells slots A) w S pc lv ([.int v]) :=
  fun H locs ls h1 h2 h3 hl => W.zret C.1 C.2.1 C.2.2.2.2.2.1 (by rcases hb with rfl | rfl <;> rfl) (fun t ht hW => ⟨⟨v, S, rfl, h, by rw [ht]; exact h1, va_K.moved hW.alike hK, h2⟩, h3.F ht⟩) h3.2.2 d C.2.2.2.2.2.2
theorem hd_lret {post : Int64 → σ → Prop} {v : Int64} (C : xC p s m args meth c own cc nL (some .long)) (hK : va_K D vwCl tys s) (d : decode cc pc = .ok (.lreturn, 1)) (h : post v S) : XW p l e R s m args below meth c nL cells slots A D (MQ below (va_Ql post (cB D tys w A) A) args s cells slots A) w S pc lv ([.long v]) :=
  fun H locs ls h1 h2 h3 hl => W.lret C.1 C.2.1 C.2.2.2.2.2.1 (fun t ht hW => ⟨⟨v, S, rfl, h, by rw [ht]; exact h1, va_K.moved hW.alike hK, h2⟩, h3.F ht⟩) h3.2.2 d C.2.2.2.2.2.2
theorem hd_vret {post : σ → Prop} (C : xC p s m args meth c own cc nL none) (hK : va_K D vwCl tys s) (d : decode cc pc = .ok (.return_, 1)) (h : post S) : XW p l e R s m args below meth c nL cells slots A D (MQ below (va_Qv post (cB D tys w A) A) args s cells slots A) w S pc lv [] :=
  fun H locs ls h1 h2 h3 hl => W.vret C.1 C.2.1 C.2.2.2.2.2.1 (fun t ht hW => ⟨⟨S, rfl, h, by rw [ht]; exact h1, va_K.moved hW.alike hK, h2⟩, h3.F ht⟩) h3.2.2 d C.2.2.2.2.2.2
end HDF
/-- a contract: from the world of S the method comes to its end, with 'post' of its answer and of the world's new state -/
def ctI {σ : Type} (l : Launch) (D : va_G) (tys : List (ClassId × FieldType)) (t : Option Nat) (w : σ → va_W) (y : MethodName) (cc : ByteArray) (nL : Nat) (ret : Option FieldType) (rm : Room) (av : List Value) (S : σ) (post : Int32 → σ → Prop) : Prop :=
  ∀ sz : Nat, Met l y (.code y cc nL ret :: lw_good) rm (va_Pc av (fun U => U.heap.size = sz ∧ va_P D vwCl (w S) U.heap ∧ va_K D vwCl tys U ∧ va_D (fun _ => True) (w S) ∧ zS t (va_A (w S) sz) U U.heap)) (va_Qi post (cB D tys w (va_A (w S) sz)) (va_A (w S) sz)) 0 0 (va_A (w S) sz)
theorem ctI_of {σ : Type} {l : Launch} {D : va_G} {tys : List (ClassId × FieldType)} {t : Option Nat} {w : σ → va_W} {y : MethodName} {cc : ByteArray} {nL : Nat} {ret : Option FieldType} {rm : Room} {av : List Value} {S : σ} {post : Int32 → σ → Prop} (lv : List (Nat × Value)) (hy : plainName y.cls = true) (hav : (lg_sl av).length ≤ nL) (hlv : lv_args 0 av = lv)
    (body : ∀ (p : Program) (e : Env) (s : State) (m : MethodId) (args : Array Value) (below : List Frame) (meth : Method) (c : Code) (A : Nat → Prop), xC p s m args meth c y.cls cc nL ret → va_K D vwCl tys s → zS t A s s.heap → (∀ q, s.heap.size ≤ q → A q) → XW p l e rm s m args below meth c nL 0 0 A D (MQ below (va_Qi post (cB D tys w A) A) args s 0 0 A) w S 0 lv []) : ctI l D tys t w y cc nL ret rm av S post := by
  intro sz
  refine Met.ofW (cc := cc) (maxL := nL) (ret := ret) hy rfl ?_
  intro p e s m args below meth c s₁ B hml hv
  obtain ⟨rfl, hsz, hP, hK, hD0, hZ⟩ := hv
  subst hsz
  have hts := atoms_spec (ws := .code y cc nL ret :: lw_good) B.pre
  have hown : s.vm.findClass y.cls = some m.cls := findClass_of_methodNamed B.named
  have hC : xC p s m av.toArray meth c y.cls cc nL ret := ⟨B.exec, B.bytes, hml, hown, fun w h => hts w (List.mem_cons_of_mem _ h), B.returns, B.notSynchronized⟩
  have hD := hD0.self (sz := s.heap.size)
  have hA : ∀ q : Nat, s.heap.size ≤ q → va_A (w S) s.heap.size q := fun q h => Or.inr h
  have hS : va_S (va_A (w S) s.heap.size) s.heap s.heap [] := va_S.rf
  have hl := lv_entry av (n := nL) hav
  rw [lg_entry_eq]
  rw [hlv] at hl
  exact body p e s m av.toArray below meth c _ hC hK hZ hA s.heap [] _ hP hD hS hl
/-- a contract: from the world of S the method comes to its end, with 'post' of its answer and of the world's new state -/
def ctL {σ : Type} (l : Launch) (D : va_G) (tys : List (ClassId × FieldType)) (t : Option Nat) (w : σ → va_W) (y : MethodName) (cc : ByteArray) (nL : Nat) (ret : Option FieldType) (rm : Room) (av : List Value) (S : σ) (post : Int64 → σ → Prop) : Prop :=
  ∀ sz : Nat, Met l y (.code y cc nL ret :: lw_good) rm (va_Pc av (fun U => U.heap.size = sz ∧ va_P D vwCl (w S) U.heap ∧ va_K D vwCl tys U ∧ va_D (fun _ => True) (w S) ∧ zS t (va_A (w S) sz) U U.heap)) (va_Ql post (cB D tys w (va_A (w S) sz)) (va_A (w S) sz)) 0 0 (va_A (w S) sz)
theorem ctL_of {σ : Type} {l : Launch} {D : va_G} {tys : List (ClassId × FieldType)} {t : Option Nat} {w : σ → va_W} {y : MethodName} {cc : ByteArray} {nL : Nat} {ret : Option FieldType} {rm : Room} {av : List Value} {S : σ} {post : Int64 → σ → Prop} (lv : List (Nat × Value)) (hy : plainName y.cls = true) (hav : (lg_sl av).length ≤ nL) (hlv : lv_args 0 av = lv)
    (body : ∀ (p : Program) (e : Env) (s : State) (m : MethodId) (args : Array Value) (below : List Frame) (meth : Method) (c : Code) (A : Nat → Prop), xC p s m args meth c y.cls cc nL ret → va_K D vwCl tys s → zS t A s s.heap → (∀ q, s.heap.size ≤ q → A q) → XW p l e rm s m args below meth c nL 0 0 A D (MQ below (va_Ql post (cB D tys w A) A) args s 0 0 A) w S 0 lv []) : ctL l D tys t w y cc nL ret rm av S post := by
  intro sz
  refine Met.ofW (cc := cc) (maxL := nL) (ret := ret) hy rfl ?_
  intro p e s m args below meth c s₁ B hml hv
  obtain ⟨rfl, hsz, hP, hK, hD0, hZ⟩ := hv
  subst hsz
  have hts := atoms_spec (ws := .code y cc nL ret :: lw_good) B.pre
  have hown : s.vm.findClass y.cls = some m.cls := findClass_of_methodNamed B.named
  have hC : xC p s m av.toArray meth c y.cls cc nL ret := ⟨B.exec, B.bytes, hml, hown, fun w h => hts w (List.mem_cons_of_mem _ h), B.returns, B.notSynchronized⟩
  have hD := hD0.self (sz := s.heap.size)
  have hA : ∀ q : Nat, s.heap.size ≤ q → va_A (w S) s.heap.size q := fun q h => Or.inr h
  have hS : va_S (va_A (w S) s.heap.size) s.heap s.heap [] := va_S.rf
  have hl := lv_entry av (n := nL) hav
  rw [lg_entry_eq]
  rw [hlv] at hl
  exact body p e s m av.toArray below meth c _ hC hK hZ hA s.heap [] _ hP hD hS hl
/-- a contract: from the world of S the method comes to its end, with 'post' of its answer and of the world's new state -/
def ctV {σ : Type} (l : Launch) (D : va_G) (tys : List (ClassId × FieldType)) (t : Option Nat) (w : σ → va_W) (y : MethodName) (cc : ByteArray) (nL : Nat) (ret : Option FieldType) (rm : Room) (av : List Value) (S : σ) (post : σ → Prop) : Prop :=
  ∀ sz : Nat, Met l y (.code y cc nL ret :: lw_good) rm (va_Pc av (fun U => U.heap.size = sz ∧ va_P D vwCl (w S) U.heap ∧ va_K D vwCl tys U ∧ va_D (fun _ => True) (w S) ∧ zS t (va_A (w S) sz) U U.heap)) (va_Qv post (cB D tys w (va_A (w S) sz)) (va_A (w S) sz)) 0 0 (va_A (w S) sz)
theorem ctV_of {σ : Type} {l : Launch} {D : va_G} {tys : List (ClassId × FieldType)} {t : Option Nat} {w : σ → va_W} {y : MethodName} {cc : ByteArray} {nL : Nat} {ret : Option FieldType} {rm : Room} {av : List Value} {S : σ} {post : σ → Prop} (lv : List (Nat × Value)) (hy : plainName y.cls = true) (hav : (lg_sl av).length ≤ nL) (hlv : lv_args 0 av = lv)
    (body : ∀ (p : Program) (e : Env) (s : State) (m : MethodId) (args : Array Value) (below : List Frame) (meth : Method) (c : Code) (A : Nat → Prop), xC p s m args meth c y.cls cc nL ret → va_K D vwCl tys s → zS t A s s.heap → (∀ q, s.heap.size ≤ q → A q) → XW p l e rm s m args below meth c nL 0 0 A D (MQ below (va_Qv post (cB D tys w A) A) args s 0 0 A) w S 0 lv []) : ctV l D tys t w y cc nL ret rm av S post := by
  intro sz
  refine Met.ofW (cc := cc) (maxL := nL) (ret := ret) hy rfl ?_
  intro p e s m args below meth c s₁ B hml hv
  obtain ⟨rfl, hsz, hP, hK, hD0, hZ⟩ := hv
  subst hsz
  have hts := atoms_spec (ws := .code y cc nL ret :: lw_good) B.pre
  have hown : s.vm.findClass y.cls = some m.cls := findClass_of_methodNamed B.named
  have hC : xC p s m av.toArray meth c y.cls cc nL ret := ⟨B.exec, B.bytes, hml, hown, fun w h => hts w (List.mem_cons_of_mem _ h), B.returns, B.notSynchronized⟩
  have hD := hD0.self (sz := s.heap.size)
  have hA : ∀ q : Nat, s.heap.size ≤ q → va_A (w S) s.heap.size q := fun q h => Or.inr h
  have hS : va_S (va_A (w S) s.heap.size) s.heap s.heap [] := va_S.rf
  have hl := lv_entry av (n := nL) hav
  rw [lg_entry_eq]
  rw [hlv] at hl
  exact body p e s m av.toArray below meth c _ hC hK hZ hA s.heap [] _ hP hD hS hl
theorem good_tbl : ∀ x ∈ lw_good, (x.onTables && x.keeps) = true ∨ ∃ ty, x = .arrayClass ty := by
  exact fun x hx => good_of_word (List.mem_filter.mp hx).2
theorem good_in {z : Cond} (hz : z ∈ lw_good) : GoodIn lw_good (z :: lw_good) := fun x hx => by
  rcases List.mem_cons.mp hx with rfl | h
  · exact ⟨hz, good_tbl _ hz⟩
  · exact ⟨h, good_tbl _ h⟩
/-- the words of a call: of an own method by invokevirtual (C: the receiver's kind), static, special -/
def kV (own : String) (index : Nat) (y : MethodName) (cc : ByteArray) (nL : Nat) (ret : Option FieldType) (n : Nat) : Prop :=
  Cond.code y cc nL ret ∈ lw_good ∧ Cond.methodLink own index y ∈ lw_good ∧ Cond.initialized y.cls ∈ lw_good ∧ (y.cls ≠ "java/lang/invoke/MethodHandle" ∧ y.cls ≠ "java/lang/invoke/VarHandle" ∧ (parseMethodDescriptor y.desc).map (fun d => d.parameters.length) = some n) ∧ Cond.instanceMethod y ∈ lw_good ∧ Cond.selects y.cls y y ∈ lw_good
def kT (own : String) (index : Nat) (y : MethodName) (cc : ByteArray) (nL : Nat) (ret : Option FieldType) (n : Nat) : Prop :=
  Cond.code y cc nL ret ∈ lw_good ∧ Cond.methodLink own index y ∈ lw_good ∧ Cond.initialized y.cls ∈ lw_good ∧ (y.cls ≠ "java/lang/invoke/MethodHandle" ∧ y.cls ≠ "java/lang/invoke/VarHandle" ∧ (parseMethodDescriptor y.desc).map (fun d => d.parameters.length) = some n) ∧ Cond.static y ∈ lw_good
theorem blind_of {σ : Type} {D : va_G} {tys : List (ClassId × FieldType)} {t : Option Nat} {w : σ → va_W} {av : List Value} {S : σ} {sz : Nat} : FrameBlind (va_Pc av (fun U => U.heap.size = sz ∧ va_P D vwCl (w S) U.heap ∧ va_K D vwCl tys U ∧ va_D (fun _ => True) (w S) ∧ zS t (va_A (w S) sz) U U.heap)) := by
  intro a U g mk q
  obtain ⟨q0, q1, qP, qK, qD, qZ⟩ := q
  exact ⟨q0, q1, qP, va_K.moved (u := U) (U := U.calling g mk a) (Vm.Alike.refl U.vm) qK, qD, zS.moved (u := U) (U := U.calling g mk a) (Vm.Alike.refl U.vm) qZ⟩
section HDC
variable {p : Program} {l : Launch} {e : Env} {R : Room} {s : State} {m : MethodId} {args : Array Value} {below : List Frame} {meth : Method} {c : Code} {own : String} {cc : ByteArray} {nL : Nat} {ret : Option FieldType} {cells slots : Nat} {A : Nat → Prop} {D : va_G} {tys : List (ClassId × FieldType)} {Q : State → Prop} {σ : Type} {w : σ → va_W} {S : σ} {pc : Nat} {lv : List (Nat × Value)} {st rest : List Value}
theorem pre_of {H : Heap} {locs : List Loc} {t : Option Nat} {As : List Value} (hK : va_K D vwCl tys s) (hZ : zS t A s s.heap) (hA : ∀ q, s.heap.size ≤ q → A q) (h1 : va_P D vwCl (w S) H) (h2 : va_D A (w S)) (h3 : va_S A s.heap H locs) : ∀ U : State, U.heap = H → s.WarmedH U.vm → va_Pc As (fun U => U.heap.size = H.size ∧ va_P D vwCl (w S) U.heap ∧ va_K D vwCl tys U ∧ va_D (fun _ => True) (w S) ∧ zS t (va_A (w S) H.size) U U.heap) As.toArray U := by
  intro U hU hW
  have hF : ∀ q, va_A (w S) H.size q → A q := by
    intro q h
    rcases h with ⟨k, e, h⟩ | h
    · exact h2.2 k (q, e) h
    · exact hA q (Nat.le_trans h3.1 h)
  refine ⟨rfl, by rw [hU], by rw [hU]; exact h1, va_K.moved hW.alike hK, h2.weaken (fun _ _ _ _ => trivial), ?_⟩
  rw [hU]
  exact ((hZ.kept h3.2.1).narrow hF).moved hW.alike
theorem free_of {H : Heap} {locs : List Loc} (hA : ∀ q, s.heap.size ≤ q → A q) (h2 : va_D A (w S)) (h3 : va_S A s.heap H locs) : ∀ q, va_A (w S) H.size q → A q := by
  intro q h
  rcases h with ⟨k, e, h⟩ | h
  · exact h2.2 k (q, e) h
  · exact hA q (Nat.le_trans h3.1 h)
theorem hd_callVI {index k : Nat} {y : MethodName} {c2 : ByteArray} {nL2 : Nat} {ret2 : Option FieldType} {rm : Room} {As : List Value} {b : Nat} {t : Option Nat} {post : Int32 → σ → Prop} (n : Nat) (C : xC p s m args meth c own cc nL ret) (hK : va_K D vwCl tys s) (hZ : zS t A s s.heap) (hA : ∀ q, s.heap.size ≤ q → A q) (hcs : cells ≤ R.cells ∧ slots ≤ R.slots) (d : decode cc pc = .ok (.invokevirtual index, 3)) (hn : pc + 3 = n) (hw : kV own index y c2 nL2 ret2 k) (hM : ctI l D tys t w y c2 nL2 ret2 rm (.ref b :: As) S post) (hrmc : rm.cells = 0 ∧ rm.slots = 0) (hR : rm.frames + 1 ≤ R.frames ∧ 8 + (nL2 + 11) + rm.locals ≤ R.locals) (q0 ci : Nat) {fs : List Value} {q : vw_C} (hre : (w S)[q0]? = some (b, .inr (ci, fs))) (hrc : vwCl[ci]? = some q) (hrn : q.1 = y.cls) (hlen : As.length = k) (hst : st = As.reverse ++ .ref b :: rest) (hrm : (rest.map fun v => v.category).sum ≤ 8) (kk : ∀ (r : Int32) (u : σ), post r u → XW p l e R s m args below meth c nL cells slots A D Q w u n lv (.int r :: rest)) : XW p l e R s m args below meth c nL cells slots A D Q w S pc lv st := by
  subst hn
  intro H locs ls h1 h2 h3 hl
  have hF := free_of hA h2 h3
  obtain ⟨rf, rc, rs, rl⟩ := rm
  obtain ⟨e1, e2⟩ := hrmc
  dsimp only at e1 e2
  subst e1; subst e2
  refine va_calli (va_runV (C := y.cls) (As := As) (rest := rest) ⟨C.1, C.2.1, C.2.2.1, C.2.2.2.1, C.2.2.2.2.1⟩ (hM H.size) ⟨callB_of k C.2.2.2.2.1 (good_in hw.1) rfl rfl rfl (C.2.2.2.2.1 _ hw.2.2.1) (C.2.2.2.2.1 _ hw.2.1) hw.2.2.2.1 hR, C.2.2.2.2.1 _ hw.2.2.2.2.1, C.2.2.2.2.1 _ hw.2.2.2.2.2⟩ ⟨blind_of, hrn ▸ va_recv hK h1 hrc hre, pre_of hK hZ hA h1 h2 h3⟩ rfl hlen hl.1 hst (lv_room hrm) d ⟨by rw [show (0 : Nat) = 0 from rfl]; exact hcs.1, hcs.2⟩) h3 (fun q _ h => hF q h) hF (fun r u t2 H1 locs1 ht hvm hp hB hz1 hk1 hS1 => ?_)
  obtain ⟨g1, -, g2⟩ := hB
  rw [ht] at g1
  exact kk r u hp H1 locs1 ls g1 (g2.weaken (fun _ q _ h => hF q.1 h)) hS1 hl
theorem hd_callSI {index k : Nat} {y : MethodName} {c2 : ByteArray} {nL2 : Nat} {ret2 : Option FieldType} {rm : Room} {As : List Value} {t : Option Nat} {post : Int32 → σ → Prop} (n : Nat) (C : xC p s m args meth c own cc nL ret) (hK : va_K D vwCl tys s) (hZ : zS t A s s.heap) (hA : ∀ q, s.heap.size ≤ q → A q) (hcs : cells ≤ R.cells ∧ slots ≤ R.slots) (d : decode cc pc = .ok (.invokestatic index, 3)) (hn : pc + 3 = n) (hw : kT own index y c2 nL2 ret2 k) (hM : ctI l D tys t w y c2 nL2 ret2 rm As S post) (hrmc : rm.cells = 0 ∧ rm.slots = 0) (hR : rm.frames + 1 ≤ R.frames ∧ 8 + (nL2 + 11) + rm.locals ≤ R.locals) (hlen : As.length = k) (hst : st = As.reverse ++ rest) (hrm : (rest.map fun v => v.category).sum ≤ 8) (kk : ∀ (r : Int32) (u : σ), post r u → XW p l e R s m args below meth c nL cells slots A D Q w u n lv (.int r :: rest)) : XW p l e R s m args below meth c nL cells slots A D Q w S pc lv st := by
  subst hn
  intro H locs ls h1 h2 h3 hl
  have hF := free_of hA h2 h3
  obtain ⟨rf, rc, rs, rl⟩ := rm
  obtain ⟨e1, e2⟩ := hrmc
  dsimp only at e1 e2
  subst e1; subst e2
  refine va_calli (va_runS (As := As) (rest := rest) ⟨C.1, C.2.1, C.2.2.1, C.2.2.2.1, C.2.2.2.2.1⟩ (hM H.size) ⟨callB_of k C.2.2.2.2.1 (good_in hw.1) rfl rfl rfl (C.2.2.2.2.1 _ hw.2.2.1) (C.2.2.2.2.1 _ hw.2.1) hw.2.2.2.1 hR, C.2.2.2.2.1 _ hw.2.2.2.2⟩ ⟨blind_of, pre_of hK hZ hA h1 h2 h3⟩ rfl hlen hl.1 hst (lv_room hrm) d ⟨hcs.1, hcs.2⟩) h3 (fun q _ h => hF q h) hF (fun r u t2 H1 locs1 ht hvm hp hB hz1 hk1 hS1 => ?_)
  obtain ⟨g1, -, g2⟩ := hB
  rw [ht] at g1
  exact kk r u hp H1 locs1 ls g1 (g2.weaken (fun _ q _ h => hF q.1 h)) hS1 hl
theorem hd_callVL {index k : Nat} {y : MethodName} {c2 : ByteArray} {nL2 : Nat} {ret2 : Option FieldType} {rm : Room} {As : List Value} {b : Nat} {t : Option Nat} {post : Int64 → σ → Prop} (n : Nat) (C : xC p s m args meth c own cc nL ret) (hK : va_K D vwCl tys s) (hZ : zS t A s s.heap) (hA : ∀ q, s.heap.size ≤ q → A q) (hcs : cells ≤ R.cells ∧ slots ≤ R.slots) (d : decode cc pc = .ok (.invokevirtual index, 3)) (hn : pc + 3 = n) (hw : kV own index y c2 nL2 ret2 k) (hM : ctL l D tys t w y c2 nL2 ret2 rm (.ref b :: As) S post) (hrmc : rm.cells = 0 ∧ rm.slots = 0) (hR : rm.frames + 1 ≤ R.frames ∧ 8 + (nL2 + 11) + rm.locals ≤ R.locals) (q0 ci : Nat) {fs : List Value} {q : vw_C} (hre : (w S)[q0]? = some (b, .inr (ci, fs))) (hrc : vwCl[ci]? = some q) (hrn : q.1 = y.cls) (hlen : As.length = k) (hst : st = As.reverse ++ .ref b :: rest) (hrm : (rest.map fun v => v.category).sum ≤ 8) (kk : ∀ (r : Int64) (u : σ), post r u → XW p l e R s m args below meth c nL cells slots A D Q w u n lv (.long r :: rest)) : XW p l e R s m args below meth c nL cells slots A D Q w S pc lv st := by
  subst hn
  intro H locs ls h1 h2 h3 hl
  have hF := free_of hA h2 h3
  obtain ⟨rf, rc, rs, rl⟩ := rm
  obtain ⟨e1, e2⟩ := hrmc
  dsimp only at e1 e2
  subst e1; subst e2
  refine va_calll (va_runV (C := y.cls) (As := As) (rest := rest) ⟨C.1, C.2.1, C.2.2.1, C.2.2.2.1, C.2.2.2.2.1⟩ (hM H.size) ⟨callB_of k C.2.2.2.2.1 (good_in hw.1) rfl rfl rfl (C.2.2.2.2.1 _ hw.2.2.1) (C.2.2.2.2.1 _ hw.2.1) hw.2.2.2.1 hR, C.2.2.2.2.1 _ hw.2.2.2.2.1, C.2.2.2.2.1 _ hw.2.2.2.2.2⟩ ⟨blind_of, hrn ▸ va_recv hK h1 hrc hre, pre_of hK hZ hA h1 h2 h3⟩ rfl hlen hl.1 hst (lv_room hrm) d ⟨by rw [show (0 : Nat) = 0 from rfl]; exact hcs.1, hcs.2⟩) h3 (fun q _ h => hF q h) hF (fun r u t2 H1 locs1 ht hvm hp hB hz1 hk1 hS1 => ?_)
  obtain ⟨g1, -, g2⟩ := hB
  rw [ht] at g1
  exact kk r u hp H1 locs1 ls g1 (g2.weaken (fun _ q _ h => hF q.1 h)) hS1 hl
theorem hd_callSL {index k : Nat} {y : MethodName} {c2 : ByteArray} {nL2 : Nat} {ret2 : Option FieldType} {rm : Room} {As : List Value} {t : Option Nat} {post : Int64 → σ → Prop} (n : Nat) (C : xC p s m args meth c own cc nL ret) (hK : va_K D vwCl tys s) (hZ : zS t A s s.heap) (hA : ∀ q, s.heap.size ≤ q → A q) (hcs : cells ≤ R.cells ∧ slots ≤ R.slots) (d : decode cc pc = .ok (.invokestatic index, 3)) (hn : pc + 3 = n) (hw : kT own index y c2 nL2 ret2 k) (hM : ctL l D tys t w y c2 nL2 ret2 rm As S post) (hrmc : rm.cells = 0 ∧ rm.slots = 0) (hR : rm.frames + 1 ≤ R.frames ∧ 8 + (nL2 + 11) + rm.locals ≤ R.locals) (hlen : As.length = k) (hst : st = As.reverse ++ rest) (hrm : (rest.map fun v => v.category).sum ≤ 8) (kk : ∀ (r : Int64) (u : σ), post r u → XW p l e R s m args below meth c nL cells slots A D Q w u n lv (.long r :: rest)) : XW p l e R s m args below meth c nL cells slots A D Q w S pc lv st := by
  subst hn
  intro H locs ls h1 h2 h3 hl
  have hF := free_of hA h2 h3
  obtain ⟨rf, rc, rs, rl⟩ := rm
  obtain ⟨e1, e2⟩ := hrmc
  dsimp only at e1 e2
  subst e1; subst e2
  refine va_calll (va_runS (As := As) (rest := rest) ⟨C.1, C.2.1, C.2.2.1, C.2.2.2.1, C.2.2.2.2.1⟩ (hM H.size) ⟨callB_of k C.2.2.2.2.1 (good_in hw.1) rfl rfl rfl (C.2.2.2.2.1 _ hw.2.2.1) (C.2.2.2.2.1 _ hw.2.1) hw.2.2.2.1 hR, C.2.2.2.2.1 _ hw.2.2.2.2⟩ ⟨blind_of, pre_of hK hZ hA h1 h2 h3⟩ rfl hlen hl.1 hst (lv_room hrm) d ⟨hcs.1, hcs.2⟩) h3 (fun q _ h => hF q h) hF (fun r u t2 H1 locs1 ht hvm hp hB hz1 hk1 hS1 => ?_)
  obtain ⟨g1, -, g2⟩ := hB
  rw [ht] at g1
  exact kk r u hp H1 locs1 ls g1 (g2.weaken (fun _ q _ h => hF q.1 h)) hS1 hl
theorem hd_callVV {index k : Nat} {y : MethodName} {c2 : ByteArray} {nL2 : Nat} {ret2 : Option FieldType} {rm : Room} {As : List Value} {b : Nat} {t : Option Nat} {post : σ → Prop} (n : Nat) (C : xC p s m args meth c own cc nL ret) (hK : va_K D vwCl tys s) (hZ : zS t A s s.heap) (hA : ∀ q, s.heap.size ≤ q → A q) (hcs : cells ≤ R.cells ∧ slots ≤ R.slots) (d : decode cc pc = .ok (.invokevirtual index, 3)) (hn : pc + 3 = n) (hw : kV own index y c2 nL2 ret2 k) (hM : ctV l D tys t w y c2 nL2 ret2 rm (.ref b :: As) S post) (hrmc : rm.cells = 0 ∧ rm.slots = 0) (hR : rm.frames + 1 ≤ R.frames ∧ 8 + (nL2 + 11) + rm.locals ≤ R.locals) (q0 ci : Nat) {fs : List Value} {q : vw_C} (hre : (w S)[q0]? = some (b, .inr (ci, fs))) (hrc : vwCl[ci]? = some q) (hrn : q.1 = y.cls) (hlen : As.length = k) (hst : st = As.reverse ++ .ref b :: rest) (hrm : (rest.map fun v => v.category).sum ≤ 8) (kk : ∀ (u : σ), post u → XW p l e R s m args below meth c nL cells slots A D Q w u n lv rest) : XW p l e R s m args below meth c nL cells slots A D Q w S pc lv st := by
  subst hn
  intro H locs ls h1 h2 h3 hl
  have hF := free_of hA h2 h3
  obtain ⟨rf, rc, rs, rl⟩ := rm
  obtain ⟨e1, e2⟩ := hrmc
  dsimp only at e1 e2
  subst e1; subst e2
  refine va_callv (va_runV (C := y.cls) (As := As) (rest := rest) ⟨C.1, C.2.1, C.2.2.1, C.2.2.2.1, C.2.2.2.2.1⟩ (hM H.size) ⟨callB_of k C.2.2.2.2.1 (good_in hw.1) rfl rfl rfl (C.2.2.2.2.1 _ hw.2.2.1) (C.2.2.2.2.1 _ hw.2.1) hw.2.2.2.1 hR, C.2.2.2.2.1 _ hw.2.2.2.2.1, C.2.2.2.2.1 _ hw.2.2.2.2.2⟩ ⟨blind_of, hrn ▸ va_recv hK h1 hrc hre, pre_of hK hZ hA h1 h2 h3⟩ rfl hlen hl.1 hst (lv_room hrm) d ⟨by rw [show (0 : Nat) = 0 from rfl]; exact hcs.1, hcs.2⟩) h3 (fun q _ h => hF q h) hF (fun u t2 H1 locs1 ht hvm hp hB hz1 hk1 hS1 => ?_)
  obtain ⟨g1, -, g2⟩ := hB
  rw [ht] at g1
  exact kk u hp H1 locs1 ls g1 (g2.weaken (fun _ q _ h => hF q.1 h)) hS1 hl
theorem hd_callSV {index k : Nat} {y : MethodName} {c2 : ByteArray} {nL2 : Nat} {ret2 : Option FieldType} {rm : Room} {As : List Value} {t : Option Nat} {post : σ → Prop} (n : Nat) (C : xC p s m args meth c own cc nL ret) (hK : va_K D vwCl tys s) (hZ : zS t A s s.heap) (hA : ∀ q, s.heap.size ≤ q → A q) (hcs : cells ≤ R.cells ∧ slots ≤ R.slots) (d : decode cc pc = .ok (.invokestatic index, 3)) (hn : pc + 3 = n) (hw : kT own index y c2 nL2 ret2 k) (hM : ctV l D tys t w y c2 nL2 ret2 rm As S post) (hrmc : rm.cells = 0 ∧ rm.slots = 0) (hR : rm.frames + 1 ≤ R.frames ∧ 8 + (nL2 + 11) + rm.locals ≤ R.locals) (hlen : As.length = k) (hst : st = As.reverse ++ rest) (hrm : (rest.map fun v => v.category).sum ≤ 8) (kk : ∀ (u : σ), post u → XW p l e R s m args below meth c nL cells slots A D Q w u n lv rest) : XW p l e R s m args below meth c nL cells slots A D Q w S pc lv st := by
  subst hn
  intro H locs ls h1 h2 h3 hl
  have hF := free_of hA h2 h3
  obtain ⟨rf, rc, rs, rl⟩ := rm
  obtain ⟨e1, e2⟩ := hrmc
  dsimp only at e1 e2
  subst e1; subst e2
  refine va_callv (va_runS (As := As) (rest := rest) ⟨C.1, C.2.1, C.2.2.1, C.2.2.2.1, C.2.2.2.2.1⟩ (hM H.size) ⟨callB_of k C.2.2.2.2.1 (good_in hw.1) rfl rfl rfl (C.2.2.2.2.1 _ hw.2.2.1) (C.2.2.2.2.1 _ hw.2.1) hw.2.2.2.1 hR, C.2.2.2.2.1 _ hw.2.2.2.2⟩ ⟨blind_of, pre_of hK hZ hA h1 h2 h3⟩ rfl hlen hl.1 hst (lv_room hrm) d ⟨hcs.1, hcs.2⟩) h3 (fun q _ h => hF q h) hF (fun u t2 H1 locs1 ht hvm hp hB hz1 hk1 hS1 => ?_)
  obtain ⟨g1, -, g2⟩ := hB
  rw [ht] at g1
  exact kk u hp H1 locs1 ls g1 (g2.weaken (fun _ q _ h => hF q.1 h)) hS1 hl
end HDC

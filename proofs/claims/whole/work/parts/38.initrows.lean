/-! constructors: rows over a world that grows, and the joining of two worlds -/
abbrev wI (x : va_W) : va_W := x
theorem ra_one {U : State} {cA cB : ClassId} {ty : FieldType} (h1 : va_RA U cA ty) (h2 : va_RA U cB ty) : cA = cB := by
  cases ty with
  | object C =>
    obtain ⟨_, _, _, _, _, g1⟩ := h1
    obtain ⟨_, _, _, _, _, g2⟩ := h2
    exact Option.some.inj (g1.symm.trans g2)
  | _ => exact Option.some.inj (Eq.trans (Eq.symm h1) h2)
section HDJ
variable {D : va_G} {cl : List vw_C} {A : Nat → Prop} {wa wb w1 : va_W} {H H1 : Heap}
theorem ap_il {k : Nat} {q : Nat × va_E} (h : wa[k]? = some q) : (wa ++ wb)[k]? = some q := by
  rw [List.getElem?_append_left (List.getElem?_eq_some_iff.mp h).1]; exact h
theorem ap_ir {k : Nat} {q : Nat × va_E} (h : wb[k]? = some q) : (wa ++ wb)[wa.length + k]? = some q := by
  rw [List.getElem?_append_right (Nat.le_add_right _ _), Nat.add_sub_cancel_left]; exact h
theorem ap_Pl (h : va_P D cl (wa ++ wb) H) : va_P D cl wa H := fun k q hk => h k q (ap_il hk)
theorem ap_Pr (h : va_P D cl (wa ++ wb) H) : va_P D cl wb H := fun k q hk => h (wa.length + k) q (ap_ir hk)
theorem ap_Dl (h : va_D A (wa ++ wb)) : va_D A wa := ⟨fun i j p q hi hj e => h.1 i j p q (ap_il hi) (ap_il hj) e, fun k q hk => h.2 k q (ap_il hk)⟩
theorem ap_Dr (h : va_D A (wa ++ wb)) : va_D A wb := ⟨fun i j p q hi hj e => Nat.add_left_cancel (h.1 (wa.length + i) (wa.length + j) p q (ap_ir hi) (ap_ir hj) e), fun k q hk => h.2 (wa.length + k) q (ap_ir hk)⟩
theorem ap_ne (h : va_D A (wa ++ wb)) {i j : Nat} {p q : Nat × va_E} (hi : wa[i]? = some p) (hj : wb[j]? = some q) : ¬ p.1 = q.1 := by
  intro e
  have h1 := h.1 i (wa.length + j) p q (ap_il hi) (ap_ir hj) e
  have h2 := (List.getElem?_eq_some_iff.mp hi).1
  omega
theorem jn_r (hP : va_P D cl (wa ++ wb) H) (hD : va_D A (wa ++ wb)) (hk : ∀ q : Nat, q < H.size → ¬ va_A wb H.size q → H1[q]? = H[q]?) (hF : ∀ q, va_A wb H.size q → A q) (hP1 : va_P D cl w1 H1) (hD1 : va_D (va_A wb H.size) w1) : va_P D cl (wa ++ w1) H1 ∧ va_D A (wa ++ w1) := by
  have ap : ∀ (k : Nat) (q : Nat × va_E), wa[k]? = some q → q.1 < H.size ∧ ¬ va_A wb H.size q.1 := by
    intro k q hq
    have hl := (hP k q (ap_il hq)).lt
    refine ⟨hl, fun h => ?_⟩
    rcases h with ⟨k2, e, h⟩ | h
    · exact ap_ne hD hq h rfl
    · omega
  exact ⟨va_P.app (fun k q hq => (hP k q (ap_il hq)).kept (hk q.1 (ap k q hq).1 (ap k q hq).2)) hP1, va_D.app (ap_Dl hD) (hD1.weaken (fun _ q _ h => hF q.1 h)) (fun i j x y hx hy e => (ap i x hx).2 (by rw [e]; exact hD1.2 j y hy))⟩
theorem jn_l (hP : va_P D cl (wa ++ wb) H) (hD : va_D A (wa ++ wb)) (hk : ∀ q : Nat, q < H.size → ¬ va_A wa H.size q → H1[q]? = H[q]?) (hF : ∀ q, va_A wa H.size q → A q) (hP1 : va_P D cl w1 H1) (hD1 : va_D (va_A wa H.size) w1) : va_P D cl (w1 ++ wb) H1 ∧ va_D A (w1 ++ wb) := by
  have ap : ∀ (k : Nat) (q : Nat × va_E), wb[k]? = some q → q.1 < H.size ∧ ¬ va_A wa H.size q.1 := by
    intro k q hq
    have hl := (hP _ q (ap_ir hq)).lt
    refine ⟨hl, fun h => ?_⟩
    rcases h with ⟨k2, e, h⟩ | h
    · exact ap_ne hD h hq rfl
    · omega
  exact ⟨va_P.app hP1 (fun k q hq => (hP _ q (ap_ir hq)).kept (hk q.1 (ap k q hq).1 (ap k q hq).2)), va_D.app (hD1.weaken (fun _ q _ h => hF q.1 h)) (ap_Dr hD) (fun i j x y hx hy e => (ap j y hy).2 (by rw [← e]; exact hD1.2 i x hx))⟩
end HDJ
/-- a constructor's contract: out of the one cell of its object a world with 'post' -/
def ctN (l : Launch) (D : va_G) (tys : List (ClassId × FieldType)) (ex : State → Prop) (y : MethodName) (cc : ByteArray) (nL : Nat) (rm : Room) (b : Nat) (e0 : va_E) (post : va_W → Prop) : Prop :=
  ∀ sz : Nat, Met l y (.code y cc nL none :: lw_good) rm (va_Pc [.ref b] (fun U => U.heap.size = sz ∧ va_P D vwCl [(b, e0)] U.heap ∧ va_K D vwCl tys U ∧ va_D (fun _ => True) [(b, e0)] ∧ ex U)) (va_Qv post (cB D tys wI (va_A [(b, e0)] sz)) (va_A [(b, e0)] sz)) rm.cells rm.slots (va_A [(b, e0)] sz)
theorem ctN_of {l : Launch} {D : va_G} {tys : List (ClassId × FieldType)} {ex : State → Prop} {y : MethodName} {cc : ByteArray} {nL : Nat} {rm : Room} {b : Nat} {e0 : va_E} {post : va_W → Prop} (hy : plainName y.cls = true) (hy1 : y.name = "<init>") (hav : (lg_sl [Value.ref b]).length ≤ nL)
    (body : ∀ (p : Program) (e : Env) (s : State) (m : MethodId) (args : Array Value) (below : List Frame) (meth : Method) (c : Code) (A : Nat → Prop), xC p s m args meth c y.cls cc nL none → meth.name = "<init>" → va_K D vwCl tys s → ex s → (∀ q, s.heap.size ≤ q → A q) → XW p l e rm s m args below meth c nL 0 0 A D (MQ below (va_Qv post (cB D tys wI A) A) args s rm.cells rm.slots A) wI [(b, e0)] 0 [(0, .ref b)] []) : ctN l D tys ex y cc nL rm b e0 post := by
  intro sz
  refine Met.ofW (cc := cc) (maxL := nL) (ret := none) hy rfl ?_
  intro p e s m args below meth c s₁ B hml hv
  obtain ⟨rfl, hsz, hP, hK, hD0, hZ⟩ := hv
  subst hsz
  have hts := atoms_spec (ws := .code y cc nL none :: lw_good) B.pre
  have hown : s.vm.findClass y.cls = some m.cls := findClass_of_methodNamed B.named
  have hin : meth.name = "<init>" := ((name_of_methodNamed B.named B.method).1).trans hy1
  have hC : xC p s m [Value.ref b].toArray meth c y.cls cc nL none := ⟨B.exec, B.bytes, hml, hown, fun w h => hts w (List.mem_cons_of_mem _ h), B.returns, B.notSynchronized⟩
  have hD := hD0.self (sz := s.heap.size)
  have hA : ∀ q : Nat, s.heap.size ≤ q → va_A [(b, e0)] s.heap.size q := fun q h => Or.inr h
  have hS : va_S (va_A [(b, e0)] s.heap.size) s.heap s.heap [] := va_S.rf
  have hl := lv_entry [Value.ref b] (n := nL) hav
  rw [lg_entry_eq]
  exact body p e s m [Value.ref b].toArray below meth c _ hC hin hK hZ hA s.heap [] _ hP hD hS hl
section HDI
variable {p : Program} {l : Launch} {e : Env} {R : Room} {s : State} {m : MethodId} {args : Array Value} {below : List Frame} {meth : Method} {c : Code} {own : String} {cc : ByteArray} {nL : Nat} {ret : Option FieldType} {cells slots cells' slots' : Nat} {A : Nat → Prop} {D : va_G} {tys : List (ClassId × FieldType)} {Q : State → Prop} {S : va_W} {pc : Nat} {lv : List (Nat × Value)} {st : List Value}
theorem hi_newa {atype : ArrayType} {cA : ClassId} {ty : FieldType} {x : Int32} (n : Nat) (C : xC p s m args meth c own cc nL ret) (hK : va_K D vwCl tys s) (hA : ∀ q, s.heap.size ≤ q → A q) (d : decode cc pc = .ok (.newarray atype, 2)) (hn : pc + 2 = n) (t0 : Nat) (ht : tys[t0]? = some (cA, ty)) (hty : newarray.typeOf atype = ty) (harr : Cond.arrayClass (newarray.typeOf atype) ∈ lw_good) (N' : Nat) (a0 : vp_A) (ha : ∀ cA : ClassId, vp_cell cA a0 = arrV cA N' (fun _ => defaultValue ty)) (hx : ¬ x < 0) (hN : x.toNatClampNeg = N') (hbytes : N' * componentBytes ty ≤ 536870912) (hc : cells + 1 = cells') (hs : slots + N' = slots') (hr : cells' ≤ R.cells ∧ slots' ≤ R.slots) (k : ∀ (q : Nat), XW p l e R s m args below meth c nL cells' slots' A D Q wI (S ++ [(q, .inl (cA, a0))]) n lv (.ref q :: st)) : XW p l e R s m args below meth c nL cells slots A D Q wI S pc lv (.int x :: st) := by
  subst hn; subst hc; subst hs
  intro H locs ls h1 h2 h3 hl
  refine va_newa C.1 C.2.1 (C.2.2.2.2.1 _ harr) hty hK h1 h2 h3 hA ha hx hN hbytes hr.1 hr.2 d (fun q cB H1 gK gP gD gS => ?_)
  have e1 : cB = cA := ra_one (gK.2 tys.length (cB, ty) (by simp)).2 (hK.2 t0 _ ht).2
  subst e1
  exact k q H1 locs ls gP gD gS hl
theorem hi_newq {index : Nat} {cA : ClassId} {Cn : String} {x : Int32} (n : Nat) (C : xC p s m args meth c own cc nL ret) (hK : va_K D vwCl tys s) (hA : ∀ q, s.heap.size ≤ q → A q) (d : decode cc pc = .ok (.anewarray index, 3)) (hn : pc + 3 = n) (t0 : Nat) (ht : tys[t0]? = some (cA, .object Cn)) (hcl : Cond.classLink own index Cn ∈ lw_good) (hov : va_AO Cn s) (N' : Nat) (hx : ¬ x < 0) (hN : x.toNatClampNeg = N') (hbytes : N' * 4 ≤ 536870912) (hc : cells + 1 = cells') (hs : slots + N' = slots') (hr : cells' ≤ R.cells ∧ slots' ≤ R.slots) (k : ∀ (q : Nat), XW p l e R s m args below meth c nL cells' slots' A D Q wI (S ++ [(q, .inl (cA, N', .inr (.inr (.inr (.inr (fun _ => none))))))]) n lv (.ref q :: st)) : XW p l e R s m args below meth c nL cells slots A D Q wI S pc lv (.int x :: st) := by
  subst hn; subst hc; subst hs
  intro H locs ls h1 h2 h3 hl
  refine va_newq C.1 C.2.1 C.2.2.2.1 (C.2.2.2.2.1 _ hcl) hov hK h1 h2 h3 hA hx hN hbytes hr.1 hr.2 d (fun q cB H1 gK gP gD gS => ?_)
  have e1 : cB = cA := ra_one (gK.2 tys.length (cB, .object Cn) (by simp)).2 (hK.2 t0 _ ht).2
  subst e1
  exact k q H1 locs ls gP gD gS hl
theorem hi_new {Cn : String} {T : u_T} {Nn ci index : Nat} {ty0 : Nat → FieldType} (n : Nat) (C : xC p s m args meth c own cc nL ret) (hK : va_K D vwCl tys s) (hA : ∀ q, s.heap.size ≤ q → A q) (d : decode cc pc = .ok (.new index, 3)) (hn : pc + 3 = n) (hin : ∀ x ∈ u_ws Cn T Nn, x ∈ lw_good) (hty : ∀ k, k < Nn → parseFieldDescriptor (T k).2.2.1 = some (ty0 k)) (hcl : Cond.classLink own index Cn ∈ lw_good) (hinst : Cond.instantiable Cn Nn ∈ lw_good) (hini : Cond.initialized Cn ∈ lw_good) (hc : vwCl[ci]? = some (Cn, T, Nn)) (fs : List Value) (hfs : ∀ j, j < Nn → defaultValue (ty0 j) = vp_V fs j) (hce : cells + 1 = cells') (hsl : slots + Nn = slots') (hr : cells' ≤ R.cells ∧ slots' ≤ R.slots) (k : ∀ q : Nat, XW p l e R s m args below meth c nL cells' slots' A D Q wI (S ++ [(q, .inr (ci, fs))]) n lv (.ref q :: st)) : XW p l e R s m args below meth c nL cells slots A D Q wI S pc lv st := by
  subst hn; subst hce; subst hsl
  intro H locs ls h1 h2 h3 hl
  exact va_new (ci := ci) (C := Cn) (T := T) (N := Nn) C.1 C.2.1 C.2.2.2.2.1 hin ty0 hty C.2.2.2.1 (C.2.2.2.2.1 _ hcl) (C.2.2.2.2.1 _ hinst) (C.2.2.2.2.1 _ hini) hK h1 h2 h3 hA hc hfs hr.1 hr.2 d (fun q H1 gP gD gS => k q H1 locs ls gP gD gS hl)
theorem hi_putF {S' : va_W} {ref Cn : String} {T : u_T} {Nn ci index a : Nat} {fs : List Value} {v : Value} {ty0 : Nat → FieldType} {ty : FieldType} (n : Nat) (C : xC p s m args meth c own cc nL ret) (hmn : meth.name = "<init>") (hK : va_K D vwCl tys s) (d : decode cc pc = .ok (.putfield index, 3)) (hn : pc + 3 = n) (q0 : Nat) (he : S[q0]? = some (a, .inr (ci, fs))) (hc : vwCl[ci]? = some (Cn, T, Nn)) (hin : ∀ x ∈ u_ws Cn T Nn, x ∈ lw_good) (hty : ∀ k, k < Nn → parseFieldDescriptor (T k).2.2.1 = some (ty0 k)) (hnm : ∀ a, a < Nn → ∀ b, b < Nn → a ≠ b → (T a).2.1 ≠ (T b).2.1) (k0 : Nat) (hk : k0 < Nn) (hlink : Cond.fieldLink own index ref (T k0).2.1 (T k0).2.2.1 ∈ lw_good) (href : (T k0).1 = ref) (hfin : (T k0).2.2.2 = true) (hdecl : (T k0).1 = own) (hd : parseFieldDescriptor (T k0).2.2.1 = some ty) (hnar : narrow ty v = v) (hfit : fits ty v = true) (hl0 : k0 < fs.length) (hS' : S.set q0 (a, .inr (ci, fs.set k0 v)) = S') (k : XW p l e R s m args below meth c nL cells slots A D Q wI S' n lv st) : XW p l e R s m args below meth c nL cells slots A D Q wI S pc lv (v :: .ref a :: st) := by
  subst hn; subst href; subst hS'
  exact fun H locs ls h1 h2 h3 hl => va_putF (D := D) C.1 C.2.1 C.2.2.2.2.1 hin ty0 hty hnm C.2.2.2.1 hK h1 h2 h3 q0 he hc k0 hk (C.2.2.2.2.1 _ hlink) (fun _ h9 => h9) hfin hmn hdecl hd hnar hfit hl0 d (fun H1 locs1 g1 g2 g3 => k H1 locs1 ls g1 g2 g3 hl)
theorem hi_aast {S' : va_W} {cA : ClassId} {r : vw_C} {len v a : Nat} {vs : List Value} {f : Nat → Option Nat} {i : Int32} (n : Nat) (C : xC p s m args meth c own cc nL ret) (hK : va_K D vwCl tys s) (d : decode cc pc = .ok (.aastore, 1)) (hn : pc + 1 = n) (q0 t0 qk ci : Nat) (ha : S[q0]? = some (a, .inl (cA, len, .inr (.inr (.inr (.inr f)))))) (ht : tys[t0]? = some (cA, .object r.1)) (hv : S[qk]? = some (v, .inr (ci, vs))) (hc : vwCl[ci]? = some r) (hi : vp_in i len) (hS' : S.set q0 (a, .inl (cA, len, .inr (.inr (.inr (.inr (va_up f i.toNatClampNeg (some v))))))) = S') (k : XW p l e R s m args below meth c nL cells slots A D Q wI S' n lv st) : XW p l e R s m args below meth c nL cells slots A D Q wI S pc lv (.ref v :: .int i :: .ref a :: st) := by
  subst hn; subst hS'
  exact fun H locs ls h1 h2 h3 hl => va_astq (D := D) C.1 C.2.1 hK h1 h2 h3 q0 t0 qk ci ha ht hv hc hi d (fun H1 locs1 g1 g2 g3 => k H1 locs1 ls g1 g2 g3 hl)
theorem ko_in : Cond.instanceMethod objectInit ∈ lw_good := gd_in 57 (by decide +kernel) rfl
theorem ko_cd : Cond.code objectInit ⟨#[0xb1]⟩ 1 none ∈ lw_good := gd_in 58 rfl rfl
theorem hi_obj {index a : Nat} (n : Nat) (C : xC p s m args meth c own cc nL ret) (d : decode cc pc = .ok (.invokespecial index, 3)) (hn : pc + 3 = n) (hlink : Cond.methodLink own index objectInit ∈ lw_good) (hR : 1 ≤ R.frames ∧ 20 ≤ R.locals) (hst : (st.map fun v => v.category).sum ≤ 8) (k : XW p l e R s m args below meth c nL cells slots A D Q wI S n lv st) : XW p l e R s m args below meth c nL cells slots A D Q wI S pc lv (.ref a :: st) := by
  subst hn
  intro H locs ls h1 h2 h3 hl
  refine W.objInit C.1 C.2.1 C.2.2.2.1 (C.2.2.2.2.1 _ hlink) (C.2.2.2.2.1 _ ko_in) (C.2.2.2.2.1 _ ko_cd) rfl (by rw [C.2.2.1]; exact hl.1) rfl d hR.1 ?_ ?_
  · exact Nat.le_trans (Nat.add_le_add_right (lv_room (m := m) (pc := pc) (ls := ls) hst) 12) hR.2
  · exact k H locs ls h1 h2 h3 hl
theorem hi_perm {S' : va_W} (is : List Nat) (h1 : is.filterMap (fun i => S[i]?) = S') (hn : va_nd is = true) (h2 : is.map (fun i => S[i]?) = S'.map some) (k : XW p l e R s m args below meth c nL cells slots A D Q wI S' pc lv st) : XW p l e R s m args below meth c nL cells slots A D Q wI S pc lv st :=
  fun H locs ls g1 g2 g3 hl => k H locs ls (va_P.sub g1 is h1) (va_D.sub g2 is hn h2) g3 hl
theorem blind_N {ex : State → Prop} {b sz : Nat} {e0 : va_E} (hbl : ∀ (a : Array Value) (U : State) (g : JFrame) (mk : MethodId), ex U → ex (U.calling g mk a)) : FrameBlind (va_Pc [.ref b] (fun U => U.heap.size = sz ∧ va_P D vwCl [(b, e0)] U.heap ∧ va_K D vwCl tys U ∧ va_D (fun _ => True) [(b, e0)] ∧ ex U)) := by
  intro a U g mk q
  obtain ⟨q0, q1, qP, qK, qD, qZ⟩ := q
  exact ⟨q0, q1, qP, va_K.moved (u := U) (U := U.calling g mk a) (Vm.Alike.refl U.vm) qK, qD, hbl a U g mk qZ⟩
theorem hi_callI {index : Nat} {y : MethodName} {c2 : ByteArray} {nL2 : Nat} {rm : Room} {b : Nat} {e0 : va_E} {post : va_W → Prop} {ex : State → Prop} (n : Nat) (C : xC p s m args meth c own cc nL ret) (hK : va_K D vwCl tys s) (hA : ∀ q, s.heap.size ≤ q → A q) (d : decode cc pc = .ok (.invokespecial index, 3)) (hn : pc + 3 = n) (hM : ctN l D tys ex y c2 nL2 rm b e0 post) (hcode : Cond.code y c2 nL2 none ∈ lw_good) (hini : Cond.initialized y.cls ∈ lw_good) (hinm : Cond.instanceMethod y ∈ lw_good) (hd : y.cls ≠ "java/lang/invoke/MethodHandle" ∧ y.cls ≠ "java/lang/invoke/VarHandle" ∧ (parseMethodDescriptor y.desc).map (fun d => d.parameters.length) = some 0) (hlk : Cond.methodLink own index y ∈ lw_good) (hy1 : y.name = "<init>") (hR : rm.frames + 1 ≤ R.frames ∧ 8 + (nL2 + 11) + rm.locals ≤ R.locals) (hex : ∀ U : State, s.WarmedH U.vm → ex U) (hbl : ∀ (a : Array Value) (U : State) (g : JFrame) (mk : MethodId), ex U → ex (U.calling g mk a)) (hc : cells + rm.cells = cells') (hs : slots + rm.slots = slots') (hr : cells' ≤ R.cells ∧ slots' ≤ R.slots) (hrm : (st.map fun v => v.category).sum ≤ 8) (S0 : va_W) (hS : S = S0 ++ [(b, e0)]) (k : ∀ u : va_W, post u → XW p l e R s m args below meth c nL cells' slots' A D Q wI (S0 ++ u) n lv st) : XW p l e R s m args below meth c nL cells slots A D Q wI S pc lv (.ref b :: st) := by
  subst hn; subst hc; subst hs; subst hS
  intro H locs ls h1 h2 h3 hl
  have hP := ap_Pr h1
  have hD := ap_Dr h2
  have hF : ∀ q, va_A [(b, e0)] H.size q → A q := free_of (w := wI) (S := [(b, e0)]) hA hD h3
  refine va_callv (va_runI (As := []) (rest := st) ⟨C.1, C.2.1, C.2.2.1, C.2.2.2.1, C.2.2.2.2.1⟩ (hM H.size) ⟨callB_of 0 C.2.2.2.2.1 (good_in hcode) rfl rfl rfl (C.2.2.2.2.1 _ hini) (C.2.2.2.2.1 _ hlk) hd hR, hy1, C.2.2.2.2.1 _ hinm⟩ ⟨blind_N hbl, fun U hU hW => ⟨rfl, by rw [hU], by rw [hU]; exact hP, va_K.moved hW.alike hK, hD.weaken (fun _ _ _ _ => trivial), hex U hW⟩⟩ rfl rfl hl.1 rfl (lv_room hrm) d hr) h3 (fun q _ h => hF q h) hF (fun u t H1 locs1 ht hvm hp hB hz1 hk1 hS1 => ?_)
  obtain ⟨g1, -, g2⟩ := hB
  rw [ht] at g1
  obtain ⟨j1, j2⟩ := jn_r h1 h2 hk1 hF g1 g2
  exact k u hp H1 locs1 ls j1 j2 hS1 hl
theorem hi_callN {host : String} {index : Nat} {y : MethodName} {c2 : ByteArray} {nL2 : Nat} {rm : Room} {b : Nat} {e0 : va_E} {post : va_W → Prop} {ex : State → Prop} (n : Nat) (C : xC p s m args meth c own cc nL ret) (hK : va_K D vwCl tys s) (hA : ∀ q, s.heap.size ≤ q → A q) (d : decode cc pc = .ok (.invokespecial index, 3)) (hn : pc + 3 = n) (hM : ctN l D tys ex y c2 nL2 rm b e0 post) (hcode : Cond.code y c2 nL2 none ∈ lw_good) (hini : Cond.initialized y.cls ∈ lw_good) (hinm : Cond.instanceMethod y ∈ lw_good) (hd : y.cls ≠ "java/lang/invoke/MethodHandle" ∧ y.cls ≠ "java/lang/invoke/VarHandle" ∧ (parseMethodDescriptor y.desc).map (fun d => d.parameters.length) = some 0) (hlk : va_Nw (.methodLinkNest own index y host) s) (hy1 : y.name = "<init>") (hR : rm.frames + 1 ≤ R.frames ∧ 8 + (nL2 + 11) + rm.locals ≤ R.locals) (hex : ∀ U : State, s.WarmedH U.vm → ex U) (hbl : ∀ (a : Array Value) (U : State) (g : JFrame) (mk : MethodId), ex U → ex (U.calling g mk a)) (hc : cells + rm.cells = cells') (hs : slots + rm.slots = slots') (hr : cells' ≤ R.cells ∧ slots' ≤ R.slots) (hrm : (st.map fun v => v.category).sum ≤ 8) (S0 : va_W) (hS : S = S0 ++ [(b, e0)]) (k : ∀ u : va_W, post u → XW p l e R s m args below meth c nL cells' slots' A D Q wI (S0 ++ u) n lv st) : XW p l e R s m args below meth c nL cells slots A D Q wI S pc lv (.ref b :: st) := by
  subst hn; subst hc; subst hs; subst hS
  intro H locs ls h1 h2 h3 hl
  have hP := ap_Pr h1
  have hD := ap_Dr h2
  have hF : ∀ q, va_A [(b, e0)] H.size q → A q := free_of (w := wI) (S := [(b, e0)]) hA hD h3
  refine va_callv (va_runIN (As := []) (rest := st) ⟨C.1, C.2.1, C.2.2.1, C.2.2.2.1, C.2.2.2.2.1⟩ (hM H.size) ⟨va_cnB 0 C.2.2.2.2.1 (good_in hcode) rfl rfl rfl hlk (C.2.2.2.2.1 _ hini) hd hR, hy1, C.2.2.2.2.1 _ hinm⟩ ⟨blind_N hbl, fun U hU hW => ⟨rfl, by rw [hU], by rw [hU]; exact hP, va_K.moved hW.alike hK, hD.weaken (fun _ _ _ _ => trivial), hex U hW⟩⟩ rfl rfl hl.1 rfl (lv_room hrm) d hr) h3 (fun q _ h => hF q h) hF (fun u t H1 locs1 ht hvm hp hB hz1 hk1 hS1 => ?_)
  obtain ⟨g1, -, g2⟩ := hB
  rw [ht] at g1
  obtain ⟨j1, j2⟩ := jn_r h1 h2 hk1 hF g1 g2
  exact k u hp H1 locs1 ls j1 j2 hS1 hl
end HDI

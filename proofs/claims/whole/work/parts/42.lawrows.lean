/-! the law's rows: both objects in one world -/
abbrev wP {σ τ : Type} (w1 : σ → va_W) (w2 : τ → va_W) : σ × τ → va_W := fun u => w1 u.1 ++ w2 u.2
section HDL
variable {p : Program} {l : Launch} {e : Env} {R : Room} {s : State} {m : MethodId} {args : Array Value} {below : List Frame} {meth : Method} {c : Code} {own : String} {cc : ByteArray} {nL : Nat} {ret : Option FieldType} {cells slots : Nat} {A : Nat → Prop} {D : va_G} {tys : List (ClassId × FieldType)} {Q : State → Prop} {σ τ : Type} {w : σ → va_W} {w1 : σ → va_W} {w2 : τ → va_W} {S : σ} {S1 : σ} {S2 : τ} {pc : Nat} {lv : List (Nat × Value)} {st rest : List Value} {b0 L : Nat} {xs : Nat → Int32}
theorem hl_sld {i : Int32} (n : Nat) (C : xC p s m args meth c own cc nL ret) (hX : va_X b0 L xs s s.heap) (hbl : b0 < s.heap.size) (hbA : ¬ A b0) (d : decode cc pc = .ok (.iaload, 1)) (hn : pc + 1 = n) (hi : vp_in i L) (v : Int32) (hv : xs i.toNatClampNeg = v) (k : XW p l e R s m args below meth c nL cells slots A D Q w S n lv (.int v :: st)) : XW p l e R s m args below meth c nL cells slots A D Q w S pc lv (.int i :: .ref b0 :: st) := by
  subst hn; subst hv
  exact fun H locs ls h1 h2 h3 hl => va_sld C.1 C.2.1 hX hbl hbA h3 hi d (k H locs ls h1 h2 h3 hl)
theorem hl_slen (n : Nat) (C : xC p s m args meth c own cc nL ret) (hX : va_X b0 L xs s s.heap) (hbl : b0 < s.heap.size) (hbA : ¬ A b0) (d : decode cc pc = .ok (.arraylength, 1)) (hn : pc + 1 = n) (k : XW p l e R s m args below meth c nL cells slots A D Q w S n lv (.int (nI L) :: st)) : XW p l e R s m args below meth c nL cells slots A D Q w S pc lv (.ref b0 :: st) := by
  subst hn
  exact fun H locs ls h1 h2 h3 hl => va_slen C.1 C.2.1 hX hbl hbA h3 d (k H locs ls h1 h2 h3 hl)

theorem hl_arg_iconst {z : Int} {i : Nat} (n j : Nat) (C : xC p s m args meth c own cc nL ret) (hX : va_X b0 L xs s s.heap) (hbl : b0 < s.heap.size) (hbA : ¬ A b0) (hL : L ≤ 512) (d0 : decode cc pc = .ok (.aload_n 0, 1)) (d1 : decode cc (pc + 1) = .ok (.iload_n 3, 1)) (d2 : decode cc (pc + 2) = .ok (.iconst z, 1)) (d3 : decode cc (pc + 3) = .ok (.iadd, 1)) (d4 : decode cc (pc + 4) = .ok (.iaload, 1)) (hn : pc + 5 = n) (hz : Int32.ofInt z = nI j) (q0 q3 : Nat) (hq0 : lv[q0]? = some (0, .ref b0)) (hq3 : lv[q3]? = some (3, .int (nI i))) (hij : i + j < L) (k : XW p l e R s m args below meth c nL cells slots A D Q w S n lv (.int (xs (i + j)) :: st)) : XW p l e R s m args below meth c nL cells slots A D Q w S pc lv st := by
  refine hd_aload_n (pc + 1) C d0 rfl q0 rfl hq0 ?_
  refine hd_iload_n (pc + 2) C d1 rfl q3 rfl hq3 ?_
  refine hd_iconst (pc + 3) C d2 rfl (nI j) hz ?_
  refine hd_iadd (pc + 4) C d3 rfl (nI (i + j)) (nI_add i j) ?_
  exact hl_sld n C hX hbl hbA d4 hn (vp_in_nI hij (by omega)) (xs (i + j)) (by rw [nI_clamp (by omega)]) k
theorem hl_arg_bipush {z : Int} {i : Nat} (n j : Nat) (C : xC p s m args meth c own cc nL ret) (hX : va_X b0 L xs s s.heap) (hbl : b0 < s.heap.size) (hbA : ¬ A b0) (hL : L ≤ 512) (d0 : decode cc pc = .ok (.aload_n 0, 1)) (d1 : decode cc (pc + 1) = .ok (.iload_n 3, 1)) (d2 : decode cc (pc + 2) = .ok (.bipush z, 2)) (d3 : decode cc (pc + 4) = .ok (.iadd, 1)) (d4 : decode cc (pc + 5) = .ok (.iaload, 1)) (hn : pc + 6 = n) (hz : (Int8.ofInt z).toInt32 = nI j) (q0 q3 : Nat) (hq0 : lv[q0]? = some (0, .ref b0)) (hq3 : lv[q3]? = some (3, .int (nI i))) (hij : i + j < L) (k : XW p l e R s m args below meth c nL cells slots A D Q w S n lv (.int (xs (i + j)) :: st)) : XW p l e R s m args below meth c nL cells slots A D Q w S pc lv st := by
  refine hd_aload_n (pc + 1) C d0 rfl q0 rfl hq0 ?_
  refine hd_iload_n (pc + 2) C d1 rfl q3 rfl hq3 ?_
  refine hd_bipush (pc + 4) C d2 rfl (nI j) hz ?_
  refine hd_iadd (pc + 5) C d3 rfl (nI (i + j)) (nI_add i j) ?_
  exact hl_sld n C hX hbl hbA d4 hn (vp_in_nI hij (by omega)) (xs (i + j)) (by rw [nI_clamp (by omega)]) k
theorem hl_xI {index k : Nat} {y : MethodName} {c2 : ByteArray} {nL2 : Nat} {ret2 : Option FieldType} {rm : Room} {As : List Value} {b : Nat} {t : Option Nat} {post : Int32 → σ → Prop} (n : Nat) (C : xC p s m args meth c own cc nL ret) (hK : va_K D vwCl tys s) (hZ : zS t A s s.heap) (hA : ∀ q, s.heap.size ≤ q → A q) (hcs : cells ≤ R.cells ∧ slots ≤ R.slots) (d : decode cc pc = .ok (.invokevirtual index, 3)) (hn : pc + 3 = n) (hw : kV own index y c2 nL2 ret2 k) (hM : ctI l D tys t w1 y c2 nL2 ret2 rm (.ref b :: As) S1 post) (hrmc : rm.cells = 0 ∧ rm.slots = 0) (hR : rm.frames + 1 ≤ R.frames ∧ 8 + (nL2 + 11) + rm.locals ≤ R.locals) (q0 ci : Nat) {fs : List Value} {q : vw_C} (hre : (w1 S1)[q0]? = some (b, .inr (ci, fs))) (hrc : vwCl[ci]? = some q) (hrn : q.1 = y.cls) (hlen : As.length = k) (hst : st = As.reverse ++ .ref b :: rest) (hrm : (rest.map fun v => v.category).sum ≤ 8) (kk : ∀ (r : Int32) (u : σ), post r u → XW p l e R s m args below meth c nL cells slots A D Q (wP w1 w2) (u, S2) n lv (.int r :: rest)) : XW p l e R s m args below meth c nL cells slots A D Q (wP w1 w2) (S1, S2) pc lv st := by
  subst hn
  intro H locs ls h1 h2 h3 hl
  have h1 : va_P D vwCl (w1 S1 ++ w2 S2) H := h1
  have h2 : va_D A (w1 S1 ++ w2 S2) := h2
  have g1 := ap_Pl h1
  have g2 := ap_Dl h2
  have hF := free_of hA g2 h3
  obtain ⟨rf, rc, rs, rl⟩ := rm
  obtain ⟨e1, e2⟩ := hrmc
  dsimp only at e1 e2
  subst e1; subst e2
  refine va_calli (va_runV (C := y.cls) (As := As) (rest := rest) ⟨C.1, C.2.1, C.2.2.1, C.2.2.2.1, C.2.2.2.2.1⟩ (hM H.size) ⟨callB_of k C.2.2.2.2.1 (good_in hw.1) rfl rfl rfl (C.2.2.2.2.1 _ hw.2.2.1) (C.2.2.2.2.1 _ hw.2.1) hw.2.2.2.1 hR, C.2.2.2.2.1 _ hw.2.2.2.2.1, C.2.2.2.2.1 _ hw.2.2.2.2.2⟩ ⟨blind_of, hrn ▸ va_recv hK g1 hrc hre, pre_of hK hZ hA g1 g2 h3⟩ rfl hlen hl.1 hst (lv_room hrm) d ⟨hcs.1, hcs.2⟩) h3 (fun q _ h => hF q h) hF (fun r u t2 H1 locs1 ht hvm hp hB hz1 hk1 hS1 => ?_)
  obtain ⟨f1, -, f2⟩ := hB
  rw [ht] at f1
  obtain ⟨j1, j2⟩ := jn_l h1 h2 hk1 hF f1 f2
  exact kk r u hp H1 locs1 ls j1 j2 hS1 hl
theorem hl_xL {index k : Nat} {y : MethodName} {c2 : ByteArray} {nL2 : Nat} {ret2 : Option FieldType} {rm : Room} {As : List Value} {b : Nat} {t : Option Nat} {post : Int64 → σ → Prop} (n : Nat) (C : xC p s m args meth c own cc nL ret) (hK : va_K D vwCl tys s) (hZ : zS t A s s.heap) (hA : ∀ q, s.heap.size ≤ q → A q) (hcs : cells ≤ R.cells ∧ slots ≤ R.slots) (d : decode cc pc = .ok (.invokevirtual index, 3)) (hn : pc + 3 = n) (hw : kV own index y c2 nL2 ret2 k) (hM : ctL l D tys t w1 y c2 nL2 ret2 rm (.ref b :: As) S1 post) (hrmc : rm.cells = 0 ∧ rm.slots = 0) (hR : rm.frames + 1 ≤ R.frames ∧ 8 + (nL2 + 11) + rm.locals ≤ R.locals) (q0 ci : Nat) {fs : List Value} {q : vw_C} (hre : (w1 S1)[q0]? = some (b, .inr (ci, fs))) (hrc : vwCl[ci]? = some q) (hrn : q.1 = y.cls) (hlen : As.length = k) (hst : st = As.reverse ++ .ref b :: rest) (hrm : (rest.map fun v => v.category).sum ≤ 8) (kk : ∀ (r : Int64) (u : σ), post r u → XW p l e R s m args below meth c nL cells slots A D Q (wP w1 w2) (u, S2) n lv (.long r :: rest)) : XW p l e R s m args below meth c nL cells slots A D Q (wP w1 w2) (S1, S2) pc lv st := by
  subst hn
  intro H locs ls h1 h2 h3 hl
  have h1 : va_P D vwCl (w1 S1 ++ w2 S2) H := h1
  have h2 : va_D A (w1 S1 ++ w2 S2) := h2
  have g1 := ap_Pl h1
  have g2 := ap_Dl h2
  have hF := free_of hA g2 h3
  obtain ⟨rf, rc, rs, rl⟩ := rm
  obtain ⟨e1, e2⟩ := hrmc
  dsimp only at e1 e2
  subst e1; subst e2
  refine va_calll (va_runV (C := y.cls) (As := As) (rest := rest) ⟨C.1, C.2.1, C.2.2.1, C.2.2.2.1, C.2.2.2.2.1⟩ (hM H.size) ⟨callB_of k C.2.2.2.2.1 (good_in hw.1) rfl rfl rfl (C.2.2.2.2.1 _ hw.2.2.1) (C.2.2.2.2.1 _ hw.2.1) hw.2.2.2.1 hR, C.2.2.2.2.1 _ hw.2.2.2.2.1, C.2.2.2.2.1 _ hw.2.2.2.2.2⟩ ⟨blind_of, hrn ▸ va_recv hK g1 hrc hre, pre_of hK hZ hA g1 g2 h3⟩ rfl hlen hl.1 hst (lv_room hrm) d ⟨hcs.1, hcs.2⟩) h3 (fun q _ h => hF q h) hF (fun r u t2 H1 locs1 ht hvm hp hB hz1 hk1 hS1 => ?_)
  obtain ⟨f1, -, f2⟩ := hB
  rw [ht] at f1
  obtain ⟨j1, j2⟩ := jn_l h1 h2 hk1 hF f1 f2
  exact kk r u hp H1 locs1 ls j1 j2 hS1 hl
theorem hl_mI {index k : Nat} {y : MethodName} {c2 : ByteArray} {nL2 : Nat} {ret2 : Option FieldType} {rm : Room} {As : List Value} {b : Nat} {t : Option Nat} {post : Int32 → τ → Prop} (n : Nat) (C : xC p s m args meth c own cc nL ret) (hK : va_K D vwCl tys s) (hZ : zS t A s s.heap) (hA : ∀ q, s.heap.size ≤ q → A q) (hcs : cells ≤ R.cells ∧ slots ≤ R.slots) (d : decode cc pc = .ok (.invokevirtual index, 3)) (hn : pc + 3 = n) (hw : kV own index y c2 nL2 ret2 k) (hM : ctI l D tys t w2 y c2 nL2 ret2 rm (.ref b :: As) S2 post) (hrmc : rm.cells = 0 ∧ rm.slots = 0) (hR : rm.frames + 1 ≤ R.frames ∧ 8 + (nL2 + 11) + rm.locals ≤ R.locals) (q0 ci : Nat) {fs : List Value} {q : vw_C} (hre : (w2 S2)[q0]? = some (b, .inr (ci, fs))) (hrc : vwCl[ci]? = some q) (hrn : q.1 = y.cls) (hlen : As.length = k) (hst : st = As.reverse ++ .ref b :: rest) (hrm : (rest.map fun v => v.category).sum ≤ 8) (kk : ∀ (r : Int32) (u : τ), post r u → XW p l e R s m args below meth c nL cells slots A D Q (wP w1 w2) (S1, u) n lv (.int r :: rest)) : XW p l e R s m args below meth c nL cells slots A D Q (wP w1 w2) (S1, S2) pc lv st := by
  subst hn
  intro H locs ls h1 h2 h3 hl
  have h1 : va_P D vwCl (w1 S1 ++ w2 S2) H := h1
  have h2 : va_D A (w1 S1 ++ w2 S2) := h2
  have g1 := ap_Pr h1
  have g2 := ap_Dr h2
  have hF := free_of hA g2 h3
  obtain ⟨rf, rc, rs, rl⟩ := rm
  obtain ⟨e1, e2⟩ := hrmc
  dsimp only at e1 e2
  subst e1; subst e2
  refine va_calli (va_runV (C := y.cls) (As := As) (rest := rest) ⟨C.1, C.2.1, C.2.2.1, C.2.2.2.1, C.2.2.2.2.1⟩ (hM H.size) ⟨callB_of k C.2.2.2.2.1 (good_in hw.1) rfl rfl rfl (C.2.2.2.2.1 _ hw.2.2.1) (C.2.2.2.2.1 _ hw.2.1) hw.2.2.2.1 hR, C.2.2.2.2.1 _ hw.2.2.2.2.1, C.2.2.2.2.1 _ hw.2.2.2.2.2⟩ ⟨blind_of, hrn ▸ va_recv hK g1 hrc hre, pre_of hK hZ hA g1 g2 h3⟩ rfl hlen hl.1 hst (lv_room hrm) d ⟨hcs.1, hcs.2⟩) h3 (fun q _ h => hF q h) hF (fun r u t2 H1 locs1 ht hvm hp hB hz1 hk1 hS1 => ?_)
  obtain ⟨f1, -, f2⟩ := hB
  rw [ht] at f1
  obtain ⟨j1, j2⟩ := jn_r h1 h2 hk1 hF f1 f2
  exact kk r u hp H1 locs1 ls j1 j2 hS1 hl
theorem hl_mL {index k : Nat} {y : MethodName} {c2 : ByteArray} {nL2 : Nat} {ret2 : Option FieldType} {rm : Room} {As : List Value} {b : Nat} {t : Option Nat} {post : Int64 → τ → Prop} (n : Nat) (C : xC p s m args meth c own cc nL ret) (hK : va_K D vwCl tys s) (hZ : zS t A s s.heap) (hA : ∀ q, s.heap.size ≤ q → A q) (hcs : cells ≤ R.cells ∧ slots ≤ R.slots) (d : decode cc pc = .ok (.invokevirtual index, 3)) (hn : pc + 3 = n) (hw : kV own index y c2 nL2 ret2 k) (hM : ctL l D tys t w2 y c2 nL2 ret2 rm (.ref b :: As) S2 post) (hrmc : rm.cells = 0 ∧ rm.slots = 0) (hR : rm.frames + 1 ≤ R.frames ∧ 8 + (nL2 + 11) + rm.locals ≤ R.locals) (q0 ci : Nat) {fs : List Value} {q : vw_C} (hre : (w2 S2)[q0]? = some (b, .inr (ci, fs))) (hrc : vwCl[ci]? = some q) (hrn : q.1 = y.cls) (hlen : As.length = k) (hst : st = As.reverse ++ .ref b :: rest) (hrm : (rest.map fun v => v.category).sum ≤ 8) (kk : ∀ (r : Int64) (u : τ), post r u → XW p l e R s m args below meth c nL cells slots A D Q (wP w1 w2) (S1, u) n lv (.long r :: rest)) : XW p l e R s m args below meth c nL cells slots A D Q (wP w1 w2) (S1, S2) pc lv st := by
  subst hn
  intro H locs ls h1 h2 h3 hl
  have h1 : va_P D vwCl (w1 S1 ++ w2 S2) H := h1
  have h2 : va_D A (w1 S1 ++ w2 S2) := h2
  have g1 := ap_Pr h1
  have g2 := ap_Dr h2
  have hF := free_of hA g2 h3
  obtain ⟨rf, rc, rs, rl⟩ := rm
  obtain ⟨e1, e2⟩ := hrmc
  dsimp only at e1 e2
  subst e1; subst e2
  refine va_calll (va_runV (C := y.cls) (As := As) (rest := rest) ⟨C.1, C.2.1, C.2.2.1, C.2.2.2.1, C.2.2.2.2.1⟩ (hM H.size) ⟨callB_of k C.2.2.2.2.1 (good_in hw.1) rfl rfl rfl (C.2.2.2.2.1 _ hw.2.2.1) (C.2.2.2.2.1 _ hw.2.1) hw.2.2.2.1 hR, C.2.2.2.2.1 _ hw.2.2.2.2.1, C.2.2.2.2.1 _ hw.2.2.2.2.2⟩ ⟨blind_of, hrn ▸ va_recv hK g1 hrc hre, pre_of hK hZ hA g1 g2 h3⟩ rfl hlen hl.1 hst (lv_room hrm) d ⟨hcs.1, hcs.2⟩) h3 (fun q _ h => hF q h) hF (fun r u t2 H1 locs1 ht hvm hp hB hz1 hk1 hS1 => ?_)
  obtain ⟨f1, -, f2⟩ := hB
  rw [ht] at f1
  obtain ⟨j1, j2⟩ := jn_r h1 h2 hk1 hF f1 f2
  exact kk r u hp H1 locs1 ls j1 j2 hS1 hl
end HDL

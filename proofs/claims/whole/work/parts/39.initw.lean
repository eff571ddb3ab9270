def rmC (f k c s : Nat) : Room := { frames := f, cells := c, slots := s, locals := k }
theorem kn_L_7 : Cond.classLink RL 7 RX2 ∈ lw_good := gd_in 51 (by decide +kernel) rfl
theorem kn_L_10 : Cond.classLink RL 10 RX3 ∈ lw_good := gd_in 427 (by decide +kernel) rfl
theorem kn_X2_11 : Cond.classLink RX2 11 RX0 ∈ lw_good := gd_in 59 (by decide +kernel) rfl
theorem kn_X2_32 : Cond.classLink RX2 32 RX1 ∈ lw_good := gd_in 83 (by decide +kernel) rfl
theorem ks_X0 : Cond.instantiable RX0 4 ∈ lw_good := gd_in 61 (by decide +kernel) rfl
theorem ks_X1 : Cond.instantiable RX1 3 ∈ lw_good := gd_in 85 (by decide +kernel) rfl
theorem ks_X2 : Cond.instantiable RX2 14 ∈ lw_good := gd_in 52 (by decide +kernel) rfl
theorem ks_X3 : Cond.instantiable RX3 30 ∈ lw_good := gd_in 428 (by decide +kernel) rfl
theorem ko_X0 : Cond.methodLink RX0 3 objectInit ∈ lw_good := gd_in 65 (by decide +kernel) rfl
theorem ko_X1 : Cond.methodLink RX1 3 objectInit ∈ lw_good := gd_in 89 (by decide +kernel) rfl
theorem ko_X2 : Cond.methodLink RX2 3 objectInit ∈ lw_good := gd_in 56 (by decide +kernel) rfl
theorem ko_X3 : Cond.methodLink RX3 1 objectInit ∈ lw_good := gd_in 432 (by decide +kernel) rfl
theorem km_X2_38 : Cond.methodLink RX2 38 yX1_init ∈ lw_good := gd_in 86 (by decide +kernel) rfl
theorem km_L_9 : Cond.methodLink RL 9 yX2_init ∈ lw_good := gd_in 53 (by decide +kernel) rfl
theorem km_L_12 : Cond.methodLink RL 12 yX3_init ∈ lw_good := gd_in 429 (by decide +kernel) rfl
theorem kin_X0 : Cond.instanceMethod yX0_init ∈ lw_good := gd_in 63 (by decide +kernel) rfl
theorem kin_X1 : Cond.instanceMethod yX1_init ∈ lw_good := gd_in 87 (by decide +kernel) rfl
theorem kin_X2 : Cond.instanceMethod yX2_init ∈ lw_good := gd_in 54 (by decide +kernel) rfl
theorem kin_X3 : Cond.instanceMethod yX3_init ∈ lw_good := gd_in 430 (by decide +kernel) rfl
theorem ka_int : Cond.arrayClass .int ∈ lw_good := gd_in 102 (by decide +kernel) rfl
theorem ka_long : Cond.arrayClass .long ∈ lw_good := gd_in 146 (by decide +kernel) rfl
set_option maxRecDepth 20000 in
theorem kdi_X0 : Cond.code yX0_init cX0_init 1 none ∈ lw_good := gd_in 64 rfl rfl
set_option maxRecDepth 20000 in
theorem kdi_X1 : Cond.code yX1_init cX1_init 1 none ∈ lw_good := gd_in 88 rfl rfl
set_option maxRecDepth 20000 in
theorem kdi_X2 : Cond.code yX2_init cX2_init 2 none ∈ lw_good := gd_in 55 rfl rfl
set_option maxRecDepth 20000 in
theorem kdi_X3 : Cond.code yX3_init cX3_init 2 none ∈ lw_good := gd_in 431 rfl rfl
theorem arrV_same {cA : ClassId} {N : Nat} {f g : Nat → Value} (h : ∀ j, j < N → f j = g j) : arrV cA N f = arrV cA N g := by
  unfold arrV
  congr 2
  funext j
  exact h j.val j.isLt
theorem vq_same {cA : ClassId} {n : Nat} {f g : Nat → Option Nat} (h : ∀ j, j < n → f j = g j) : vp_cell cA (n, .inr (.inr (.inr (.inr f)))) = vp_cell cA (n, .inr (.inr (.inr (.inr g)))) := arrV_same (fun j hj => congrArg va_rf (h j hj))
section HDK
variable {p : Program} {l : Launch} {e : Env} {R : Room} {s : State} {m : MethodId} {args : Array Value} {below : List Frame} {meth : Method} {c : Code} {nL : Nat} {cells slots : Nat} {A : Nat → Prop} {D : va_G} {Q : State → Prop} {S : va_W} {pc : Nat} {lv : List (Nat × Value)} {st : List Value}
theorem hi_arr {S' : va_W} {a : Nat} {cA : ClassId} {x x' : vp_A} (q0 : Nat) (he : S[q0]? = some (a, .inl (cA, x))) (hx : vp_cell cA x = vp_cell cA x') (hS' : S.set q0 (a, .inl (cA, x')) = S') (k : XW p l e R s m args below meth c nL cells slots A D Q wI S' pc lv st) : XW p l e R s m args below meth c nL cells slots A D Q wI S pc lv st := by
  subst hS'
  exact fun H locs ls g1 g2 g3 hl => k H locs ls (va_P.set g1 g2 he (show H[a]? = some (vp_cell cA x') from hx ▸ g1 q0 _ he) (fun _ _ => rfl)) (va_D.set g2 he) g3 hl
end HDK
def adr (xs : List Nat) : Nat → Nat := fun i => xs.getD i 0
theorem df_X0 : ∀ j, j < 4 → defaultValue (tyX0 j) = vp_V [.int (nI 0), .int (nI 0), .int (nI 0), .int (nI 0)] j := fun j hj => by rcases (show j = 0 ∨ j = 1 ∨ j = 2 ∨ j = 3 by omega) with rfl | rfl | rfl | rfl <;> rfl
theorem df_X1 : ∀ j, j < 3 → defaultValue (tyX1 j) = vp_V [.null, .int (nI 0), .int (nI 0)] j := fun j hj => by rcases (show j = 0 ∨ j = 1 ∨ j = 2 by omega) with rfl | rfl | rfl <;> rfl
theorem i_X0 {l : Launch} {D : va_G} {tys : List (ClassId × FieldType)} {b : Nat} {fs : List Value} : ctN l D tys (fun _ => True) yX0_init cX0_init 1 (rmC 1 20 0 0) b (.inr (0, fs)) (fun u => u = [(b, .inr (0, fs))]) := by
  refine ctN_of (by decide +kernel) rfl (Nat.le_of_ble_eq_true rfl) (fun p e s m args below meth c A C hmn hK hx hA => ?_)
  refine hd_aload_n 1 C dX0_init_0 rfl 0 rfl rfl ?_
  refine hi_obj 4 C dX0_init_1 rfl ko_X0 ⟨Nat.le_of_ble_eq_true rfl, Nat.le_of_ble_eq_true rfl⟩ (Nat.le_of_ble_eq_true rfl) ?_
  exact hd_vret C hK dX0_init_4 rfl
theorem i_X1 {l : Launch} {D : va_G} {cI cJ cD cS : ClassId} {b : Nat} : ctN l D (ty4 cI cJ cD cS) (fun _ => True) yX1_init cX1_init 1 (rmC 1 20 1 60) b (.inr (1, [.null, .int (nI 0), .int (nI 0)])) (fun u => ∃ q : Nat, u = [(b, .inr (1, [.ref q, .int (nI 0), .int (-1)])), (q, .inl (cI, 60, .inl (fun _ => nI 0)))]) := by
  refine ctN_of (by decide +kernel) rfl (Nat.le_of_ble_eq_true rfl) (fun p e s m args below meth c A C hmn hK hx hA => ?_)
  refine hd_aload_n 1 C dX1_init_0 rfl 0 rfl rfl ?_
  refine hi_obj 4 C dX1_init_1 rfl ko_X1 ⟨Nat.le_of_ble_eq_true rfl, Nat.le_of_ble_eq_true rfl⟩ (Nat.le_of_ble_eq_true rfl) ?_
  refine hd_aload_n 5 C dX1_init_4 rfl 0 rfl rfl ?_
  refine hd_bipush 7 C dX1_init_5 rfl (nI 60) (by decide) ?_
  refine hi_newa (cells' := 1) (slots' := 60) (cA := cI) 9 C hK hA dX1_init_7 rfl 0 rfl rfl ka_int 60 (60, .inl (fun _ => nI 0)) (fun _ => rfl) (by decide) (by decide) (by decide) rfl rfl ⟨Nat.le_of_ble_eq_true rfl, Nat.le_of_ble_eq_true rfl⟩ (fun q1 => ?_)
  refine hd_eqS (S' := [(b, .inr (1, [.null, .int (nI 0), .int (nI 0)])), (q1, .inl (cI, 60, .inl (fun _ => nI 0)))]) rfl ?_
  refine hi_putF (S' := [(b, .inr (1, [.ref q1, .int (nI 0), .int (nI 0)])), (q1, .inl (cI, 60, .inl (fun _ => nI 0)))]) (ci := 1) (ty := tyX1 0) 12 C hmn hK dX1_init_9 rfl 0 rfl rfl inX1 tyX1_ok nmX1 0 (by decide) kf_X1_9 rfl rfl rfl (by decide +kernel) rfl rfl (Nat.le_of_ble_eq_true rfl) rfl ?_
  refine hd_aload_n 13 C dX1_init_12 rfl 0 rfl rfl ?_
  refine hd_iconst 14 C dX1_init_13 rfl (-1) (by decide) ?_
  refine hd_put (w := wI) (S' := [(b, .inr (1, [.ref q1, .int (nI 0), .int (-1)])), (q1, .inl (cI, 60, .inl (fun _ => nI 0)))]) (ci := 1) (ty := tyX1 2) 17 C hK dX1_init_14 rfl 0 rfl rfl inX1 tyX1_ok nmX1 2 (by decide) kf_X1_15 rfl rfl (by decide +kernel) rfl rfl (Nat.le_of_ble_eq_true rfl) rfl ?_
  exact hd_vret C hK dX1_init_17 ⟨_, rfl⟩

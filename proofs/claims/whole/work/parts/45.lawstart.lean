/-! THE CLAIM OUT OF ONE WALK OF THE LAW'S BODY. Your part is whole_start (and what it stands on); all else here is the same for every law, but numbers. -/
def R_law : String := "HourDoorsLaw"
def lw_P (b : Addr) (xs : List Int32) (args : Array Value) (s : State) : Prop := args = #[.ref b] ∧ s.IntsAt b xs ∧ xs.length ≤ 512 ∧ (Jvm.Cond.and given_1 narrow_1).before args s = true
def lw_Q (_ : Array Value) (s : State) (o : Outcome) (t : State) : Prop := o = .returned (some (.int 1)) ∧ Framed s o t [] 600000 7302250
def lw_Z (below : List Frame) (a : Array Value) (s : State) : State → Prop := fun t => ∃ o, t.status = .running ∧ Ended t below o ∧ lw_Q a s o t
/-- the law's own end, with 1 on the stack, nothing written that was there before, its room as the claim has it -/
theorem lw_ret {p : Program} {l : Launch} {e : Env} {s : State} {m : MethodId} {below : List Frame} {meth : Method} {c : Code} {b : Nat} (hx : p.tables.exec = Jvm.exec) (hb : c.code = code) (hr : meth.sig.returnType = ret) (hlocks : meth.locks = false) {pc : Nat} {H : Heap} {ls : Array Slot} (hdg : decode code pc = .ok (.ireturn, 1)) : W p l e room_1 s m #[Value.ref b] below meth c H [] 600000 7302250 (lw_Z below #[Value.ref b] s) (F0 m pc ls [.int 1]) := by
  intro T hT X
  obtain ⟨fs, hret, hrun, hended, hW, hframe⟩ := X.leave (v := some (.int 1)) (hlocks := hlocks) (fun h => by rw [hr] at h; cases h)
  have hmeth' : T.vm.method? m = some meth := X.method'
  refine ⟨T.setFrames fs, ?_, .returned (some (.int 1)), hrun, hended, rfl, ⟨_, rfl⟩, hW, hframe⟩
  jvm_step X.here [X.here.top, hx, hb, hdg, hmeth', hr, ret, narrow_b1]
  (try refine ⟨rfl, ?_⟩); (try refine ⟨rfl, ?_⟩)
  first | (intro acts; rw [hret _ acts rfl rfl rfl]) | rw [hret _ _ rfl rfl rfl]
  exact Steps.refl _
/-- what holds at the law's entry: the machine, the code, the tables' words (any of lw_tbl by 'hts w (by decide +kernel)'), the script of L ints xs at the cell b, what the Statement gives of the start (any of its parts by flat_of_before) -/
def lw_At (p : Program) (s : State) (m : MethodId) (meth : Method) (c : Code) (b L : Nat) (xs : Nat → Int32) : Prop :=
  p.tables.exec = Jvm.exec ∧ c.code = code ∧ meth.sig.returnType = ret ∧ c.maxLocals = 4 ∧ s.vm.findClass R_law = some m.cls ∧ (∀ w ∈ lw_tbl, w.before #[Value.ref b] s = true) ∧ va_X b L xs s s.heap ∧ b < s.heap.size ∧ meth.locks = false ∧ (Jvm.Cond.and given_1 narrow_1).before #[Value.ref b] s = true
theorem arr_c {s : State} {args : Array Value} {ty : FieldType} (hob : ∀ C, ¬ ty = .object C) (h : (Cond.arrayClass ty).before args s = true) : ∃ cA : ClassId, ArrOfT s cA ty ∧ va_RA s cA ty := by
  obtain ⟨cA, kA, comp, h1, h2, h3⟩ := Cond.arrayClass_spec h
  refine ⟨cA, fun n z => ⟨fun k h => (by cases h), kA, h2, comp, h3⟩, ?_⟩
  cases ty with
  | object C => exact absurd rfl (hob C)
  | _ => exact h1
theorem arr_o {s : State} {args : Array Value} {C : String} (h : (Cond.arrayOver (.object C)).before args s = true) : ∃ cA : ClassId, ArrOfT s cA (.object C) ∧ va_RA s cA (.object C) := by
  obtain ⟨comp, cA, kA, h1, h2, h3, h4, h5⟩ := Cond.arrayOver_spec h
  exact ⟨cA, fun n z => ⟨fun k h => (by cases h), kA, h3, comp, h4⟩, kA, comp, h3, h4, h1, h5⟩
theorem st_0 {s : State} {args : Array Value} {A : Nat → Prop} (hl : (Cond.laysStatic RX2 "SETS_WITH" "[J").before args s = true) (hini : (Cond.initialized RX2).before args s = true) (h : (Jvm.Cond.and given_1 narrow_1).before args s = true) (hA : ∀ a : Nat, a < s.heap.size → ¬ A a) : ∃ tt : Nat, zS (some tt) A s s.heap := by
  have hs := flat_of_before _ h
  have e0 := va_eqtl (t := .elem (.static "HourDoors" "SETS_WITH" "[J") (.int 0)) (z := -6148914691236517206) (hs _ (by decide +kernel))
  have e1 := va_eqtl (t := .elem (.static "HourDoors" "SETS_WITH" "[J") (.int 1)) (z := -3689348814741910324) (hs _ (by decide +kernel))
  have e2 := va_eqtl (t := .elem (.static "HourDoors" "SETS_WITH" "[J") (.int 2)) (z := -1085102592571150096) (hs _ (by decide +kernel))
  have e3 := va_eqtl (t := .elem (.static "HourDoors" "SETS_WITH" "[J") (.int 3)) (z := -71777214294589696) (hs _ (by decide +kernel))
  have e4 := va_eqtl (t := .elem (.static "HourDoors" "SETS_WITH" "[J") (.int 4)) (z := -281470681808896) (hs _ (by decide +kernel))
  have e5 := va_eqtl (t := .elem (.static "HourDoors" "SETS_WITH" "[J") (.int 5)) (z := -4294967296) (hs _ (by decide +kernel))
  have hlen := va_eqt (t := .length (.static "HourDoors" "SETS_WITH" "[J")) (z := 6) (hs _ (by decide +kernel))
  have harr : (Cond.arrayOf (.static "HourDoors" "SETS_WITH" "[J") .long).before args s = true := hs _ (by decide +kernel)
  obtain ⟨tt, ht, hT⟩ := va_Tof (N := 6) (f := fun j => .long (tSW j)) (A := A) (by decide) harr hlen (fun j hj => by
    rcases (show j = 0 ∨ j = 1 ∨ j = 2 ∨ j = 3 ∨ j = 4 ∨ j = 5 by omega) with rfl | rfl | rfl | rfl | rfl | rfl
    · exact e0
    · exact e1
    · exact e2
    · exact e3
    · exact e4
    · exact e5) hA
  exact ⟨tt, va_Zof hl hini ht hA, hT⟩
theorem tb_in {x : Cond} (i : Nat) (h : lw_tbl[i]? = some x) : x ∈ lw_tbl := List.mem_of_getElem? h
theorem ex_blind (a : Array Value) (U : State) (g : JFrame) (mk : MethodId) (h : exX U) : exX (U.calling g mk a) := ⟨va_AO.moved (u := U) (U := U.calling g mk a) (Vm.Alike.refl U.vm) h.1, va_AO.moved (u := U) (U := U.calling g mk a) (Vm.Alike.refl U.vm) h.2.1, va_Nw.same (u := U) (U := U.calling g mk a) rfl rfl h.2.2⟩
set_option maxHeartbeats 4000000 in
set_option maxRecDepth 100000 in
theorem whole_start {p : Program} {e : Env} {s : State} {m : MethodId} {below : List Frame} {meth : Method} {c : Code} (l : Launch) {b L : Nat} {xs : Nat → Int32} (hL : L ≤ 512) (C0 : lw_At p s m meth c b L xs) : W p l e room_1 s m #[Value.ref b] below meth c s.heap [] 0 0 (lw_Z below #[Value.ref b] s) (entryFrame m ([Value.ref b] : List Value).toArray 4) := by
  obtain ⟨hx, hb, hr, hml, hown, hts, hX, hbl, hlocks, hgv⟩ := id C0
  have hgd : ∀ w ∈ lw_good, w.before #[Value.ref b] s = true := fun w h => hts w (List.mem_filter.mp h).1
  have C : xC p s m #[Value.ref b] meth c RL cL_law 4 ret := ⟨hx, hb, hml, hown, hgd, hr, hlocks⟩
  have hA : ∀ q : Nat, s.heap.size ≤ q → (fun q : Nat => s.heap.size ≤ q) q := fun _ h => h
  have hbA : ¬ (fun q : Nat => s.heap.size ≤ q) b := Nat.not_le.mpr hbl
  obtain ⟨c0, iS0, hKn0⟩ := u_known (C := RX0) (T := TX0) (N := 4) (n := 4) hgd inX0 (hgd _ ks_X0)
  obtain ⟨c1, iS1, hKn1⟩ := u_known (C := RX1) (T := TX1) (N := 3) (n := 3) hgd inX1 (hgd _ ks_X1)
  obtain ⟨c2, iS2, hKn2⟩ := u_known (C := RX2) (T := TX2) (N := 14) (n := 14) hgd inX2 (hgd _ ks_X2)
  obtain ⟨c3, iS3, hKn3⟩ := u_known (C := RX3) (T := TX3) (N := 30) (n := 30) hgd inX3 (hgd _ ks_X3)
  obtain ⟨dC, dI, hKc⟩ : ∃ (dC : Nat → ClassId) (dI : Nat → Nat → Nat), ∀ (k : Nat) (q : vw_C), vwCl[k]? = some q → u_Kn s q.1 q.2.1 q.2.2 (dC k) (dI k) := by
    refine ⟨fun k => match k with | 0 => c0 | 1 => c1 | 2 => c2 | _ => c3, fun k => match k with | 0 => iS0 | 1 => iS1 | 2 => iS2 | _ => iS3, ?_⟩
    intro k q hq
    match k, hq with
    | 0, hq => cases hq; exact hKn0
    | 1, hq => cases hq; exact hKn1
    | 2, hq => cases hq; exact hKn2
    | 3, hq => cases hq; exact hKn3
    | k + 4, hq => simp [vwCl] at hq
  have ao0 : (Cond.arrayOver (.object RX0)).before #[Value.ref b] s = true := hts _ (tb_in 60 (by decide +kernel))
  have ao1 : (Cond.arrayOver (.object RX1)).before #[Value.ref b] s = true := hts _ (tb_in 84 (by decide +kernel))
  have nst : (Cond.methodLinkNest RX2 17 yX0_init RX2).before #[Value.ref b] s = true := hts _ (tb_in 62 (by decide +kernel))
  have hls : (Cond.laysStatic RX2 "SETS_WITH" "[J").before #[Value.ref b] s = true := hts _ (tb_in 281 (by decide +kernel))
  obtain ⟨cI, hI1, hI2⟩ := arr_c (ty := .int) (fun _ h => by cases h) (hgd _ ka_int)
  obtain ⟨cJ, hJ1, hJ2⟩ := arr_c (ty := .long) (fun _ h => by cases h) (hgd _ ka_long)
  obtain ⟨cD, hD1, hD2⟩ := arr_o ao0
  obtain ⟨cS, hS1, hS2⟩ := arr_o ao1
  have hK : va_K (dC, dI) vwCl (ty4 cI cJ cD cS) s := by
    refine ⟨hKc, fun k q hq => ?_⟩
    match k, hq with
    | 0, hq => cases hq; exact ⟨hI1, hI2⟩
    | 1, hq => cases hq; exact ⟨hJ1, hJ2⟩
    | 2, hq => cases hq; exact ⟨hD1, hD2⟩
    | 3, hq => cases hq; exact ⟨hS1, hS2⟩
    | k + 4, hq => simp at hq
  have hex : ∀ U : State, s.WarmedH U.vm → exX U := fun U hW => ⟨va_AO.moved hW.alike (va_AO.of ao0), va_AO.moved hW.alike (va_AO.of ao1), va_Nw.warmM hW (va_Nw.of rfl nst)⟩
  obtain ⟨tt, hZ⟩ := st_0 (A := fun q : Nat => s.heap.size ≤ q) hls (hgd _ ki_X2) hgv (fun a h => Nat.not_le.mpr h)
  have hC : lwC p s m #[Value.ref b] meth c (fun q : Nat => s.heap.size ≤ q) (dC, dI) cI cJ cD cS tt b L xs 44 929 := ⟨C, hK, hZ, hA, hX, hbl, hbA, hL, ⟨Nat.le_of_ble_eq_true rfl, Nat.le_of_ble_eq_true rfl⟩⟩
  have main : XW p l e room_1 s m #[Value.ref b] below meth c 4 0 0 (fun q : Nat => s.heap.size ≤ q) (dC, dI) (lw_Z below #[Value.ref b] s) wI [] 0 [(0, .ref b)] [] := by
    refine hi_new (cells' := 1) (slots' := 14) (ci := 2) 3 C hK hA dL_law_0 rfl inX2 tyX2_ok kn_L_7 ks_X2 ki_X2 rfl f0X df_X2 rfl rfl ⟨Nat.le_of_ble_eq_true rfl, Nat.le_of_ble_eq_true rfl⟩ (fun q1 => ?_)
    refine hd_dup 4 C dL_law_3 rfl rfl ?_
    refine hi_callI (cells' := 26) (slots' := 375) 7 C hK hA dL_law_4 rfl (i_X2 (b := q1)) kdi_X2 ki_X2 kin_X2 ⟨by decide +kernel, by decide +kernel, by decide +kernel⟩ km_L_9 rfl ⟨Nat.le_of_ble_eq_true rfl, Nat.le_of_ble_eq_true rfl⟩ hex ex_blind rfl rfl ⟨Nat.le_of_ble_eq_true rfl, Nat.le_of_ble_eq_true rfl⟩ (Nat.le_of_ble_eq_true rfl) [] rfl (fun u hu => ?_)
    obtain ⟨a, ha, rfl⟩ := hu
    subst ha
    refine hd_astore_n 8 C dL_law_7 rfl [(1, .ref (a 0)), (0, .ref b)] rfl (by decide) rfl ?_
    refine hi_new (cells' := 27) (slots' := 405) (ci := 3) 11 C hK hA dL_law_8 rfl inX3 tyX3_ok kn_L_10 ks_X3 ki_X3 rfl f0M df_X3 rfl rfl ⟨Nat.le_of_ble_eq_true rfl, Nat.le_of_ble_eq_true rfl⟩ (fun q2 => ?_)
    refine hd_dup 12 C dL_law_11 rfl rfl ?_
    refine hi_callI (cells' := 44) (slots' := 929) 15 C hK hA dL_law_12 rfl (i_X3 (b := q2)) kdi_X3 ki_X3 kin_X3 ⟨by decide +kernel, by decide +kernel, by decide +kernel⟩ km_L_12 rfl ⟨Nat.le_of_ble_eq_true rfl, Nat.le_of_ble_eq_true rfl⟩ (fun _ _ => trivial) (fun _ _ _ _ _ => trivial) rfl rfl ⟨Nat.le_of_ble_eq_true rfl, Nat.le_of_ble_eq_true rfl⟩ (Nat.le_of_ble_eq_true rfl) ([] ++ wX cI cJ cD cS a s0X) rfl (fun u hu => ?_)
    obtain ⟨a', ha', rfl⟩ := hu
    subst ha'
    refine hd_astore_n 16 C dL_law_15 rfl [(2, .ref (a' 0)), (1, .ref (a 0)), (0, .ref b)] rfl (by decide) rfl ?_
    refine hd_iconst 17 C dL_law_16 rfl (nI 0) (by decide) ?_
    refine hd_istore_n 18 C dL_law_17 rfl (lvL 0 a a' b) rfl (by decide) rfl ?_
    have hend : ∀ (u : sT × sT) (lv : List (Nat × Value)), XW p l e room_1 s m #[Value.ref b] below meth c 4 44 929 (fun q : Nat => s.heap.size ≤ q) (dC, dI) (lw_Z below #[Value.ref b] s) (wP (wX cI cJ cD cS a) (wM cI a')) u 1176 lv [] := by
      intro u lv
      refine hd_iconst 1177 C dL_law_1176 rfl 1 (by decide) ?_
      intro H locs ls h1 h2 h3 hl
      exact va_forget (fun q hq => h3.2.2 q hq) (W.widen (k := 600000) (n := 7302250) (Nat.le_of_ble_eq_true rfl) (Nat.le_of_ble_eq_true rfl) (lw_ret hx hb hr hlocks dL_law_1177))
    intro H locs ls h1 h2 h3 hl
    exact lw_loop hC hend (L + 8) 0 (s0X, s0M) (by omega) (by omega) good0 H locs ls h1 h2 h3 hl
  have hl := lv_entry ([.ref b]) (n := 4) (Nat.le_of_ble_eq_true rfl)
  rw [lg_entry_eq]
  exact main s.heap [] _ (fun k q h => by simp at h) ⟨fun i j p q h => by simp at h, fun k q h => by simp at h⟩ va_S.rf hl

set_option maxHeartbeats 4000000 in
set_option maxRecDepth 100000 in
theorem x_setsWithAll {l : Launch} {D : va_G} {tys : List (ClassId × FieldType)} {σ : Type} {w : σ → va_W} {S : σ} {tt : Nat} (st : Nat) (hst : st < 64)  : ctL l D tys (some tt) w yX2_setsWithAll cX2_setsWithAll 4 (some .long) (rmk 1 21) [.int (nI st)] S (fun (r : Int64) (u : σ) => u = S ∧ ∀ s, s < 64 → (lb r s = true ↔ subS st s)) := by
  refine ctL_of [(0, .int (nI st))] (by decide) (Nat.le_of_ble_eq_true rfl) rfl ?_
  intro p e s m args below meth c A C hK hZ hA
  refine hd_ldc2 3 C dX2_setsWithAll_0 rfl kl_X2_238 ?_
  refine hd_lstore_n 4 C dX2_setsWithAll_3 rfl [(1, .long (-1)), (0, .int (nI st))] rfl (by decide) rfl ?_
  refine hd_iconst 5 C dX2_setsWithAll_4 rfl (nI 0) (by decide) ?_
  refine hd_istore_n 6 C dX2_setsWithAll_5 rfl [(3, .int (nI 0)), (1, .long (-1)), (0, .int (nI st))] rfl (by decide) rfl ?_
  have L : ∀ (fuel : Nat) (q : Nat) (x1 : Int64) (hq : q ≤ 6) (hV : ∀ s, s < 64 → (lb x1 s = true ↔ sub6 st q s)), 6 - q < fuel → XW p l e (rmk 1 21) s m args below meth c 4 0 0 A D (MQ below (va_Ql (fun (r : Int64) (u : σ) => u = S ∧ ∀ s, s < 64 → (lb r s = true ↔ subS st s)) (cB D tys w A) A) args s 0 0 A) w S 6 [(0, .int (nI st)), (1, .long x1), (3, .int (nI q))] [] := by
    intro fuel
    induction fuel with
    | zero => intro q x1 hq hV hfu; exact absurd hfu (Nat.not_lt_zero _)
    | succ fuel ih_L =>
      intro q x1 hq hV hfu_L
      refine hd_iload_n 7 C dX2_setsWithAll_6 rfl 2 rfl rfl ?_
      refine hd_bipush 9 C dX2_setsWithAll_7 rfl (nI 6) (by decide) ?_
      refine hd_icmp_geN 12 34 C dX2_setsWithAll_9 rfl (by decide) (by omega) (by omega) (fun h9 => ?_) (fun h9 => ?_)
      · skip
        refine hd_lload_n 35 C dX2_setsWithAll_34 rfl 1 rfl rfl ?_
        have e9 : q = 6 := by omega
        subst e9
        exact hd_lret C hK dX2_setsWithAll_35 ⟨rfl, fun s hs => (hV s hs).trans (sub6_end hst)⟩
      · skip
        refine hd_iload_n 13 C dX2_setsWithAll_12 rfl 0 rfl rfl ?_
        refine hd_iload_n 14 C dX2_setsWithAll_13 rfl 2 rfl rfl ?_
        refine hd_callSI (rest := []) 17 C hK hZ hA ⟨Nat.zero_le _, Nat.zero_le _⟩ dX2_setsWithAll_14 rfl kc_X2_208 (x_has st q (by omega) (by omega)) ⟨rfl, rfl⟩ ⟨by decide, by decide⟩ rfl rfl (Nat.le_of_ble_eq_true rfl) (fun r14 u14 h14 => ?_)
        obtain ⟨rfl, rfl⟩ := h14
        refine hd_if_eqB 20 28 C dX2_setsWithAll_17 rfl (by decide) (fun h17 => ?_) (fun h17 => ?_)
        · skip
          refine hd_iinc 31 C dX2_setsWithAll_28 rfl 2 (nI (q + 1)) [(3, .int (nI (q + 1))), (0, .int (nI st)), (1, .long x1)] rfl (nI_add _ _) (by decide) rfl ?_
          refine hd_goto 6 C dX2_setsWithAll_31 (by decide) ?_
          refine hd_sub [(0, .int (nI st)), (1, .long x1), (3, .int (nI (q + 1)))] [1, 2, 0] rfl ?_
          exact ih_L (q + 1) x1 (by omega) (fun s hs => by rw [hV s hs, sub6_f h17]) (by omega)
        · skip
          refine hd_lload_n 21 C dX2_setsWithAll_20 rfl 1 rfl rfl ?_
          refine hd_getsw 24 C hZ dX2_setsWithAll_21 rfl kf_X2_240 ?_
          refine hd_iload_n 25 C dX2_setsWithAll_24 rfl 2 rfl rfl ?_
          refine hd_ldsw 26 C hZ dX2_setsWithAll_25 rfl (vp_in_nI (by omega) (by decide)) (tSW q) (by rw [nI_clamp (by omega)]) ?_
          refine hd_land 27 C dX2_setsWithAll_26 rfl (x1 &&& (tSW q)) rfl ?_
          refine hd_lstore_n 28 C dX2_setsWithAll_27 rfl [(1, .long (x1 &&& (tSW q))), (0, .int (nI st)), (3, .int (nI q))] rfl (by decide) rfl ?_
          refine hd_iinc 31 C dX2_setsWithAll_28 rfl 2 (nI (q + 1)) [(3, .int (nI (q + 1))), (1, .long (x1 &&& (tSW q))), (0, .int (nI st))] rfl (nI_add _ _) (by decide) rfl ?_
          refine hd_goto 6 C dX2_setsWithAll_31 (by decide) ?_
          refine hd_sub [(0, .int (nI st)), (1, .long (x1 &&& (tSW q))), (3, .int (nI (q + 1)))] [2, 1, 0] rfl ?_
          exact ih_L (q + 1) _ (by omega) (fun s hs => by rw [lb_and, Bool.and_eq_true_iff, hV s hs, tSW_bit q (by omega) s hs, sub6_t h17]) (by omega)
  refine hd_sub [(0, .int (nI st)), (1, .long (-1)), (3, .int (nI 0))] [2, 1, 0] rfl ?_
  exact L 7 0 _ (Nat.zero_le _) (fun s hs => ⟨fun _ r hr => absurd hr (Nat.not_lt_zero r), fun _ => lb_m1 hs⟩) (by omega)

set_option maxHeartbeats 4000000 in
set_option maxRecDepth 100000 in
theorem x_eachWith {l : Launch} {D : va_G} {tys : List (ClassId × FieldType)} {σ : Type} {w : σ → va_W} {S : σ} {tt : Nat} (x : Int64) (rm : Nat) (hrm : rm < 6)  : ctL l D tys (some tt) w yX2_eachWith cX2_eachWith 7 (some .long) (rmk 0 0) [.long x, .int (nI rm)] S (fun (r : Int64) (u : σ) => u = S ∧ r = ewV x rm) := by
  refine ctL_of [(0, .long x), (2, .int (nI rm))] (by decide) (Nat.le_of_ble_eq_true rfl) rfl ?_
  intro p e s m args below meth c A C hK hZ hA
  refine hd_lload_n 1 C dX2_eachWith_0 rfl 0 rfl rfl ?_
  refine hd_getsw 4 C hZ dX2_eachWith_1 rfl kf_X2_240 ?_
  refine hd_iload_n 5 C dX2_eachWith_4 rfl 1 rfl rfl ?_
  refine hd_ldsw 6 C hZ dX2_eachWith_5 rfl (vp_in_nI (by omega) (by decide)) (tSW rm) (by rw [nI_clamp (by omega)]) ?_
  refine hd_land 7 C dX2_eachWith_6 rfl (x &&& (tSW rm)) rfl ?_
  refine hd_lstore_n 8 C dX2_eachWith_7 rfl [(3, .long (x &&& (tSW rm))), (0, .long x), (2, .int (nI rm))] rfl (by decide) rfl ?_
  refine hd_lload_n 9 C dX2_eachWith_8 rfl 1 rfl rfl ?_
  refine hd_getsw 12 C hZ dX2_eachWith_9 rfl kf_X2_240 ?_
  refine hd_iload_n 13 C dX2_eachWith_12 rfl 2 rfl rfl ?_
  refine hd_ldsw 14 C hZ dX2_eachWith_13 rfl (vp_in_nI (by omega) (by decide)) (tSW rm) (by rw [nI_clamp (by omega)]) ?_
  refine hd_ldc2 17 C dX2_eachWith_14 rfl kl_X2_238 ?_
  refine hd_lxor 18 C dX2_eachWith_17 rfl ((tSW rm) ^^^ (-1)) rfl ?_
  refine hd_land 19 C dX2_eachWith_18 rfl (x &&& ((tSW rm) ^^^ (-1))) rfl ?_
  refine hd_lstore 21 C dX2_eachWith_19 rfl [(5, .long (x &&& ((tSW rm) ^^^ (-1)))), (3, .long (x &&& (tSW rm))), (0, .long x), (2, .int (nI rm))] (by decide) rfl ?_
  refine hd_lload_n 22 C dX2_eachWith_21 rfl 1 rfl rfl ?_
  refine hd_lload 24 C dX2_eachWith_22 rfl 0 rfl ?_
  refine hd_iconst 25 C dX2_eachWith_24 rfl (nI 1) (by decide) ?_
  refine hd_iload_n 26 C dX2_eachWith_25 rfl 3 rfl rfl ?_
  refine hd_ishl 27 C dX2_eachWith_26 rfl (nI (2 ^ rm)) (nI_shl1 (by omega)) ?_
  refine hd_lshl 28 C dX2_eachWith_27 rfl ((x &&& ((tSW rm) ^^^ (-1))) <<< ((nI (2 ^ rm)).toInt64 &&& 63)) rfl ?_
  refine hd_lor 29 C dX2_eachWith_28 rfl ((x &&& (tSW rm)) ||| ((x &&& ((tSW rm) ^^^ (-1))) <<< ((nI (2 ^ rm)).toInt64 &&& 63))) rfl ?_
  exact hd_lret C hK dX2_eachWith_29 ⟨rfl, rfl⟩

set_option maxHeartbeats 4000000 in
set_option maxRecDepth 100000 in
theorem x_anySeen {l : Launch} {D : va_G} {cI cJ cD cS : ClassId} {a : Nat → Nat} {N : Nat → Nat → Nat} {Z : Nat → Nat → Int32} {E : Nat → Nat → Int32} {G : Nat → Nat → Int64} {T : Nat → Nat} {t : Option Nat} (x : Int64) (st : Nat) (P : Nat → Nat → Prop) (hx : ∀ s, s < 64 → (lb x s = true ↔ subS st s)) (hG : RG (G 0) P) (hP : ∀ s r, P s r → r < 6)  : ctI l D (ty4 cI cJ cD cS) t (wX cI cJ cD cS a) yX2_anySeen cX2_anySeen 4 (some .boolean) (rmk 0 0) [.ref (a 0), .long x] (N, Z, E, G, T) (fun (r : Int32) (u : sT) => u = (N, Z, E, G, T) ∧ ∃ b : Bool, (b = true ↔ hvP P st) ∧ r = bI b) := by
  refine ctI_of [(0, .ref (a 0)), (1, .long x)] (by decide) (Nat.le_of_ble_eq_true rfl) rfl ?_
  intro p e s m args below meth c A C hK hZ hA
  refine hd_iconst 1 C dX2_anySeen_0 rfl (nI 0) (by decide) ?_
  refine hd_istore_n 2 C dX2_anySeen_1 rfl [(3, .int (nI 0)), (0, .ref (a 0)), (1, .long x)] rfl (by decide) rfl ?_
  have L : ∀ (fuel : Nat) (q : Nat) (hq : q ≤ 6) (hno : ∀ r, r < q → ¬ ∃ s, s < 64 ∧ P s r ∧ subS st s), 6 - q < fuel → XW p l e (rmk 0 0) s m args below meth c 4 0 0 A D (MQ below (va_Qi (fun (r : Int32) (u : sT) => u = (N, Z, E, G, T) ∧ ∃ b : Bool, (b = true ↔ hvP P st) ∧ r = bI b) (cB D (ty4 cI cJ cD cS) (wX cI cJ cD cS a) A) A) args s 0 0 A) (wX cI cJ cD cS a) (N, Z, E, G, T) 2 [(0, .ref (a 0)), (1, .long x), (3, .int (nI q))] [] := by
    intro fuel
    induction fuel with
    | zero => intro q hq hno hfu; exact absurd hfu (Nat.not_lt_zero _)
    | succ fuel ih_L =>
      intro q hq hno hfu_L
      refine hd_iload_n 3 C dX2_anySeen_2 rfl 2 rfl rfl ?_
      refine hd_bipush 5 C dX2_anySeen_3 rfl (nI 6) (by decide) ?_
      refine hd_icmp_geN 8 29 C dX2_anySeen_5 rfl (by decide) (by omega) (by omega) (fun h5 => ?_) (fun h5 => ?_)
      · skip
        refine hd_iconst 30 C dX2_anySeen_29 rfl (nI 0) (by decide) ?_
        exact hd_zret C hK dX2_anySeen_30 (by decide) ⟨rfl, false, ⟨fun k => absurd k (by decide), fun ⟨s, k1, ⟨r, k2⟩, k3⟩ => absurd ⟨s, k1, k2, k3⟩ (hno r (by have := hP s r k2; omega))⟩, rfl⟩
      · skip
        refine hd_aload_n 9 C dX2_anySeen_8 rfl 0 rfl rfl ?_
        refine gx_seen 12 C hK dX2_anySeen_9 rfl ?_
        refine hd_iload_n 13 C dX2_anySeen_12 rfl 2 rfl rfl ?_
        refine alx_seen 14 C hK dX2_anySeen_13 rfl (by omega) (G 0 q) rfl ?_
        refine hd_lload_n 15 C dX2_anySeen_14 rfl 1 rfl rfl ?_
        refine hd_land 16 C dX2_anySeen_15 rfl ((G 0 q) &&& x) rfl ?_
        refine hd_lconst 17 C dX2_anySeen_16 rfl 0 (by decide) ?_
        refine hd_lc_eq 21 23 C dX2_anySeen_17 dX2_anySeen_18 rfl (by decide) (fun h17 => ?_) (fun h17 => ?_)
        · skip
          refine hd_iinc 26 C dX2_anySeen_23 rfl 2 (nI (q + 1)) [(3, .int (nI (q + 1))), (0, .ref (a 0)), (1, .long x)] rfl (nI_add _ _) (by decide) rfl ?_
          refine hd_goto 2 C dX2_anySeen_26 (by decide) ?_
          refine hd_sub [(0, .ref (a 0)), (1, .long x), (3, .int (nI (q + 1)))] [1, 2, 0] rfl ?_
          exact ih_L (q + 1) (by omega) (fun r hr => by by_cases e9 : r = q; rw [e9]; exact any_f hx hG (by omega) h17; exact hno r (by omega)) (by omega)
        · skip
          refine hd_iconst 22 C dX2_anySeen_21 rfl (nI 1) (by decide) ?_
          exact hd_zret C hK dX2_anySeen_22 (by decide) ⟨rfl, true, ⟨fun _ => any_t hx hG (by omega) h17, fun _ => rfl⟩, rfl⟩
  refine hd_sub [(0, .ref (a 0)), (1, .long x), (3, .int (nI 0))] [1, 2, 0] rfl ?_
  exact L 7 0 (Nat.zero_le _) (fun r hr => absurd hr (Nat.not_lt_zero r)) (by omega)

set_option maxHeartbeats 4000000 in
set_option maxRecDepth 100000 in
theorem x_seeAnHourOn {l : Launch} {D : va_G} {cI cJ cD cS : ClassId} {a : Nat → Nat} {N : Nat → Nat → Nat} {Z : Nat → Nat → Int32} {E : Nat → Nat → Int32} {G : Nat → Nat → Int64} {T : Nat → Nat} {tt : Nat} (h : Nat) (P : Nat → Nat → Prop) (hI : inv N) (hh : h < 12) (hG : RG (G 0) P)  : ctV l D (ty4 cI cJ cD cS) (some tt) (wX cI cJ cD cS a) yX2_seeAnHourOn cX2_seeAnHourOn 4 none (rmk 1 40) [.ref (a 0), .int (nI h)] (N, Z, E, G, T) (fun (u : sT) => ∃ g0 g1 : Nat → Int64, u = (N, Z, E, rG (rG G 1 g1) 0 g0, T) ∧ RG g0 (stp N h P)) := by
  refine ctV_of [(0, .ref (a 0)), (1, .int (nI h))] (by decide) (Nat.le_of_ble_eq_true rfl) rfl ?_
  intro p e s m args below meth c A C hK hZ hA
  have hR := hI.R
  have hDn := hI.D
  have hQn := hI.Q
  refine hd_aload_n 1 C dX2_seeAnHourOn_0 rfl 0 rfl rfl ?_
  refine gx_seen 4 C hK dX2_seeAnHourOn_1 rfl ?_
  refine hd_iconst 5 C dX2_seeAnHourOn_4 rfl (nI 0) (by decide) ?_
  refine hd_aload_n 6 C dX2_seeAnHourOn_5 rfl 0 rfl rfl ?_
  refine gx_seenNext 9 C hK dX2_seeAnHourOn_6 rfl ?_
  refine hd_iconst 10 C dX2_seeAnHourOn_9 rfl (nI 0) (by decide) ?_
  refine hd_bipush 12 C dX2_seeAnHourOn_10 rfl (nI 6) (by decide) ?_
  refine hd_copyl (S' := (N, Z, E, rG G 1 (va_cpy (G 0) (G 1) 0 0 6), T)) 15 C hK dX2_seeAnHourOn_12 rfl kacp_X2_175 kacp_nat kacp_st ki_J10 8 9 1 1 rfl rfl rfl rfl (nI_pos (by omega)) (nI_pos (by omega)) (nI_pos (by omega)) (by decide) (by decide) (by decide) (by decide) rfl ?_
  refine hd_iconst 16 C dX2_seeAnHourOn_15 rfl (nI 0) (by decide) ?_
  refine hd_istore_n 17 C dX2_seeAnHourOn_16 rfl [(2, .int (nI 0)), (0, .ref (a 0)), (1, .int (nI h))] rfl (by decide) rfl ?_
  have L : ∀ (fuel : Nat) (d : Nat) (g : Nat → Int64) (hd : d ≤ N 0 1) (hB : RG g (xO N h P d)), N 0 1 - d < fuel → XW p l e (rmk 1 40) s m args below meth c 4 0 0 A D (MQ below (va_Qv (fun (u : sT) => ∃ g0 g1 : Nat → Int64, u = (N, Z, E, rG (rG G 1 g1) 0 g0, T) ∧ RG g0 (stp N h P)) (cB D (ty4 cI cJ cD cS) (wX cI cJ cD cS a) A) A) args s 0 0 A) (wX cI cJ cD cS a) (N, Z, E, rG G 1 g, T) 17 [(0, .ref (a 0)), (1, .int (nI h)), (2, .int (nI d))] [] := by
    intro fuel
    induction fuel with
    | zero => intro d g hd hB hfu; exact absurd hfu (Nat.not_lt_zero _)
    | succ fuel ih_L =>
      intro d g hd hB hfu_L
      refine hd_iload_n 18 C dX2_seeAnHourOn_17 rfl 2 rfl rfl ?_
      refine hd_aload_n 19 C dX2_seeAnHourOn_18 rfl 0 rfl rfl ?_
      refine gx_doorCount 22 C hK dX2_seeAnHourOn_19 rfl (nI (N 0 1)) rfl ?_
      refine hd_icmp_geN 25 79 C dX2_seeAnHourOn_22 rfl (by decide) (by omega) (by omega) (fun h22 => ?_) (fun h22 => ?_)
      · skip
        refine hd_aload_n 80 C dX2_seeAnHourOn_79 rfl 0 rfl rfl ?_
        refine gx_seenNext 83 C hK dX2_seeAnHourOn_80 rfl ?_
        refine hd_iconst 84 C dX2_seeAnHourOn_83 rfl (nI 0) (by decide) ?_
        refine hd_aload_n 85 C dX2_seeAnHourOn_84 rfl 0 rfl rfl ?_
        refine gx_seen 88 C hK dX2_seeAnHourOn_85 rfl ?_
        refine hd_iconst 89 C dX2_seeAnHourOn_88 rfl (nI 0) (by decide) ?_
        refine hd_bipush 91 C dX2_seeAnHourOn_89 rfl (nI 6) (by decide) ?_
        refine hd_copyl (S' := (N, Z, E, rG (rG G 1 g) 0 (va_cpy g (G 0) 0 0 6), T)) 94 C hK dX2_seeAnHourOn_91 rfl kacp_X2_175 kacp_nat kacp_st ki_J10 9 8 1 1 rfl rfl rfl rfl (nI_pos (by omega)) (nI_pos (by omega)) (nI_pos (by omega)) (by decide) (by decide) (by decide) (by decide) rfl ?_
        have e9 : d = N 0 1 := by omega
        have hB2 : RG g (xO N h P (N 0 1)) := e9 ▸ hB
        exact hd_vret C hK dX2_seeAnHourOn_94 ⟨_, g, rfl, RG_eq (RG_congr hB2 (fun s r _ => xO_end hI)) (fun r hr => cpyL hr)⟩
      · skip
        refine hd_aload_n 26 C dX2_seeAnHourOn_25 rfl 0 rfl rfl ?_
        refine gx_doors 29 C hK dX2_seeAnHourOn_26 rfl ?_
        refine hd_iload_n 30 C dX2_seeAnHourOn_29 rfl 2 rfl rfl ?_
        refine alx_doors 31 C hK dX2_seeAnHourOn_30 rfl (by omega) ?_
        refine hd_iload_n 32 C dX2_seeAnHourOn_31 rfl 1 rfl rfl ?_
        refine hd_aload_n 33 C dX2_seeAnHourOn_32 rfl 0 rfl rfl ?_
        refine gx_rooms 36 C hK dX2_seeAnHourOn_33 rfl (nI (N 0 0)) rfl ?_
        refine hd_callVI (rest := []) 39 C hK hZ hA ⟨Nat.zero_le _, Nat.zero_le _⟩ dX2_seeAnHourOn_36 rfl kc_X2_100 (x_leadsTo d h hI (by omega) (by omega) (hI.pos h22)) ⟨rfl, rfl⟩ ⟨by decide, by decide⟩ (10 + d) 0 (wX_door _ (by omega)) rfl rfl rfl rfl (Nat.le_of_ble_eq_true rfl) (fun r36 u36 h36 => ?_)
        obtain ⟨rfl, rfl⟩ := h36
        rcases ho36 : ld N d h with _ | rv36
        · skip
          refine hd_istore_n 40 C dX2_seeAnHourOn_39 rfl [(3, .int (-9)), (0, .ref (a 0)), (1, .int (nI h)), (2, .int (nI d))] rfl (by decide) rfl ?_
          refine hd_iload_n 41 C dX2_seeAnHourOn_40 rfl 0 rfl rfl ?_
          refine hd_bipush 43 C dX2_seeAnHourOn_41 rfl (-9) (by decide) ?_
          refine hd_icmp_eq 46 73 C dX2_seeAnHourOn_43 rfl (by decide) (fun _ => ?_) (fun q => absurd (by decide) q)
          refine hd_iinc 76 C dX2_seeAnHourOn_73 rfl 3 (nI (d + 1)) [(2, .int (nI (d + 1))), (3, .int (-9)), (0, .ref (a 0)), (1, .int (nI h))] rfl (nI_add _ _) (by decide) rfl ?_
          refine hd_goto 17 C dX2_seeAnHourOn_76 (by decide) ?_
          refine hd_sub [(0, .ref (a 0)), (1, .int (nI h)), (2, .int (nI (d + 1)))] [2, 3, 0] rfl ?_
          exact ih_L (d + 1) g (by omega) (RG_congr hB (fun s r _ => xO_f ho36)) (by omega)
        · skip
          have hbrv36 := ld_lt hI (by omega) _ ho36
          refine hd_istore_n 40 C dX2_seeAnHourOn_39 rfl [(3, .int (nI rv36)), (0, .ref (a 0)), (1, .int (nI h)), (2, .int (nI d))] rfl (by decide) rfl ?_
          refine hd_iload_n 41 C dX2_seeAnHourOn_40 rfl 0 rfl rfl ?_
          refine hd_bipush 43 C dX2_seeAnHourOn_41 rfl (-9) (by decide) ?_
          refine hd_icmp_eq 46 73 C dX2_seeAnHourOn_43 rfl (by decide) (fun q => absurd q (nI_ne9 (by omega))) (fun _ => ?_)
          have hrd := (hI.door d).2.1
          refine hd_aload_n 47 C dX2_seeAnHourOn_46 rfl 1 rfl rfl ?_
          refine gx_seenNext 50 C hK dX2_seeAnHourOn_47 rfl ?_
          refine hd_iload_n 51 C dX2_seeAnHourOn_50 rfl 0 rfl rfl ?_
          refine hd_dup2 52 C dX2_seeAnHourOn_51 rfl rfl rfl ?_
          refine alx_seenNext 53 C hK dX2_seeAnHourOn_52 rfl (by omega) (g rv36) rfl ?_
          refine hd_aload_n 54 C dX2_seeAnHourOn_53 rfl 1 rfl rfl ?_
          refine gx_seen 57 C hK dX2_seeAnHourOn_54 rfl ?_
          refine hd_aload_n 58 C dX2_seeAnHourOn_57 rfl 1 rfl rfl ?_
          refine gx_doors 61 C hK dX2_seeAnHourOn_58 rfl ?_
          refine hd_iload_n 62 C dX2_seeAnHourOn_61 rfl 3 rfl rfl ?_
          refine alx_doors 63 C hK dX2_seeAnHourOn_62 rfl (by omega) ?_
          refine gd2_room (by omega) 66 C hK dX2_seeAnHourOn_63 rfl (nI (N 2 d)) rfl ?_
          refine alx_seen 67 C hK dX2_seeAnHourOn_66 rfl (by omega) (G 0 (N 2 d)) rfl ?_
          refine hd_iload_n 68 C dX2_seeAnHourOn_67 rfl 0 rfl rfl ?_
          refine hd_callSL (rest := [.long (g rv36), .int (nI rv36), .ref (a 9)]) 71 C hK hZ hA ⟨Nat.zero_le _, Nat.zero_le _⟩ dX2_seeAnHourOn_68 rfl kc_X2_243 (x_eachWith (G 0 (N 2 d)) rv36 (by omega)) ⟨rfl, rfl⟩ ⟨by decide, by decide⟩ rfl rfl (Nat.le_of_ble_eq_true rfl) (fun r68 u68 h68 => ?_)
          obtain ⟨rfl, rfl⟩ := h68
          refine hd_lor 72 C dX2_seeAnHourOn_71 rfl ((g rv36) ||| (ewV (G 0 (N 2 d)) rv36)) rfl ?_
          refine asx_seenNext 73 C hK dX2_seeAnHourOn_72 rfl (by omega) ?_
          refine hd_eqS (show (N, Z, E, uG (rG G 1 g) 1 rv36 ((g rv36) ||| (ewV (G 0 (N 2 d)) rv36)), T) = (N, Z, E, rG G 1 (upL g rv36 ((g rv36) ||| (ewV (G 0 (N 2 d)) rv36))), T) from by rw [uG_rG]) ?_
          refine hd_iinc 76 C dX2_seeAnHourOn_73 rfl 3 (nI (d + 1)) [(2, .int (nI (d + 1))), (3, .int (nI rv36)), (0, .ref (a 0)), (1, .int (nI h))] rfl (nI_add _ _) (by decide) rfl ?_
          refine hd_goto 17 C dX2_seeAnHourOn_76 (by decide) ?_
          refine hd_sub [(0, .ref (a 0)), (1, .int (nI h)), (2, .int (nI (d + 1)))] [2, 3, 0] rfl ?_
          exact ih_L (d + 1) _ (by omega) (RG_up hB hG ho36 (by omega) (hI.door d).2.1) (by omega)
  refine hd_sub [(0, .ref (a 0)), (1, .int (nI h)), (2, .int (nI 0))] [1, 2, 0] rfl ?_
  exact L (N 0 1 + 1) 0 _ (Nat.zero_le _) (RG_congr (RG_eq hG (fun r hr => cpyL hr)) (fun s r _ => xO_0)) (by omega)

set_option maxHeartbeats 4000000 in
set_option maxRecDepth 100000 in
theorem x_fillL {l : Launch} {D : va_G} {cI cJ cD cS : ClassId} {a : Nat → Nat} {N : Nat → Nat → Nat} {Z : Nat → Nat → Int32} {E : Nat → Nat → Int32} {G : Nat → Nat → Int64} {T : Nat → Nat} {t : Option Nat} (v : Int64)  : ctV l D (ty4 cI cJ cD cS) t (wX cI cJ cD cS a) yJ7_fill_d0a16 cJ7_fill_d0a16 5 none (rmk 0 0) [.ref (a 8), .long v] (N, Z, E, G, T) (fun (u : sT) => u = (N, Z, E, rG G 0 (fun j => if j < 6 then v else G 0 j), T)) := by
  refine ctV_of [(0, .ref (a 8)), (1, .long v)] (by decide) (Nat.le_of_ble_eq_true rfl) rfl ?_
  intro p e s m args below meth c A C hK hZ hA
  refine hd_iconst 1 C dJ7_fill_d0a16_0 rfl (nI 0) (by decide) ?_
  refine hd_istore_n 2 C dJ7_fill_d0a16_1 rfl [(3, .int (nI 0)), (0, .ref (a 8)), (1, .long v)] rfl (by decide) rfl ?_
  refine hd_aload_n 3 C dJ7_fill_d0a16_2 rfl 1 rfl rfl ?_
  refine hd_alen 4 C hK dJ7_fill_d0a16_3 rfl 8 1 rfl rfl (nI 6) rfl ?_
  refine hd_istore 6 C dJ7_fill_d0a16_4 rfl [(4, .int (nI 6)), (3, .int (nI 0)), (0, .ref (a 8)), (1, .long v)] (by decide) rfl ?_
  refine hd_eqS (show (N, Z, E, G, T) = (N, Z, E, rG G 0 (fun j => if j < 0 then v else G 0 j), T) from by rw [flL_0, rG_self]) ?_
  have L : ∀ (fuel : Nat) (q : Nat) (hq : q ≤ 6), 6 - q < fuel → XW p l e (rmk 0 0) s m args below meth c 5 0 0 A D (MQ below (va_Qv (fun (u : sT) => u = (N, Z, E, rG G 0 (fun j => if j < 6 then v else G 0 j), T)) (cB D (ty4 cI cJ cD cS) (wX cI cJ cD cS a) A) A) args s 0 0 A) (wX cI cJ cD cS a) (N, Z, E, rG G 0 (fun j => if j < q then v else G 0 j), T) 6 [(0, .ref (a 8)), (1, .long v), (3, .int (nI q)), (4, .int (nI 6))] [] := by
    intro fuel
    induction fuel with
    | zero => intro q hq hfu; exact absurd hfu (Nat.not_lt_zero _)
    | succ fuel ih_L =>
      intro q hq hfu_L
      refine hd_iload_n 7 C dJ7_fill_d0a16_6 rfl 2 rfl rfl ?_
      refine hd_iload 9 C dJ7_fill_d0a16_7 rfl 3 rfl ?_
      refine hd_icmp_geN 12 22 C dJ7_fill_d0a16_9 rfl (by decide) (by omega) (by omega) (fun h9 => ?_) (fun h9 => ?_)
      · skip
        have e9 : q = 6 := by omega
        subst e9
        exact hd_vret C hK dJ7_fill_d0a16_22 rfl
      · skip
        refine hd_aload_n 13 C dJ7_fill_d0a16_12 rfl 0 rfl rfl ?_
        refine hd_iload_n 14 C dJ7_fill_d0a16_13 rfl 2 rfl rfl ?_
        refine hd_lload_n 15 C dJ7_fill_d0a16_14 rfl 1 rfl rfl ?_
        refine asx_seen 16 C hK dJ7_fill_d0a16_15 rfl (by omega) ?_
        refine hd_eqS (show (N, Z, E, uG (rG G 0 (fun j => if j < q then v else G 0 j)) 0 q v, T) = (N, Z, E, rG G 0 (fun j => if j < q + 1 then v else G 0 j), T) from by rw [uG_rG, flL_s]) ?_
        refine hd_iinc 19 C dJ7_fill_d0a16_16 rfl 2 (nI (q + 1)) [(3, .int (nI (q + 1))), (0, .ref (a 8)), (1, .long v), (4, .int (nI 6))] rfl (nI_add _ _) (by decide) rfl ?_
        refine hd_goto 6 C dJ7_fill_d0a16_19 (by decide) ?_
        refine hd_sub [(0, .ref (a 8)), (1, .long v), (3, .int (nI (q + 1))), (4, .int (nI 6))] [1, 2, 0, 3] rfl ?_
        exact ih_L (q + 1) (by omega) (by omega)
  refine hd_sub [(0, .ref (a 8)), (1, .long v), (3, .int (nI 0)), (4, .int (nI 6))] [2, 3, 1, 0] rfl ?_
  exact L 7 0 (Nat.zero_le _) (by omega)

set_option maxHeartbeats 4000000 in
set_option maxRecDepth 100000 in
theorem x_errandHours {l : Launch} {D : va_G} {cI cJ cD cS : ClassId} {a : Nat → Nat} {N : Nat → Nat → Nat} {Z : Nat → Nat → Int32} {E : Nat → Nat → Int32} {G : Nat → Nat → Int64} {T : Nat → Nat} {tt : Nat} (fr st hr : Nat) (hI : inv N) (hf : fr < N 0 0) (hst : st < 64) (hh : hr < 12)  : ctI l D (ty4 cI cJ cD cS) (some tt) (wX cI cJ cD cS a) yX2_errandHours cX2_errandHours 7 (some .int) (rmk 2 63) [.ref (a 0), .int (nI fr), .int (nI st), .int (nI hr)] (N, Z, E, G, T) (fun (r : Int32) (u : sT) => (∃ g0 g1 : Nat → Int64, u = (N, Z, E, rG (rG G 1 g1) 0 g0, T)) ∧ ErP N fr st hr r) := by
  refine ctI_of [(0, .ref (a 0)), (1, .int (nI fr)), (2, .int (nI st)), (3, .int (nI hr))] (by decide) (Nat.le_of_ble_eq_true rfl) rfl ?_
  intro p e s m args below meth c A C hK hZ hA
  have hR := hI.R
  have hDn := hI.D
  have hQn := hI.Q
  refine hd_iload_n 1 C dX2_errandHours_0 rfl 2 rfl rfl ?_
  refine hd_callSL (rest := []) 4 C hK hZ hA ⟨Nat.zero_le _, Nat.zero_le _⟩ dX2_errandHours_1 rfl kc_X2_221 (x_setsWithAll st (by omega)) ⟨rfl, rfl⟩ ⟨by decide, by decide⟩ rfl rfl (Nat.le_of_ble_eq_true rfl) (fun r1 u1 h1 => ?_)
  obtain ⟨rfl, hsw⟩ := h1
  refine hd_lstore 6 C dX2_errandHours_4 rfl [(4, .long r1), (0, .ref (a 0)), (1, .int (nI fr)), (2, .int (nI st)), (3, .int (nI hr))] (by decide) rfl ?_
  refine hd_aload_n 7 C dX2_errandHours_6 rfl 1 rfl rfl ?_
  refine gx_seen 10 C hK dX2_errandHours_7 rfl ?_
  refine hd_lconst 11 C dX2_errandHours_10 rfl 0 (by decide) ?_
  refine hd_callSV (rest := []) 14 C hK hZ hA ⟨Nat.zero_le _, Nat.zero_le _⟩ dX2_errandHours_11 rfl kc_X2_225 (x_fillL 0) ⟨rfl, rfl⟩ ⟨by decide, by decide⟩ rfl rfl (Nat.le_of_ble_eq_true rfl) (fun u11 h11 => ?_)
  subst h11
  refine hd_aload_n 15 C dX2_errandHours_14 rfl 1 rfl rfl ?_
  refine gx_seen 18 C hK dX2_errandHours_15 rfl ?_
  refine hd_iload_n 19 C dX2_errandHours_18 rfl 2 rfl rfl ?_
  refine hd_lconst 20 C dX2_errandHours_19 rfl 1 (by decide) ?_
  refine hd_iconst 21 C dX2_errandHours_20 rfl (nI 1) (by decide) ?_
  refine hd_iload_n 22 C dX2_errandHours_21 rfl 2 rfl rfl ?_
  refine hd_ishl 23 C dX2_errandHours_22 rfl (nI (2 ^ fr)) (nI_shl1 (by omega)) ?_
  refine hd_lshl 24 C dX2_errandHours_23 rfl (1 <<< ((nI (2 ^ fr)).toInt64 &&& 63)) rfl ?_
  refine asx_seen 25 C hK dX2_errandHours_24 rfl (by omega) ?_
  refine hd_iconst 26 C dX2_errandHours_25 rfl (nI 0) (by decide) ?_
  refine hd_istore 28 C dX2_errandHours_26 rfl [(6, .int (nI 0)), (4, .long r1), (0, .ref (a 0)), (1, .int (nI fr)), (2, .int (nI st)), (3, .int (nI hr))] (by decide) rfl ?_
  refine hd_eqS (show (N, Z, E, uG (rG G 0 (fun j => if j < 6 then 0 else G 0 j)) 0 fr (1 <<< ((nI (2 ^ fr)).toInt64 &&& 63)), T) = (N, Z, E, rG (rG G 1 (G 1)) 0 (upL (fun j => if j < 6 then 0 else G 0 j) fr (1 <<< ((nI (2 ^ fr)).toInt64 &&& 63))), T) from by rw [uG_rG, rG_self]) ?_
  have L : ∀ (fuel : Nat) (tm : Nat) (g0 g1 : Nat → Int64) (ht : tm ≤ 25) (hB9 : RG g0 (est N fr hr tm)) (hno : ∀ y, y < tm → ¬ hvP (est N fr hr y) st), 25 - tm < fuel → XW p l e (rmk 2 63) s m args below meth c 7 0 0 A D (MQ below (va_Qi (fun (r : Int32) (u : sT) => (∃ g0 g1 : Nat → Int64, u = (N, Z, E, rG (rG G 1 g1) 0 g0, T)) ∧ ErP N fr st hr r) (cB D (ty4 cI cJ cD cS) (wX cI cJ cD cS a) A) A) args s 0 0 A) (wX cI cJ cD cS a) (N, Z, E, rG (rG G 1 g1) 0 g0, T) 28 [(0, .ref (a 0)), (1, .int (nI fr)), (2, .int (nI st)), (3, .int (nI hr)), (4, .long r1), (6, .int (nI tm))] [] := by
    intro fuel
    induction fuel with
    | zero => intro tm g0 g1 ht hB9 hno hfu; exact absurd hfu (Nat.not_lt_zero _)
    | succ fuel ih_L =>
      intro tm g0 g1 ht hB9 hno hfu_L
      have hP9 : ∀ s r, est N fr hr tm s r → r < 6 := fun s r k => Nat.lt_of_lt_of_le (est_lt hI hf tm s r k) hI.R
      refine hd_iload 30 C dX2_errandHours_28 rfl 5 rfl ?_
      refine hd_bipush 32 C dX2_errandHours_30 rfl (nI 24) (by decide) ?_
      refine hd_icmp_gtN 35 64 C dX2_errandHours_32 rfl (by decide) (by omega) (by omega) (fun h32 => ?_) (fun h32 => ?_)
      · skip
        refine hd_bipush 66 C dX2_errandHours_64 rfl (-9) (by decide) ?_
        exact hd_iret C hK dX2_errandHours_66 ⟨⟨g0, g1, rfl⟩, Or.inr ⟨rfl, fun y hy => hno y (by omega)⟩⟩
      · skip
        refine hd_aload_n 36 C dX2_errandHours_35 rfl 0 rfl rfl ?_
        refine hd_lload 38 C dX2_errandHours_36 rfl 4 rfl ?_
        refine hd_callVI (rest := []) 41 C hK hZ hA ⟨Nat.zero_le _, Nat.zero_le _⟩ dX2_errandHours_38 rfl kc_X2_231 (x_anySeen r1 _ _ hsw hB9 hP9) ⟨rfl, rfl⟩ ⟨by decide, by decide⟩ 0 2 rfl rfl rfl rfl rfl (Nat.le_of_ble_eq_true rfl) (fun r38 u38 h38 => ?_)
        obtain ⟨rfl, bv9, hbv, rfl⟩ := h38
        refine hd_if_eqB 44 47 C dX2_errandHours_41 rfl (by decide) (fun h41 => ?_) (fun h41 => ?_)
        · skip
          refine hd_aload_n 48 C dX2_errandHours_47 rfl 0 rfl rfl ?_
          refine hd_iload_n 49 C dX2_errandHours_48 rfl 3 rfl rfl ?_
          refine hd_iload 51 C dX2_errandHours_49 rfl 5 rfl ?_
          refine hd_iadd 52 C dX2_errandHours_51 rfl (nI (hr + tm)) (nI_add _ _) ?_
          refine hd_bipush 54 C dX2_errandHours_52 rfl (nI 12) (by decide) ?_
          refine hd_irem 55 C dX2_errandHours_54 rfl (nI ((hr + tm) % 12)) (nI_ne0 (by omega) (by omega)) (pk_rem (by omega) (by omega) (by omega)) ?_
          refine hd_callVV (rest := []) 58 C hK hZ hA ⟨Nat.zero_le _, Nat.zero_le _⟩ dX2_errandHours_55 rfl kc_X2_235 (x_seeAnHourOn ((hr + tm) % 12) _ hI (by omega) hB9) ⟨rfl, rfl⟩ ⟨by decide, by decide⟩ 0 2 rfl rfl rfl rfl rfl (Nat.le_of_ble_eq_true rfl) (fun u55 h55 => ?_)
          obtain ⟨f8, g8, rfl, hB8⟩ := h55
          refine hd_eqS (show (N, Z, E, rG (rG (rG (rG G 1 g1) 0 g0) 1 g8) 0 f8, T) = (N, Z, E, rG (rG G 1 g8) 0 f8, T) from by rw [rG_4]) ?_
          refine hd_iinc 61 C dX2_errandHours_58 rfl 5 (nI (tm + 1)) [(6, .int (nI (tm + 1))), (0, .ref (a 0)), (1, .int (nI fr)), (2, .int (nI st)), (3, .int (nI hr)), (4, .long r1)] rfl (nI_add _ _) (by decide) rfl ?_
          refine hd_goto 28 C dX2_errandHours_61 (by decide) ?_
          refine hd_sub [(0, .ref (a 0)), (1, .int (nI fr)), (2, .int (nI st)), (3, .int (nI hr)), (4, .long r1), (6, .int (nI (tm + 1)))] [1, 2, 3, 4, 5, 0] rfl ?_
          exact ih_L (tm + 1) f8 g8 (by omega) hB8 (fun y hy => by by_cases e9 : y = tm; rw [e9]; exact fun k => absurd (hbv.mpr k) (by rw [h41]; decide); exact hno y (by omega)) (by omega)
        · skip
          refine hd_iload 46 C dX2_errandHours_44 rfl 5 rfl ?_
          exact hd_iret C hK dX2_errandHours_46 ⟨⟨g0, g1, rfl⟩, Or.inl ⟨tm, by omega, rfl, hbv.mp h41, hno⟩⟩
  refine hd_sub [(0, .ref (a 0)), (1, .int (nI fr)), (2, .int (nI st)), (3, .int (nI hr)), (4, .long r1), (6, .int (nI 0))] [2, 3, 4, 5, 1, 0] rfl ?_
  exact L 26 0 _ _ (Nat.zero_le _) (RG_start (by omega)) (fun y hy => absurd hy (Nat.not_lt_zero y)) (by omega)

set_option maxHeartbeats 4000000 in
set_option maxRecDepth 100000 in
theorem x_errands {l : Launch} {D : va_G} {cI cJ cD cS : ClassId} {a : Nat → Nat} {N : Nat → Nat → Nat} {Z : Nat → Nat → Int32} {E : Nat → Nat → Int32} {G : Nat → Nat → Int64} {T : Nat → Nat} {tt : Nat} (xf xs xh : Int32) (hI : inv N)  : ctI l D (ty4 cI cJ cD cS) (some tt) (wX cI cJ cD cS a) yX2_errands cX2_errands 4 (some .int) (rmk 3 89) [.ref (a 0), .int xf, .int xs, .int xh] (N, Z, E, G, T) (fun (r : Int32) (u : sT) => (∃ g0 g1 : Nat → Int64, u = (N, Z, E, rG (rG G 1 g1) 0 g0, T)) ∧ erP N xf xs xh r) := by
  refine ctI_of [(0, .ref (a 0)), (1, .int xf), (2, .int xs), (3, .int xh)] (by decide) (Nat.le_of_ble_eq_true rfl) rfl ?_
  intro p e s m args below meth c A C hK hZ hA
  have hR := hI.R
  have hDn := hI.D
  have hQn := hI.Q
  have hp64 : 2 ^ N 0 0 ≤ 2 ^ 6 := Nat.pow_le_pow_right (show 0 < 2 by decide) hI.R
  have hp1 : 0 < 2 ^ N 0 0 := Nat.pow_pos (by decide)
  refine hd_aload_n 1 C dX2_errands_0 rfl 0 rfl rfl ?_
  refine hd_iload_n 2 C dX2_errands_1 rfl 1 rfl rfl ?_
  refine hd_callVI (rest := []) 5 C hK hZ hA ⟨Nat.zero_le _, Nat.zero_le _⟩ dX2_errands_2 rfl kc_X2_104 (x_isRoom xf hI) ⟨rfl, rfl⟩ ⟨by decide, by decide⟩ 0 2 rfl rfl rfl rfl rfl (Nat.le_of_ble_eq_true rfl) (fun r2 u2 h2 => ?_)
  obtain ⟨rfl, rfl⟩ := h2
  refine hd_if_neB 8 10 C dX2_errands_5 rfl (by decide) (fun h5 => ?_) (fun h5 => ?_)
  · skip
    obtain ⟨r2, hj_r2, rfl⟩ := inB_t h5 (by omega)
    have hc_r2 : (nI r2).toNatClampNeg = r2 := nI_clamp (by omega)
    refine hd_iload_n 11 C dX2_errands_10 rfl 2 rfl rfl ?_
    refine hd_if_lt 14 29 C dX2_errands_11 rfl (by decide) (fun h11 => ?_) (fun h11 => ?_)
    · skip
      refine hd_bipush 31 C dX2_errands_29 rfl (-2) (by decide) ?_
      exact hd_iret C hK dX2_errands_31 ⟨⟨G 0, G 1, by rw [rG_self, rG_self]⟩, Or.inr (Or.inl ⟨h5, fun k => absurd (k.1.symm.trans (inB_neg h11)) (by decide), rfl⟩)⟩
    · skip
      refine hd_iload_n 15 C dX2_errands_14 rfl 2 rfl rfl ?_
      refine hd_aload_n 16 C dX2_errands_15 rfl 0 rfl rfl ?_
      refine hd_callVI (rest := [.int xs]) 19 C hK hZ hA ⟨Nat.zero_le _, Nat.zero_le _⟩ dX2_errands_16 rfl kc_X2_123 (x_allRooms hI) ⟨rfl, rfl⟩ ⟨by decide, by decide⟩ 0 2 rfl rfl rfl rfl rfl (Nat.le_of_ble_eq_true rfl) (fun r16 u16 h16 => ?_)
      obtain ⟨rfl, rfl⟩ := h16
      refine hd_icmp_gt 22 29 C dX2_errands_19 rfl (by decide) (fun h19 => ?_) (fun h19 => ?_)
      · skip
        refine hd_bipush 31 C dX2_errands_29 rfl (-2) (by decide) ?_
        exact hd_iret C hK dX2_errands_31 ⟨⟨G 0, G 1, by rw [rG_self, rG_self]⟩, Or.inr (Or.inl ⟨h5, fun k => absurd (k.1.symm.trans (inB_big2 hp64 h19)) (by decide), rfl⟩)⟩
      · skip
        have hb1 : inB xs (2 ^ N 0 0) = true := inB_ok2 hp64 h11 h19
        obtain ⟨s2, hj_s2, rfl⟩ := inB_t hb1 (by omega)
        have hc_s2 : (nI s2).toNatClampNeg = s2 := nI_clamp (by omega)
        refine hd_iload_n 23 C dX2_errands_22 rfl 3 rfl rfl ?_
        refine hd_callSI (rest := []) 26 C hK hZ hA ⟨Nat.zero_le _, Nat.zero_le _⟩ dX2_errands_23 rfl kc_X2_94 (x_isHour xh) ⟨rfl, rfl⟩ ⟨by decide, by decide⟩ rfl rfl (Nat.le_of_ble_eq_true rfl) (fun r23 u23 h23 => ?_)
        obtain ⟨rfl, rfl⟩ := h23
        refine hd_if_neB 29 32 C dX2_errands_26 rfl (by decide) (fun h26 => ?_) (fun h26 => ?_)
        · skip
          obtain ⟨h2, hj_h2, rfl⟩ := inB_t h26 (by decide)
          have hc_h2 : (nI h2).toNatClampNeg = h2 := nI_clamp (by omega)
          refine hd_aload_n 33 C dX2_errands_32 rfl 0 rfl rfl ?_
          refine hd_iload_n 34 C dX2_errands_33 rfl 1 rfl rfl ?_
          refine hd_iload_n 35 C dX2_errands_34 rfl 2 rfl rfl ?_
          refine hd_iload_n 36 C dX2_errands_35 rfl 3 rfl rfl ?_
          refine hd_callVI (rest := []) 39 C hK hZ hA ⟨Nat.zero_le _, Nat.zero_le _⟩ dX2_errands_36 rfl kc_X2_127 (x_errandHours r2 s2 h2 hI (by omega) (by omega) (by omega)) ⟨rfl, rfl⟩ ⟨by decide, by decide⟩ 0 2 rfl rfl rfl rfl rfl (Nat.le_of_ble_eq_true rfl) (fun r36 u36 h36 => ?_)
          obtain ⟨⟨g0, g1, rfl⟩, her⟩ := h36
          exact hd_iret C hK dX2_errands_39 ⟨⟨g0, g1, rfl⟩, Or.inr (Or.inr ⟨h5, ⟨hb1, h26⟩, by rw [show cl (nI r2) = r2 from hc_r2, show cl (nI s2) = s2 from hc_s2, show cl (nI h2) = h2 from hc_h2]; exact her⟩)⟩
        · skip
          refine hd_bipush 31 C dX2_errands_29 rfl (-2) (by decide) ?_
          exact hd_iret C hK dX2_errands_31 ⟨⟨G 0, G 1, by rw [rG_self, rG_self]⟩, Or.inr (Or.inl ⟨h5, fun k => absurd (k.2.symm.trans h26) (by decide), rfl⟩)⟩
  · skip
    refine hd_iconst 9 C dX2_errands_8 rfl (-1) (by decide) ?_
    exact hd_iret C hK dX2_errands_9 ⟨⟨G 0, G 1, by rw [rG_self, rG_self]⟩, Or.inl ⟨h5, rfl⟩⟩

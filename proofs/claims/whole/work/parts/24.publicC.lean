set_option maxHeartbeats 4000000 in
set_option maxRecDepth 100000 in
theorem x_anHourAhead {l : Launch} {D : va_G} {cI cJ cD cS : ClassId} {a : Nat → Nat} {N : Nat → Nat → Nat} {Z : Nat → Nat → Int32} {E : Nat → Nat → Int32} {G : Nat → Nat → Int64} {T : Nat → Nat} {t : Option Nat} (set h : Nat) (hI : inv N) (hs : set < 64) (hh : h < 12)  : ctI l D (ty4 cI cJ cD cS) t (wX cI cJ cD cS a) yX2_anHourAhead cX2_anHourAhead 6 (some .int) (rmk 1 23) [.ref (a 0), .int (nI set), .int (nI h)] (N, Z, E, G, T) (fun (r : Int32) (u : sT) => u = (N, Z, E, G, T) ∧ r = nI (ahb N h set)) := by
  refine ctI_of [(0, .ref (a 0)), (1, .int (nI set)), (2, .int (nI h))] (by decide) (Nat.le_of_ble_eq_true rfl) rfl ?_
  intro p e s m args below meth c A C hK hZ hA
  have hR := hI.R
  have hDn := hI.D
  refine hd_iload_n 1 C dX2_anHourAhead_0 rfl 1 rfl rfl ?_
  refine hd_istore_n 2 C dX2_anHourAhead_1 rfl [(3, .int (nI set)), (0, .ref (a 0)), (1, .int (nI set)), (2, .int (nI h))] rfl (by decide) rfl ?_
  refine hd_iconst 3 C dX2_anHourAhead_2 rfl (nI 0) (by decide) ?_
  refine hd_istore 5 C dX2_anHourAhead_3 rfl [(4, .int (nI 0)), (3, .int (nI set)), (0, .ref (a 0)), (1, .int (nI set)), (2, .int (nI h))] (by decide) rfl ?_
  have L : ∀ (fuel : Nat) (d : Nat) (hd : d ≤ N 0 1), N 0 1 - d < fuel → XW p l e (rmk 1 23) s m args below meth c 6 0 0 A D (MQ below (va_Qi (fun (r : Int32) (u : sT) => u = (N, Z, E, G, T) ∧ r = nI (ahb N h set)) (cB D (ty4 cI cJ cD cS) (wX cI cJ cD cS a) A) A) args s 0 0 A) (wX cI cJ cD cS a) (N, Z, E, G, T) 5 [(0, .ref (a 0)), (1, .int (nI set)), (2, .int (nI h)), (3, .int (nI (ahbo N h set d))), (4, .int (nI d))] [] := by
    intro fuel
    induction fuel with
    | zero => intro d hd hfu; exact absurd hfu (Nat.not_lt_zero _)
    | succ fuel ih_L =>
      intro d hd hfu_L
      refine hd_iload 7 C dX2_anHourAhead_5 rfl 4 rfl ?_
      refine hd_aload_n 8 C dX2_anHourAhead_7 rfl 0 rfl rfl ?_
      refine gx_doorCount 11 C hK dX2_anHourAhead_8 rfl (nI (N 0 1)) rfl ?_
      refine hd_icmp_geN 14 68 C dX2_anHourAhead_11 rfl (by decide) (by omega) (by omega) (fun h11 => ?_) (fun h11 => ?_)
      · skip
        refine hd_iload_n 69 C dX2_anHourAhead_68 rfl 3 rfl rfl ?_
        exact hd_iret C hK dX2_anHourAhead_69 ⟨rfl, congrArg nI (ahb_end (by omega))⟩
      · skip
        have hat := hI.at h11
        have hdr := hI.door d
        refine hd_aload_n 15 C dX2_anHourAhead_14 rfl 0 rfl rfl ?_
        refine gx_doors 18 C hK dX2_anHourAhead_15 rfl ?_
        refine hd_iload 20 C dX2_anHourAhead_18 rfl 4 rfl ?_
        refine alx_doors 21 C hK dX2_anHourAhead_20 rfl (by omega) ?_
        refine hd_iload_n 22 C dX2_anHourAhead_21 rfl 2 rfl rfl ?_
        refine hd_aload_n 23 C dX2_anHourAhead_22 rfl 0 rfl rfl ?_
        refine gx_rooms 26 C hK dX2_anHourAhead_23 rfl (nI (N 0 0)) rfl ?_
        refine hd_callVI (rest := []) 29 C hK hZ hA ⟨Nat.zero_le _, Nat.zero_le _⟩ dX2_anHourAhead_26 rfl kc_X2_100 (x_leadsTo d h hI (by omega) (by omega) (by omega)) ⟨rfl, rfl⟩ ⟨by decide, by decide⟩ (10 + d) 0 (wX_door _ (by omega)) rfl rfl rfl rfl (Nat.le_of_ble_eq_true rfl) (fun r26 u26 h26 => ?_)
        obtain ⟨rfl, rfl⟩ := h26
        rcases ho26 : ld N d h with _ | rv26
        · skip
          refine hd_istore 31 C dX2_anHourAhead_29 rfl [(5, .int (-9)), (0, .ref (a 0)), (1, .int (nI set)), (2, .int (nI h)), (3, .int (nI (ahbo N h set d))), (4, .int (nI d))] (by decide) rfl ?_
          refine hd_iload 33 C dX2_anHourAhead_31 rfl 0 rfl ?_
          refine hd_bipush 35 C dX2_anHourAhead_33 rfl (-9) (by decide) ?_
          refine hd_icmp_eq 38 62 C dX2_anHourAhead_35 rfl (by decide) (fun _ => ?_) (fun q => absurd (by decide) q)
          refine hd_iinc 65 C dX2_anHourAhead_62 rfl 5 (nI (d + 1)) [(4, .int (nI (d + 1))), (5, .int (-9)), (0, .ref (a 0)), (1, .int (nI set)), (2, .int (nI h)), (3, .int (nI (ahbo N h set d)))] rfl (nI_add _ _) (by decide) rfl ?_
          refine hd_goto 5 C dX2_anHourAhead_65 (by decide) ?_
          rw [show ahbo N h set d = ahbo N h set (d + 1) from (by simp [ahbo_s, ho26])]
          refine hd_sub [(0, .ref (a 0)), (1, .int (nI set)), (2, .int (nI h)), (3, .int (nI (ahbo N h set (d + 1)))), (4, .int (nI (d + 1)))] [2, 3, 4, 5, 0] rfl ?_
          exact ih_L (d + 1) (by omega) (by omega)
        · skip
          have hbrv26 := ld_lt hI (by omega) _ ho26
          refine hd_istore 31 C dX2_anHourAhead_29 rfl [(5, .int (nI rv26)), (0, .ref (a 0)), (1, .int (nI set)), (2, .int (nI h)), (3, .int (nI (ahbo N h set d))), (4, .int (nI d))] (by decide) rfl ?_
          refine hd_iload 33 C dX2_anHourAhead_31 rfl 0 rfl ?_
          refine hd_bipush 35 C dX2_anHourAhead_33 rfl (-9) (by decide) ?_
          refine hd_icmp_eq 38 62 C dX2_anHourAhead_35 rfl (by decide) (fun q => absurd q (nI_ne9 (by omega))) (fun _ => ?_)
          refine hd_iload_n 39 C dX2_anHourAhead_38 rfl 2 rfl rfl ?_
          refine hd_iload 41 C dX2_anHourAhead_39 rfl 0 rfl ?_
          refine hd_callSI (rest := []) 44 C hK hZ hA ⟨Nat.zero_le _, Nat.zero_le _⟩ dX2_anHourAhead_41 rfl kc_X2_208 (x_has set rv26 (by omega) (by omega)) ⟨rfl, rfl⟩ ⟨by decide, by decide⟩ rfl rfl (Nat.le_of_ble_eq_true rfl) (fun r41 u41 h41 => ?_)
          obtain ⟨rfl, rfl⟩ := h41
          refine hd_if_eqB 47 62 C dX2_anHourAhead_44 rfl (by decide) (fun h44 => ?_) (fun h44 => ?_)
          · skip
            refine hd_iinc 65 C dX2_anHourAhead_62 rfl 5 (nI (d + 1)) [(4, .int (nI (d + 1))), (5, .int (nI rv26)), (0, .ref (a 0)), (1, .int (nI set)), (2, .int (nI h)), (3, .int (nI (ahbo N h set d)))] rfl (nI_add _ _) (by decide) rfl ?_
            refine hd_goto 5 C dX2_anHourAhead_65 (by decide) ?_
            rw [show ahbo N h set d = ahbo N h set (d + 1) from (by simp [ahbo_s, ho26, h44])]
            refine hd_sub [(0, .ref (a 0)), (1, .int (nI set)), (2, .int (nI h)), (3, .int (nI (ahbo N h set (d + 1)))), (4, .int (nI (d + 1)))] [2, 3, 4, 5, 0] rfl ?_
            exact ih_L (d + 1) (by omega) (by omega)
          · skip
            refine hd_iload_n 48 C dX2_anHourAhead_47 rfl 4 rfl rfl ?_
            refine hd_iconst 49 C dX2_anHourAhead_48 rfl (nI 1) (by decide) ?_
            refine hd_aload_n 50 C dX2_anHourAhead_49 rfl 1 rfl rfl ?_
            refine gx_doors 53 C hK dX2_anHourAhead_50 rfl ?_
            refine hd_iload 55 C dX2_anHourAhead_53 rfl 5 rfl ?_
            refine alx_doors 56 C hK dX2_anHourAhead_55 rfl (by omega) ?_
            refine gd2_room (by omega) 59 C hK dX2_anHourAhead_56 rfl (nI (N 2 d)) rfl ?_
            refine hd_ishl 60 C dX2_anHourAhead_59 rfl (nI (2 ^ (N 2 d))) (nI_shl1 (by omega)) ?_
            refine hd_ior 61 C dX2_anHourAhead_60 rfl (nI ((ahbo N h set d) ||| (2 ^ (N 2 d)))) (fa_or _ _) ?_
            refine hd_istore_n 62 C dX2_anHourAhead_61 rfl [(3, .int (nI ((ahbo N h set d) ||| (2 ^ (N 2 d))))), (5, .int (nI rv26)), (0, .ref (a 0)), (1, .int (nI set)), (2, .int (nI h)), (4, .int (nI d))] rfl (by decide) rfl ?_
            refine hd_iinc 65 C dX2_anHourAhead_62 rfl 5 (nI (d + 1)) [(4, .int (nI (d + 1))), (3, .int (nI ((ahbo N h set d) ||| (2 ^ (N 2 d))))), (5, .int (nI rv26)), (0, .ref (a 0)), (1, .int (nI set)), (2, .int (nI h))] rfl (nI_add _ _) (by decide) rfl ?_
            refine hd_goto 5 C dX2_anHourAhead_65 (by decide) ?_
            rw [show (ahbo N h set d) ||| (2 ^ (N 2 d)) = ahbo N h set (d + 1) from (by simp [ahbo_s, ho26, h44])]
            refine hd_sub [(0, .ref (a 0)), (1, .int (nI set)), (2, .int (nI h)), (3, .int (nI (ahbo N h set (d + 1)))), (4, .int (nI (d + 1)))] [3, 4, 5, 1, 0] rfl ?_
            exact ih_L (d + 1) (by omega) (by omega)
  refine hd_sub [(0, .ref (a 0)), (1, .int (nI set)), (2, .int (nI h)), (3, .int (nI set)), (4, .int (nI 0))] [2, 3, 4, 1, 0] rfl ?_
  exact L (N 0 1 + 1) 0 (Nat.zero_le _) (by omega)

set_option maxHeartbeats 4000000 in
set_option maxRecDepth 100000 in
theorem x_firstHopefulAct {l : Launch} {D : va_G} {cI cJ cD cS : ClassId} {a : Nat → Nat} {N : Nat → Nat → Nat} {Z : Nat → Nat → Int32} {E : Nat → Nat → Int32} {G : Nat → Nat → Int64} {T : Nat → Nat} {t : Option Nat} (room h set : Nat) (hI : inv N) (hr : room < N 0 0) (hh : h < 12) (hs : set < 64)  : ctI l D (ty4 cI cJ cD cS) t (wX cI cJ cD cS a) yX2_firstHopefulAct cX2_firstHopefulAct 6 (some .int) (rmk 2 46) [.ref (a 0), .int (nI room), .int (nI h), .int (nI set)] (N, Z, E, G, T) (fun (r : Int32) (u : sT) => u = (N, Z, E, G, T) ∧ r = nI (fha N room h set (N 0 1) 0)) := by
  refine ctI_of [(0, .ref (a 0)), (1, .int (nI room)), (2, .int (nI h)), (3, .int (nI set))] (by decide) (Nat.le_of_ble_eq_true rfl) rfl ?_
  intro p e s m args below meth c A C hK hZ hA
  have hR := hI.R
  have hDn := hI.D
  refine hd_iconst 1 C dX2_firstHopefulAct_0 rfl (nI 0) (by decide) ?_
  refine hd_istore 3 C dX2_firstHopefulAct_1 rfl [(4, .int (nI 0)), (0, .ref (a 0)), (1, .int (nI room)), (2, .int (nI h)), (3, .int (nI set))] (by decide) rfl ?_
  have L : ∀ (fuel : Nat) (x : Nat) (hx : x ≤ N 0 1) (hF : fha N room h set (N 0 1) 0 = fha N room h set (N 0 1 - x) x), N 0 1 - x < fuel → XW p l e (rmk 2 46) s m args below meth c 6 0 0 A D (MQ below (va_Qi (fun (r : Int32) (u : sT) => u = (N, Z, E, G, T) ∧ r = nI (fha N room h set (N 0 1) 0)) (cB D (ty4 cI cJ cD cS) (wX cI cJ cD cS a) A) A) args s 0 0 A) (wX cI cJ cD cS a) (N, Z, E, G, T) 3 [(0, .ref (a 0)), (1, .int (nI room)), (2, .int (nI h)), (3, .int (nI set)), (4, .int (nI x))] [] := by
    intro fuel
    induction fuel with
    | zero => intro x hx hF hfu; exact absurd hfu (Nat.not_lt_zero _)
    | succ fuel ih_L =>
      intro x hx hF hfu_L
      refine hd_iload 5 C dX2_firstHopefulAct_3 rfl 4 rfl ?_
      refine hd_aload_n 6 C dX2_firstHopefulAct_5 rfl 0 rfl rfl ?_
      refine gx_doorCount 9 C hK dX2_firstHopefulAct_6 rfl (nI (N 0 1)) rfl ?_
      refine hd_icmp_geN 12 47 C dX2_firstHopefulAct_9 rfl (by decide) (by omega) (by omega) (fun h9 => ?_) (fun h9 => ?_)
      · skip
        refine hd_aload_n 48 C dX2_firstHopefulAct_47 rfl 0 rfl rfl ?_
        refine gx_doorCount 51 C hK dX2_firstHopefulAct_48 rfl (nI (N 0 1)) rfl ?_
        exact hd_iret C hK dX2_firstHopefulAct_51 ⟨rfl, congrArg nI (by rw [hF, show N 0 1 - x = 0 by omega]; rfl)⟩
      · skip
        refine hd_aload_n 13 C dX2_firstHopefulAct_12 rfl 0 rfl rfl ?_
        refine hd_iload 15 C dX2_firstHopefulAct_13 rfl 4 rfl ?_
        refine hd_iload_n 16 C dX2_firstHopefulAct_15 rfl 1 rfl rfl ?_
        refine hd_iload_n 17 C dX2_firstHopefulAct_16 rfl 2 rfl rfl ?_
        refine hd_callVI (rest := []) 20 C hK hZ hA ⟨Nat.zero_le _, Nat.zero_le _⟩ dX2_firstHopefulAct_17 rfl kc_X2_205 (x_roomAfter x room h hI (by omega) (by omega) (by omega)) ⟨rfl, rfl⟩ ⟨by decide, by decide⟩ 0 2 rfl rfl rfl rfl rfl (Nat.le_of_ble_eq_true rfl) (fun r17 u17 h17 => ?_)
        obtain ⟨rfl, rfl⟩ := h17
        rcases ho17 : bh N (-9) room h x with _ | rv17
        · skip
          refine hd_istore 22 C dX2_firstHopefulAct_20 rfl [(5, .int (-9)), (0, .ref (a 0)), (1, .int (nI room)), (2, .int (nI h)), (3, .int (nI set)), (4, .int (nI x))] (by decide) rfl ?_
          refine hd_iload 24 C dX2_firstHopefulAct_22 rfl 0 rfl ?_
          refine hd_bipush 26 C dX2_firstHopefulAct_24 rfl (-9) (by decide) ?_
          refine hd_icmp_eq 29 41 C dX2_firstHopefulAct_26 rfl (by decide) (fun _ => ?_) (fun q => absurd (by decide) q)
          refine hd_iinc 44 C dX2_firstHopefulAct_41 rfl 5 (nI (x + 1)) [(4, .int (nI (x + 1))), (5, .int (-9)), (0, .ref (a 0)), (1, .int (nI room)), (2, .int (nI h)), (3, .int (nI set))] rfl (nI_add _ _) (by decide) rfl ?_
          refine hd_goto 3 C dX2_firstHopefulAct_44 (by decide) ?_
          refine hd_sub [(0, .ref (a 0)), (1, .int (nI room)), (2, .int (nI h)), (3, .int (nI set)), (4, .int (nI (x + 1)))] [2, 3, 4, 5, 0] rfl ?_
          exact ih_L (x + 1) (by omega) (by rw [hF, show N 0 1 - x = (N 0 1 - x - 1) + 1 by omega, show N 0 1 - (x + 1) = N 0 1 - x - 1 by omega, fha_succ]; simp [ho17]) (by omega)
        · skip
          have hbrv17 := bh_lt hI (by omega) (by omega) _ ho17
          refine hd_istore 22 C dX2_firstHopefulAct_20 rfl [(5, .int (nI rv17)), (0, .ref (a 0)), (1, .int (nI room)), (2, .int (nI h)), (3, .int (nI set)), (4, .int (nI x))] (by decide) rfl ?_
          refine hd_iload 24 C dX2_firstHopefulAct_22 rfl 0 rfl ?_
          refine hd_bipush 26 C dX2_firstHopefulAct_24 rfl (-9) (by decide) ?_
          refine hd_icmp_eq 29 41 C dX2_firstHopefulAct_26 rfl (by decide) (fun q => absurd q (nI_ne9 (by omega))) (fun _ => ?_)
          refine hd_iload_n 30 C dX2_firstHopefulAct_29 rfl 4 rfl rfl ?_
          refine hd_iload 32 C dX2_firstHopefulAct_30 rfl 0 rfl ?_
          refine hd_callSI (rest := []) 35 C hK hZ hA ⟨Nat.zero_le _, Nat.zero_le _⟩ dX2_firstHopefulAct_32 rfl kc_X2_208 (x_has set rv17 (by omega) (by omega)) ⟨rfl, rfl⟩ ⟨by decide, by decide⟩ rfl rfl (Nat.le_of_ble_eq_true rfl) (fun r32 u32 h32 => ?_)
          obtain ⟨rfl, rfl⟩ := h32
          refine hd_if_eqB 38 41 C dX2_firstHopefulAct_35 rfl (by decide) (fun h35 => ?_) (fun h35 => ?_)
          · skip
            refine hd_iinc 44 C dX2_firstHopefulAct_41 rfl 5 (nI (x + 1)) [(4, .int (nI (x + 1))), (5, .int (nI rv17)), (0, .ref (a 0)), (1, .int (nI room)), (2, .int (nI h)), (3, .int (nI set))] rfl (nI_add _ _) (by decide) rfl ?_
            refine hd_goto 3 C dX2_firstHopefulAct_44 (by decide) ?_
            refine hd_sub [(0, .ref (a 0)), (1, .int (nI room)), (2, .int (nI h)), (3, .int (nI set)), (4, .int (nI (x + 1)))] [2, 3, 4, 5, 0] rfl ?_
            exact ih_L (x + 1) (by omega) (by rw [hF, show N 0 1 - x = (N 0 1 - x - 1) + 1 by omega, show N 0 1 - (x + 1) = N 0 1 - x - 1 by omega, fha_succ]; simp [ho17, h35]) (by omega)
          · skip
            refine hd_iload 40 C dX2_firstHopefulAct_38 rfl 5 rfl ?_
            exact hd_iret C hK dX2_firstHopefulAct_40 ⟨rfl, congrArg nI (by rw [hF, show N 0 1 - x = (N 0 1 - x - 1) + 1 by omega, fha_succ, ho17]; simp [h35])⟩
  refine hd_sub [(0, .ref (a 0)), (1, .int (nI room)), (2, .int (nI h)), (3, .int (nI set)), (4, .int (nI 0))] [1, 2, 3, 4, 0] rfl ?_
  exact L (N 0 1 + 1) 0 (Nat.zero_le _) rfl (by omega)

set_option maxHeartbeats 4000000 in
set_option maxRecDepth 100000 in
theorem x_fillHopeful {l : Launch} {D : va_G} {cI cJ cD cS : ClassId} {a : Nat → Nat} {N : Nat → Nat → Nat} {Z : Nat → Nat → Int32} {E : Nat → Nat → Int32} {G : Nat → Nat → Int64} {T : Nat → Nat} {t : Option Nat} (to h hours : Nat) (hI : inv N) (ht : to < 6) (hh : h < 12) (h1 : 0 < hours) (h24 : hours ≤ 24)  : ctV l D (ty4 cI cJ cD cS) t (wX cI cJ cD cS a) yX2_fillHopeful cX2_fillHopeful 5 none (rmk 2 48) [.ref (a 0), .int (nI to), .int (nI h), .int (nI hours)] (N, Z, E, G, T) (fun (u : sT) => ∃ g : Nat → Int32, u = (N, rZ Z 28 g, E, G, T) ∧ ∀ t, 0 < t → t ≤ hours → g t = nI (hbk N to h hours (hours - t))) := by
  refine ctV_of [(0, .ref (a 0)), (1, .int (nI to)), (2, .int (nI h)), (3, .int (nI hours))] (by decide) (Nat.le_of_ble_eq_true rfl) rfl ?_
  intro p e s m args below meth c A C hK hZ hA
  refine hd_aload_n 1 C dX2_fillHopeful_0 rfl 0 rfl rfl ?_
  refine gx_hopeful 4 C hK dX2_fillHopeful_1 rfl ?_
  refine hd_iload_n 5 C dX2_fillHopeful_4 rfl 3 rfl rfl ?_
  refine hd_iconst 6 C dX2_fillHopeful_5 rfl (nI 1) (by decide) ?_
  refine hd_iload_n 7 C dX2_fillHopeful_6 rfl 1 rfl rfl ?_
  refine hd_ishl 8 C dX2_fillHopeful_7 rfl (nI (2 ^ to)) (nI_shl1 (by omega)) ?_
  refine asx_hopeful 9 C hK dX2_fillHopeful_8 rfl (by omega) ?_
  refine hd_eqS (show (N, uZ Z 28 hours (nI (2 ^ to)), E, G, T) = (N, rZ Z 28 (upd (Z 28) hours (nI (2 ^ to))), E, G, T) from by rw [rZ_upd]) ?_
  refine hd_iload_n 10 C dX2_fillHopeful_9 rfl 3 rfl rfl ?_
  refine hd_iconst 11 C dX2_fillHopeful_10 rfl (nI 1) (by decide) ?_
  refine hd_isub 12 C dX2_fillHopeful_11 rfl (nI (hours - 1)) (pk_sub (by omega)) ?_
  refine hd_istore 14 C dX2_fillHopeful_12 rfl [(4, .int (nI (hours - 1))), (0, .ref (a 0)), (1, .int (nI to)), (2, .int (nI h)), (3, .int (nI hours))] (by decide) rfl ?_
  have L : ∀ (fuel : Nat) (q : Nat) (g : Nat → Int32) (hq : q < hours) (hG : ∀ t, q < t → t ≤ hours → g t = nI (hbk N to h hours (hours - t))), q < fuel → XW p l e (rmk 2 48) s m args below meth c 5 0 0 A D (MQ below (va_Qv (fun (u : sT) => ∃ g : Nat → Int32, u = (N, rZ Z 28 g, E, G, T) ∧ ∀ t, 0 < t → t ≤ hours → g t = nI (hbk N to h hours (hours - t))) (cB D (ty4 cI cJ cD cS) (wX cI cJ cD cS a) A) A) args s 0 0 A) (wX cI cJ cD cS a) (N, rZ Z 28 g, E, G, T) 14 [(0, .ref (a 0)), (1, .int (nI to)), (2, .int (nI h)), (3, .int (nI hours)), (4, .int (nI q))] [] := by
    intro fuel
    induction fuel with
    | zero => intro q g hq hG hfu; exact absurd hfu (Nat.not_lt_zero _)
    | succ fuel ih_L =>
      intro q g hq hG hfu_L
      refine hd_iload 16 C dX2_fillHopeful_14 rfl 4 rfl ?_
      refine hd_if_leN 19 52 C dX2_fillHopeful_16 rfl (by decide) (by omega) (fun h16 => ?_) (fun h16 => ?_)
      · skip
        exact hd_vret C hK dX2_fillHopeful_52 ⟨g, rfl, fun t h1 h2 => hG t (by omega) h2⟩
      · skip
        refine hd_aload_n 20 C dX2_fillHopeful_19 rfl 0 rfl rfl ?_
        refine gx_hopeful 23 C hK dX2_fillHopeful_20 rfl ?_
        refine hd_iload 25 C dX2_fillHopeful_23 rfl 4 rfl ?_
        refine hd_aload_n 26 C dX2_fillHopeful_25 rfl 0 rfl rfl ?_
        refine hd_aload_n 27 C dX2_fillHopeful_26 rfl 0 rfl rfl ?_
        refine gx_hopeful 30 C hK dX2_fillHopeful_27 rfl ?_
        refine hd_iload 32 C dX2_fillHopeful_30 rfl 4 rfl ?_
        refine hd_iconst 33 C dX2_fillHopeful_32 rfl (nI 1) (by decide) ?_
        refine hd_iadd 34 C dX2_fillHopeful_33 rfl (nI (q + 1)) (nI_add _ _) ?_
        refine alx_hopeful 35 C hK dX2_fillHopeful_34 rfl (by omega) (nI (hbk N to h hours (hours - (q + 1)))) (hG (q + 1) (by omega) (by omega)) ?_
        refine hd_iload_n 36 C dX2_fillHopeful_35 rfl 2 rfl rfl ?_
        refine hd_iload 38 C dX2_fillHopeful_36 rfl 4 rfl ?_
        refine hd_iadd 39 C dX2_fillHopeful_38 rfl (nI (h + q)) (nI_add _ _) ?_
        refine hd_bipush 41 C dX2_fillHopeful_39 rfl (nI 12) (by decide) ?_
        refine hd_irem 42 C dX2_fillHopeful_41 rfl (nI ((h + q) % 12)) (nI_ne0 (by omega) (by omega)) (pk_rem (by omega) (by omega) (by omega)) ?_
        refine hd_callVI (rest := [.int (nI q), .ref (a 7)]) 45 C hK hZ hA ⟨Nat.zero_le _, Nat.zero_le _⟩ dX2_fillHopeful_42 rfl kc_X2_218 (x_anHourAhead (hbk N to h hours (hours - (q + 1))) ((h + q) % 12) hI (hbk_lt hI ht _) (by omega)) ⟨rfl, rfl⟩ ⟨by decide, by decide⟩ 0 2 rfl rfl rfl rfl rfl (Nat.le_of_ble_eq_true rfl) (fun r42 u42 h42 => ?_)
        obtain ⟨rfl, rfl⟩ := h42
        refine asx_hopeful 46 C hK dX2_fillHopeful_45 rfl (by omega) ?_
        refine hd_eqS (show (N, uZ (rZ Z 28 g) 28 q (nI (ahb N ((h + q) % 12) (hbk N to h hours (hours - (q + 1))))), E, G, T) = (N, rZ Z 28 (upd g q (nI (ahb N ((h + q) % 12) (hbk N to h hours (hours - (q + 1)))))), E, G, T) from by rw [uZ_rZ]) ?_
        refine hd_iinc 49 C dX2_fillHopeful_46 rfl 4 (nI (q - 1)) [(4, .int (nI (q - 1))), (0, .ref (a 0)), (1, .int (nI to)), (2, .int (nI h)), (3, .int (nI hours))] rfl (nI_dec h16) (by decide) rfl ?_
        refine hd_goto 14 C dX2_fillHopeful_49 (by decide) ?_
        refine hd_sub [(0, .ref (a 0)), (1, .int (nI to)), (2, .int (nI h)), (3, .int (nI hours)), (4, .int (nI (q - 1)))] [1, 2, 3, 4, 0] rfl ?_
        exact ih_L (q - 1) _ (by omega) (upd_all (F := fun t => nI (hbk N to h hours (hours - t))) hG (congrArg nI (hbk_step hq).symm)) (by omega)
  refine hd_sub [(0, .ref (a 0)), (1, .int (nI to)), (2, .int (nI h)), (3, .int (nI hours)), (4, .int (nI (hours - 1)))] [1, 2, 3, 4, 0] rfl ?_
  exact L hours (hours - 1) _ (by omega) (fun t h1 h2 => by rw [show t = hours by omega, pk_us, Nat.sub_self]; rfl) (by omega)

set_option maxHeartbeats 4000000 in
set_option maxRecDepth 100000 in
theorem x_actOfSoonest {l : Launch} {D : va_G} {cI cJ cD cS : ClassId} {a : Nat → Nat} {N : Nat → Nat → Nat} {Z : Nat → Nat → Int32} {E : Nat → Nat → Int32} {G : Nat → Nat → Int64} {T : Nat → Nat} {t : Option Nat} (fr to h hours k : Nat) (hI : inv N) (hf : fr < N 0 0) (hto : to < 6) (hh : h < 12) (h24 : hours ≤ 24) (hk : k < hours)  : ctI l D (ty4 cI cJ cD cS) t (wX cI cJ cD cS a) yX2_actOfSoonest cX2_actOfSoonest 10 (some .int) (rmk 3 72) [.ref (a 0), .int (nI fr), .int (nI to), .int (nI h), .int (nI hours), .int (nI k)] (N, Z, E, G, T) (fun (r : Int32) (u : sT) => (∃ g : Nat → Int32, u = (N, rZ Z 28 g, E, G, T)) ∧ r = nI (actS N fr to h hours k)) := by
  refine ctI_of [(0, .ref (a 0)), (1, .int (nI fr)), (2, .int (nI to)), (3, .int (nI h)), (4, .int (nI hours)), (5, .int (nI k))] (by decide) (Nat.le_of_ble_eq_true rfl) rfl ?_
  intro p e s m args below meth c A C hK hZ hA
  have hR := hI.R
  have hDn := hI.D
  refine hd_aload_n 1 C dX2_actOfSoonest_0 rfl 0 rfl rfl ?_
  refine hd_iload_n 2 C dX2_actOfSoonest_1 rfl 2 rfl rfl ?_
  refine hd_iload_n 3 C dX2_actOfSoonest_2 rfl 3 rfl rfl ?_
  refine hd_iload 5 C dX2_actOfSoonest_3 rfl 4 rfl ?_
  refine hd_callVV (rest := []) 8 C hK hZ hA ⟨Nat.zero_le _, Nat.zero_le _⟩ dX2_actOfSoonest_5 rfl kc_X2_211 (x_fillHopeful to h hours hI (by omega) (by omega) (by omega) (by omega)) ⟨rfl, rfl⟩ ⟨by decide, by decide⟩ 0 2 rfl rfl rfl rfl rfl (Nat.le_of_ble_eq_true rfl) (fun u5 h5 => ?_)
  obtain ⟨g, rfl, hG⟩ := h5
  refine hd_iload_n 9 C dX2_actOfSoonest_8 rfl 1 rfl rfl ?_
  refine hd_istore 11 C dX2_actOfSoonest_9 rfl [(6, .int (nI fr)), (0, .ref (a 0)), (1, .int (nI fr)), (2, .int (nI to)), (3, .int (nI h)), (4, .int (nI hours)), (5, .int (nI k))] (by decide) rfl ?_
  refine hd_bipush 13 C dX2_actOfSoonest_11 rfl (-9) (by decide) ?_
  refine hd_istore 15 C dX2_actOfSoonest_13 rfl [(7, .int (-9)), (6, .int (nI fr)), (0, .ref (a 0)), (1, .int (nI fr)), (2, .int (nI to)), (3, .int (nI h)), (4, .int (nI hours)), (5, .int (nI k))] (by decide) rfl ?_
  refine hd_iconst 16 C dX2_actOfSoonest_15 rfl (nI 0) (by decide) ?_
  refine hd_istore 18 C dX2_actOfSoonest_16 rfl [(8, .int (nI 0)), (7, .int (-9)), (6, .int (nI fr)), (0, .ref (a 0)), (1, .int (nI fr)), (2, .int (nI to)), (3, .int (nI h)), (4, .int (nI hours)), (5, .int (nI k))] (by decide) rfl ?_
  have L : ∀ (fuel : Nat) (t : Nat) (v : Int32) (ht : t ≤ k + 1) (hv : ∀ t', t = t' + 1 → v = nI (actS N fr to h hours t')), k + 1 - t < fuel → XW p l e (rmk 3 72) s m args below meth c 10 0 0 A D (MQ below (va_Qi (fun (r : Int32) (u : sT) => (∃ g : Nat → Int32, u = (N, rZ Z 28 g, E, G, T)) ∧ r = nI (actS N fr to h hours k)) (cB D (ty4 cI cJ cD cS) (wX cI cJ cD cS a) A) A) args s 0 0 A) (wX cI cJ cD cS a) (N, rZ Z 28 g, E, G, T) 18 [(0, .ref (a 0)), (1, .int (nI fr)), (2, .int (nI to)), (3, .int (nI h)), (4, .int (nI hours)), (5, .int (nI k)), (6, .int (nI (rmS N fr to h hours t))), (7, .int v), (8, .int (nI t))] [] := by
    intro fuel
    induction fuel with
    | zero => intro t v ht hv hfu; exact absurd hfu (Nat.not_lt_zero _)
    | succ fuel ih_L =>
      intro t v ht hv hfu_L
      refine hd_iload 20 C dX2_actOfSoonest_18 rfl 8 rfl ?_
      refine hd_iload 22 C dX2_actOfSoonest_20 rfl 5 rfl ?_
      refine hd_icmp_gtN 25 78 C dX2_actOfSoonest_22 rfl (by decide) (by omega) (by omega) (fun h22 => ?_) (fun h22 => ?_)
      · skip
        refine hd_iload 80 C dX2_actOfSoonest_78 rfl 7 rfl ?_
        exact hd_iret C hK dX2_actOfSoonest_80 ⟨⟨_, rfl⟩, hv k (by omega)⟩
      · skip
        refine hd_iload 27 C dX2_actOfSoonest_25 rfl 8 rfl ?_
        refine hd_iload 29 C dX2_actOfSoonest_27 rfl 4 rfl ?_
        refine hd_icmp_geN 32 78 C dX2_actOfSoonest_29 rfl (by decide) (by omega) (by omega) (fun h29 => ?_) (fun h29 => ?_)
        · skip
          omega
        · skip
          refine hd_iload_n 33 C dX2_actOfSoonest_32 rfl 3 rfl rfl ?_
          refine hd_iload 35 C dX2_actOfSoonest_33 rfl 8 rfl ?_
          refine hd_iadd 36 C dX2_actOfSoonest_35 rfl (nI (h + t)) (nI_add _ _) ?_
          refine hd_bipush 38 C dX2_actOfSoonest_36 rfl (nI 12) (by decide) ?_
          refine hd_irem 39 C dX2_actOfSoonest_38 rfl (nI ((h + t) % 12)) (nI_ne0 (by omega) (by omega)) (pk_rem (by omega) (by omega) (by omega)) ?_
          refine hd_istore 41 C dX2_actOfSoonest_39 rfl [(9, .int (nI ((h + t) % 12))), (0, .ref (a 0)), (1, .int (nI fr)), (2, .int (nI to)), (3, .int (nI h)), (4, .int (nI hours)), (5, .int (nI k)), (6, .int (nI (rmS N fr to h hours t))), (7, .int v), (8, .int (nI t))] (by decide) rfl ?_
          refine hd_aload_n 42 C dX2_actOfSoonest_41 rfl 1 rfl rfl ?_
          refine hd_iload 44 C dX2_actOfSoonest_42 rfl 7 rfl ?_
          refine hd_iload 46 C dX2_actOfSoonest_44 rfl 0 rfl ?_
          refine hd_aload_n 47 C dX2_actOfSoonest_46 rfl 1 rfl rfl ?_
          refine gx_hopeful 50 C hK dX2_actOfSoonest_47 rfl ?_
          refine hd_iload 52 C dX2_actOfSoonest_50 rfl 9 rfl ?_
          refine hd_iconst 53 C dX2_actOfSoonest_52 rfl (nI 1) (by decide) ?_
          refine hd_iadd 54 C dX2_actOfSoonest_53 rfl (nI (t + 1)) (nI_add _ _) ?_
          refine alx_hopeful 55 C hK dX2_actOfSoonest_54 rfl (by omega) (nI (hbk N to h hours (hours - (t + 1)))) (hG (t + 1) (by omega) (by omega)) ?_
          refine hd_callVI (rest := []) 58 C hK hZ hA ⟨Nat.zero_le _, Nat.zero_le _⟩ dX2_actOfSoonest_55 rfl kc_X2_215 (x_firstHopefulAct (rmS N fr to h hours t) ((h + t) % 12) (hbk N to h hours (hours - (t + 1))) hI (rmS_lt hI hf t) (by omega) (hbk_lt hI hto _)) ⟨rfl, rfl⟩ ⟨by decide, by decide⟩ 0 2 rfl rfl rfl rfl rfl (Nat.le_of_ble_eq_true rfl) (fun r55 u55 h55 => ?_)
          obtain ⟨rfl, rfl⟩ := h55
          refine hd_istore 60 C dX2_actOfSoonest_58 rfl [(7, .int (nI (fha N (rmS N fr to h hours t) ((h + t) % 12) (hbk N to h hours (hours - (t + 1))) (N 0 1) 0))), (9, .int (nI ((h + t) % 12))), (0, .ref (a 0)), (1, .int (nI fr)), (2, .int (nI to)), (3, .int (nI h)), (4, .int (nI hours)), (5, .int (nI k)), (6, .int (nI (rmS N fr to h hours t))), (8, .int (nI t))] (by decide) rfl ?_
          refine hd_aload_n 61 C dX2_actOfSoonest_60 rfl 2 rfl rfl ?_
          have hact := fha_le (N := N) (room := rmS N fr to h hours t) (h := (h + t) % 12) (set := hbk N to h hours (hours - (t + 1))) (N 0 1) 0 (by omega)
          refine hd_iload 63 C dX2_actOfSoonest_61 rfl 0 rfl ?_
          refine hd_iload 65 C dX2_actOfSoonest_63 rfl 8 rfl ?_
          refine hd_iload 67 C dX2_actOfSoonest_65 rfl 1 rfl ?_
          refine hd_callVI (rest := []) 70 C hK hZ hA ⟨Nat.zero_le _, Nat.zero_le _⟩ dX2_actOfSoonest_67 rfl kc_X2_205 (x_roomAfter (fha N (rmS N fr to h hours t) ((h + t) % 12) (hbk N to h hours (hours - (t + 1))) (N 0 1) 0) (rmS N fr to h hours t) ((h + t) % 12) hI (fha_le _ _ (by omega)) (Nat.lt_of_lt_of_le (rmS_lt hI hf t) hR) (by omega)) ⟨rfl, rfl⟩ ⟨by decide, by decide⟩ 0 2 rfl rfl rfl rfl rfl (Nat.le_of_ble_eq_true rfl) (fun r67 u67 h67 => ?_)
          obtain ⟨rfl, rfl⟩ := h67
          rcases ho67 : bh N (-9) (rmS N fr to h hours t) ((h + t) % 12) (fha N (rmS N fr to h hours t) ((h + t) % 12) (hbk N to h hours (hours - (t + 1))) (N 0 1) 0) with _ | rv67
          · skip
            obtain ⟨rr, hrr⟩ := fha_some (N := N) (room := rmS N fr to h hours t) (h := (h + t) % 12) (set := hbk N to h hours (hours - (t + 1))) (N 0 1) 0; rw [hrr] at ho67; cases ho67
          · skip
            have hbrv67 := bh_lt hI (rmS_lt hI hf t) (fha_le _ _ (by omega)) _ ho67
            refine hd_istore 72 C dX2_actOfSoonest_70 rfl [(6, .int (nI rv67)), (7, .int (nI (fha N (rmS N fr to h hours t) ((h + t) % 12) (hbk N to h hours (hours - (t + 1))) (N 0 1) 0))), (9, .int (nI ((h + t) % 12))), (0, .ref (a 0)), (1, .int (nI fr)), (2, .int (nI to)), (3, .int (nI h)), (4, .int (nI hours)), (5, .int (nI k)), (8, .int (nI t))] (by decide) rfl ?_
            refine hd_iinc 75 C dX2_actOfSoonest_72 rfl 9 (nI (t + 1)) [(8, .int (nI (t + 1))), (6, .int (nI rv67)), (7, .int (nI (fha N (rmS N fr to h hours t) ((h + t) % 12) (hbk N to h hours (hours - (t + 1))) (N 0 1) 0))), (9, .int (nI ((h + t) % 12))), (0, .ref (a 0)), (1, .int (nI fr)), (2, .int (nI to)), (3, .int (nI h)), (4, .int (nI hours)), (5, .int (nI k))] rfl (nI_add _ _) (by decide) rfl ?_
            refine hd_goto 18 C dX2_actOfSoonest_75 (by decide) ?_
            rw [show rv67 = rmS N fr to h hours (t + 1) from (by simp [rmS, ho67])]
            refine hd_sub [(0, .ref (a 0)), (1, .int (nI fr)), (2, .int (nI to)), (3, .int (nI h)), (4, .int (nI hours)), (5, .int (nI k)), (6, .int (nI (rmS N fr to h hours (t + 1)))), (7, .int (nI (fha N (rmS N fr to h hours t) ((h + t) % 12) (hbk N to h hours (hours - (t + 1))) (N 0 1) 0))), (8, .int (nI (t + 1)))] [4, 5, 6, 7, 8, 9, 1, 2, 0] rfl ?_
            exact ih_L (t + 1) _ (by omega) (fun t' e => by rw [show t' = t by omega]; rfl) (by omega)
  refine hd_sub [(0, .ref (a 0)), (1, .int (nI fr)), (2, .int (nI to)), (3, .int (nI h)), (4, .int (nI hours)), (5, .int (nI k)), (6, .int (nI fr)), (7, .int (-9)), (8, .int (nI 0))] [3, 4, 5, 6, 7, 8, 2, 1, 0] rfl ?_
  exact L (k + 2) 0 _ (Nat.zero_le _) (fun t' e => by omega) (by omega)

theorem rZ_self (f : Nat → Nat → Int32) (r : Nat) : rZ f r (f r) = f := by
  funext i; by_cases h : i = r <;> simp [rZ, h]

set_option maxHeartbeats 4000000 in
set_option maxRecDepth 100000 in
theorem x_soonest {l : Launch} {D : va_G} {cI cJ cD cS : ClassId} {a : Nat → Nat} {N : Nat → Nat → Nat} {Z : Nat → Nat → Int32} {E : Nat → Nat → Int32} {G : Nat → Nat → Int64} {T : Nat → Nat} {t : Option Nat} (xa xb xh k : Int32) (hI : inv N)  : ctI l D (ty4 cI cJ cD cS) t (wX cI cJ cD cS a) yX2_soonest cX2_soonest 6 (some .int) (rmk 4 101) [.ref (a 0), .int xa, .int xb, .int xh, .int k] (N, Z, E, G, T) (fun (r : Int32) (u : sT) => (∃ g : Nat → Int32, u = (N, rZ Z 28 g, E, G, T)) ∧ r = spSoonest N xa xb xh k) := by
  refine ctI_of [(0, .ref (a 0)), (1, .int xa), (2, .int xb), (3, .int xh), (4, .int k)] (by decide) (Nat.le_of_ble_eq_true rfl) rfl ?_
  intro p e s m args below meth c A C hK hZ hA
  have hR := hI.R
  have hDn := hI.D
  have hQn := hI.Q
  refine hd_aload_n 1 C dX2_soonest_0 rfl 0 rfl rfl ?_
  refine hd_iload_n 2 C dX2_soonest_1 rfl 1 rfl rfl ?_
  refine hd_callVI (rest := []) 5 C hK hZ hA ⟨Nat.zero_le _, Nat.zero_le _⟩ dX2_soonest_2 rfl kc_X2_104 (x_isRoom xa hI) ⟨rfl, rfl⟩ ⟨by decide, by decide⟩ 0 2 rfl rfl rfl rfl rfl (Nat.le_of_ble_eq_true rfl) (fun r2 u2 h2 => ?_)
  obtain ⟨rfl, rfl⟩ := h2
  refine hd_if_eqB 8 16 C dX2_soonest_5 rfl (by decide) (fun h5 => ?_) (fun h5 => ?_)
  · skip
    refine hd_iconst 17 C dX2_soonest_16 rfl (-1) (by decide) ?_
    exact hd_iret C hK dX2_soonest_17 ⟨⟨Z 28, by rw [rZ_self]⟩, by simp [spSoonest, oI, kBm1, h5]⟩
  · skip
    obtain ⟨j, hj_j, rfl⟩ := inB_t h5 (by omega)
    have hc_j : (nI j).toNatClampNeg = j := nI_clamp (by omega)
    refine hd_aload_n 9 C dX2_soonest_8 rfl 0 rfl rfl ?_
    refine hd_iload_n 10 C dX2_soonest_9 rfl 2 rfl rfl ?_
    refine hd_callVI (rest := []) 13 C hK hZ hA ⟨Nat.zero_le _, Nat.zero_le _⟩ dX2_soonest_10 rfl kc_X2_104 (x_isRoom xb hI) ⟨rfl, rfl⟩ ⟨by decide, by decide⟩ 0 2 rfl rfl rfl rfl rfl (Nat.le_of_ble_eq_true rfl) (fun r10 u10 h10 => ?_)
    obtain ⟨rfl, rfl⟩ := h10
    refine hd_if_neB 16 18 C dX2_soonest_13 rfl (by decide) (fun h13 => ?_) (fun h13 => ?_)
    · skip
      obtain ⟨j2, hj_j2, rfl⟩ := inB_t h13 (by omega)
      have hc_j2 : (nI j2).toNatClampNeg = j2 := nI_clamp (by omega)
      refine hd_iload_n 19 C dX2_soonest_18 rfl 3 rfl rfl ?_
      refine hd_callSI (rest := []) 22 C hK hZ hA ⟨Nat.zero_le _, Nat.zero_le _⟩ dX2_soonest_19 rfl kc_X2_94 (x_isHour xh) ⟨rfl, rfl⟩ ⟨by decide, by decide⟩ rfl rfl (Nat.le_of_ble_eq_true rfl) (fun r19 u19 h19 => ?_)
      obtain ⟨rfl, rfl⟩ := h19
      refine hd_if_eqB 25 38 C dX2_soonest_22 rfl (by decide) (fun h22 => ?_) (fun h22 => ?_)
      · skip
        refine hd_bipush 40 C dX2_soonest_38 rfl (-2) (by decide) ?_
        exact hd_iret C hK dX2_soonest_40 ⟨⟨Z 28, by rw [rZ_self]⟩, by simp [spSoonest, oI, kBm1, h5, hc_j, h13, hc_j2, h22]⟩
      · skip
        obtain ⟨h, hj_h, rfl⟩ := inB_t h22 (by omega)
        have hc_h : (nI h).toNatClampNeg = h := nI_clamp (by omega)
        refine hd_iload 27 C dX2_soonest_25 rfl 4 rfl ?_
        refine hd_iconst 28 C dX2_soonest_27 rfl (-1) (by decide) ?_
        refine hd_icmp_lt 31 38 C dX2_soonest_28 rfl (by decide) (fun h28 => ?_) (fun h28 => ?_)
        · skip
          have hkb : kB k = false := kB_f1 h28
          refine hd_bipush 40 C dX2_soonest_38 rfl (-2) (by decide) ?_
          exact hd_iret C hK dX2_soonest_40 ⟨⟨Z 28, by rw [rZ_self]⟩, by simp [spSoonest, oI, kBm1, h5, hc_j, h13, hc_j2, h22, hc_h, hkb]⟩
        · skip
          refine hd_iload 33 C dX2_soonest_31 rfl 4 rfl ?_
          refine hd_bipush 35 C dX2_soonest_33 rfl (nI 24) (by decide) ?_
          refine hd_icmp_lt 38 41 C dX2_soonest_35 rfl (by decide) (fun h35 => ?_) (fun h35 => ?_)
          · skip
            have hkb : kB k = true := kB_t h28 h35
            refine hd_aload_n 42 C dX2_soonest_41 rfl 0 rfl rfl ?_
            refine hd_iload_n 43 C dX2_soonest_42 rfl 1 rfl rfl ?_
            refine hd_iload_n 44 C dX2_soonest_43 rfl 2 rfl rfl ?_
            refine hd_iload_n 45 C dX2_soonest_44 rfl 3 rfl rfl ?_
            refine hd_bipush 47 C dX2_soonest_45 rfl (-9) (by decide) ?_
            refine hd_callVI (rest := []) 50 C hK hZ hA ⟨Nat.zero_le _, Nat.zero_le _⟩ dX2_soonest_47 rfl kc_X2_115 (x_fewestHours j j2 h (-9) hI (by omega) (by omega) (by omega)) ⟨rfl, rfl⟩ ⟨by decide, by decide⟩ 0 2 rfl rfl rfl rfl rfl (Nat.le_of_ble_eq_true rfl) (fun r47 u47 h47 => ?_)
            obtain ⟨rfl, rfl⟩ := h47
            rcases ho47 : sn N (-9) j j2 h 24 with _ | rv47
            · skip
              refine hd_istore 52 C dX2_soonest_50 rfl [(5, .int (-9)), (0, .ref (a 0)), (1, .int (nI j)), (2, .int (nI j2)), (3, .int (nI h)), (4, .int k)] (by decide) rfl ?_
              refine hd_iload 54 C dX2_soonest_52 rfl 5 rfl ?_
              refine hd_iconst 55 C dX2_soonest_54 rfl (-1) (by decide) ?_
              refine hd_icmp_ne 58 61 C dX2_soonest_55 rfl (by decide) (fun h55 => ?_) (fun h55 => ?_)
              · skip
                refine hd_iload 63 C dX2_soonest_61 rfl 5 rfl ?_
                refine hd_iload 65 C dX2_soonest_63 rfl 0 rfl ?_
                refine hd_icmp_lt 68 71 C dX2_soonest_65 rfl (by decide) (fun h65 => ?_) (fun h65 => ?_)
                · skip
                  exact absurd h65 (kB_n9 hkb)
                · skip
                  refine hd_bipush 70 C dX2_soonest_68 rfl (-9) (by decide) ?_
                  exact hd_iret C hK dX2_soonest_70 ⟨⟨Z 28, by rw [rZ_self]⟩, by simp [spSoonest, oI, kBm1, h5, hc_j, h13, hc_j2, h22, hc_h, hkb, ho47, h55, h65]⟩
              · skip
                refine hd_iload 60 C dX2_soonest_58 rfl 0 rfl ?_
                exact hd_iret C hK dX2_soonest_60 ⟨⟨Z 28, by rw [rZ_self]⟩, by simp [spSoonest, oI, kBm1, h5, hc_j, h13, hc_j2, h22, hc_h, hkb, ho47, h55]⟩
            · skip
              have hbrv47 := sn_lt _ ho47
              refine hd_istore 52 C dX2_soonest_50 rfl [(5, .int (nI rv47)), (0, .ref (a 0)), (1, .int (nI j)), (2, .int (nI j2)), (3, .int (nI h)), (4, .int k)] (by decide) rfl ?_
              refine hd_iload 54 C dX2_soonest_52 rfl 5 rfl ?_
              refine hd_iconst 55 C dX2_soonest_54 rfl (-1) (by decide) ?_
              refine hd_icmp_ne 58 61 C dX2_soonest_55 rfl (by decide) (fun h55 => ?_) (fun h55 => ?_)
              · skip
                have hk9 := kB_pos hkb h55
                have hin := kB_in hkb hk9
                obtain ⟨q, hj_q, rfl⟩ := inB_t hin (by omega)
                have hc_q : (nI q).toNatClampNeg = q := nI_clamp (by omega)
                refine hd_iload 63 C dX2_soonest_61 rfl 5 rfl ?_
                refine hd_iload 65 C dX2_soonest_63 rfl 0 rfl ?_
                refine hd_icmp_ltN 68 71 C dX2_soonest_65 rfl (by decide) (by omega) (by omega) (fun h65 => ?_) (fun h65 => ?_)
                · skip
                  have hlt := nI_lt h65 (by omega)
                  refine hd_aload_n 72 C dX2_soonest_71 rfl 1 rfl rfl ?_
                  refine hd_iload_n 73 C dX2_soonest_72 rfl 2 rfl rfl ?_
                  refine hd_iload_n 74 C dX2_soonest_73 rfl 3 rfl rfl ?_
                  refine hd_iload_n 75 C dX2_soonest_74 rfl 4 rfl rfl ?_
                  refine hd_iload 77 C dX2_soonest_75 rfl 0 rfl ?_
                  refine hd_iload 79 C dX2_soonest_77 rfl 5 rfl ?_
                  refine hd_callVI (rest := []) 82 C hK hZ hA ⟨Nat.zero_le _, Nat.zero_le _⟩ dX2_soonest_79 rfl kc_X2_119 (x_actOfSoonest j j2 h rv47 q hI (by omega) (by omega) (by omega) (by omega) (by omega)) ⟨rfl, rfl⟩ ⟨by decide, by decide⟩ 0 2 rfl rfl rfl rfl rfl (Nat.le_of_ble_eq_true rfl) (fun r79 u79 h79 => ?_)
                  obtain ⟨⟨g, rfl⟩, rfl⟩ := h79
                  exact hd_iret C hK dX2_soonest_82 ⟨⟨_, rfl⟩, by simp [spSoonest, oI, kBm1, h5, hc_j, h13, hc_j2, h22, hc_h, hkb, ho47, h55, hc_q, hlt]⟩
                · skip
                  have hlt := nI_nlt h65 (by omega)
                  refine hd_bipush 70 C dX2_soonest_68 rfl (-9) (by decide) ?_
                  exact hd_iret C hK dX2_soonest_70 ⟨⟨Z 28, by rw [rZ_self]⟩, by simp [spSoonest, oI, kBm1, h5, hc_j, h13, hc_j2, h22, hc_h, hkb, ho47, h55, hc_q, hlt]⟩
              · skip
                refine hd_iload 60 C dX2_soonest_58 rfl 0 rfl ?_
                exact hd_iret C hK dX2_soonest_60 ⟨⟨Z 28, by rw [rZ_self]⟩, by simp [spSoonest, oI, kBm1, h5, hc_j, h13, hc_j2, h22, hc_h, hkb, ho47, h55]⟩
          · skip
            have hkb : kB k = false := kB_f2 h35
            refine hd_bipush 40 C dX2_soonest_38 rfl (-2) (by decide) ?_
            exact hd_iret C hK dX2_soonest_40 ⟨⟨Z 28, by rw [rZ_self]⟩, by simp [spSoonest, oI, kBm1, h5, hc_j, h13, hc_j2, h22, hc_h, hkb]⟩
    · skip
      refine hd_iconst 17 C dX2_soonest_16 rfl (-1) (by decide) ?_
      exact hd_iret C hK dX2_soonest_17 ⟨⟨Z 28, by rw [rZ_self]⟩, by simp [spSoonest, oI, kBm1, h5, hc_j, h13]⟩

set_option maxHeartbeats 4000000 in
set_option maxRecDepth 100000 in
theorem x_commonWithHours {l : Launch} {D : va_G} {tys : List (ClassId × FieldType)} {σ : Type} {w : σ → va_W} {S : σ} {t : Option Nat} (u : Nat) (hu : u ≤ 12)  : ctI l D tys t w yX2_commonWithHours cX2_commonWithHours 2 (some .int) (rmk 0 0) [.int (nI u)] S (fun (r : Int32) (z : σ) => z = S ∧ r = nI (Nat.gcd u 12)) := by
  refine ctI_of [(0, .int (nI u))] (by decide) (Nat.le_of_ble_eq_true rfl) rfl ?_
  intro p e s m args below meth c A C hK hZ hA
  refine hd_bipush 2 C dX2_commonWithHours_0 rfl (nI 12) (by decide) ?_
  refine hd_istore_n 3 C dX2_commonWithHours_2 rfl [(1, .int (nI 12)), (0, .int (nI u))] rfl (by decide) rfl ?_
  have L : ∀ (fuel : Nat) (q : Nat) (hc : 0 < q ∧ q ≤ 12) (hF : cwh u 12 = cwh u q), q < fuel → XW p l e (rmk 0 0) s m args below meth c 2 0 0 A D (MQ below (va_Qi (fun (r : Int32) (z : σ) => z = S ∧ r = nI (Nat.gcd u 12)) (cB D tys w A) A) args s 0 0 A) w S 3 [(0, .int (nI u)), (1, .int (nI q))] [] := by
    intro fuel
    induction fuel with
    | zero => intro q hc hF hfu; exact absurd hfu (Nat.not_lt_zero _)
    | succ fuel ih_L =>
      intro q hc hF hfu_L
      refine hd_iload_n 4 C dX2_commonWithHours_3 rfl 1 rfl rfl ?_
      refine hd_iconst 5 C dX2_commonWithHours_4 rfl (nI 1) (by decide) ?_
      refine hd_icmp_leN 8 29 C dX2_commonWithHours_5 rfl (by decide) (by omega) (by omega) (fun h5 => ?_) (fun h5 => ?_)
      · skip
        refine hd_iconst 30 C dX2_commonWithHours_29 rfl (nI 1) (by decide) ?_
        exact hd_iret C hK dX2_commonWithHours_30 ⟨rfl, congrArg nI (by rw [← cwh_gcd u (by omega), hF, show q = 1 by omega]; rfl)⟩
      · skip
        refine hd_bipush 10 C dX2_commonWithHours_8 rfl (nI 12) (by decide) ?_
        refine hd_iload_n 11 C dX2_commonWithHours_10 rfl 1 rfl rfl ?_
        refine hd_irem 12 C dX2_commonWithHours_11 rfl (nI (12 % q)) (nI_ne0 (by omega) (by omega)) (pk_rem (by omega) (by omega) (by omega)) ?_
        have hm1 := Nat.mod_lt 12 (show 0 < q by omega)
        refine hd_if_neN 15 23 C dX2_commonWithHours_12 rfl (by decide) (by omega) (fun h12 => ?_) (fun h12 => ?_)
        · skip
          refine hd_iinc 26 C dX2_commonWithHours_23 rfl 1 (nI (q - 1)) [(1, .int (nI (q - 1))), (0, .int (nI u))] rfl (nI_dec (by omega)) (by decide) rfl ?_
          refine hd_goto 3 C dX2_commonWithHours_26 (by decide) ?_
          refine hd_sub [(0, .int (nI u)), (1, .int (nI (q - 1)))] [1, 0] rfl ?_
          exact ih_L (q - 1) (by omega) (by rw [hF, show q = (q - 2) + 2 by omega, cwh_s, if_neg (by rw [show q - 2 + 2 = q by omega]; omega)]; congr 1) (by omega)
        · skip
          refine hd_iload_n 16 C dX2_commonWithHours_15 rfl 0 rfl rfl ?_
          refine hd_iload_n 17 C dX2_commonWithHours_16 rfl 1 rfl rfl ?_
          refine hd_irem 18 C dX2_commonWithHours_17 rfl (nI (u % q)) (nI_ne0 (by omega) (by omega)) (pk_rem (by omega) (by omega) (by omega)) ?_
          have hm2 := Nat.mod_lt u (show 0 < q by omega)
          refine hd_if_neN 21 23 C dX2_commonWithHours_18 rfl (by decide) (by omega) (fun h18 => ?_) (fun h18 => ?_)
          · skip
            refine hd_iinc 26 C dX2_commonWithHours_23 rfl 1 (nI (q - 1)) [(1, .int (nI (q - 1))), (0, .int (nI u))] rfl (nI_dec (by omega)) (by decide) rfl ?_
            refine hd_goto 3 C dX2_commonWithHours_26 (by decide) ?_
            refine hd_sub [(0, .int (nI u)), (1, .int (nI (q - 1)))] [1, 0] rfl ?_
            exact ih_L (q - 1) (by omega) (by rw [hF, show q = (q - 2) + 2 by omega, cwh_s, if_neg (by rw [show q - 2 + 2 = q by omega]; omega)]; congr 1) (by omega)
          · skip
            refine hd_iload_n 22 C dX2_commonWithHours_21 rfl 1 rfl rfl ?_
            exact hd_iret C hK dX2_commonWithHours_22 ⟨rfl, congrArg nI (by rw [← cwh_gcd u (by omega), hF, show q = (q - 2) + 2 by omega, cwh_s, if_pos (by rw [show q - 2 + 2 = q by omega]; omega)])⟩
  refine hd_sub [(0, .int (nI u)), (1, .int (nI 12))] [1, 0] rfl ?_
  exact L 13 12 (by omega) rfl (by omega)

set_option maxHeartbeats 4000000 in
set_option maxRecDepth 100000 in
theorem x_odds {l : Launch} {D : va_G} {cI cJ cD cS : ClassId} {a : Nat → Nat} {N : Nat → Nat → Nat} {Z : Nat → Nat → Int32} {E : Nat → Nat → Int32} {G : Nat → Nat → Int64} {T : Nat → Nat} {t : Option Nat} (xa xb xn xw : Int32) (hI : inv N)  : ctL l D (ty4 cI cJ cD cS) t (wX cI cJ cD cS a) yX2_odds cX2_odds 8 (some .long) (rmk 3 75) [.ref (a 0), .int xa, .int xb, .int xn, .int xw] (N, Z, E, G, T) (fun (r : Int64) (u : sT) => u = (N, Z, E, G, T) ∧ r = spOdds N xa xb xn xw) := by
  refine ctL_of [(0, .ref (a 0)), (1, .int xa), (2, .int xb), (3, .int xn), (4, .int xw)] (by decide) (Nat.le_of_ble_eq_true rfl) rfl ?_
  intro p e s m args below meth c A C hK hZ hA
  have hR := hI.R
  have hDn := hI.D
  have hQn := hI.Q
  refine hd_aload_n 1 C dX2_odds_0 rfl 0 rfl rfl ?_
  refine hd_iload_n 2 C dX2_odds_1 rfl 1 rfl rfl ?_
  refine hd_callVI (rest := []) 5 C hK hZ hA ⟨Nat.zero_le _, Nat.zero_le _⟩ dX2_odds_2 rfl kc_X2_104 (x_isRoom xa hI) ⟨rfl, rfl⟩ ⟨by decide, by decide⟩ 0 2 rfl rfl rfl rfl rfl (Nat.le_of_ble_eq_true rfl) (fun r2 u2 h2 => ?_)
  obtain ⟨rfl, rfl⟩ := h2
  refine hd_if_eqB 8 16 C dX2_odds_5 rfl (by decide) (fun h5 => ?_) (fun h5 => ?_)
  · skip
    refine hd_ldc2 19 C dX2_odds_16 rfl kl_X2_146 ?_
    exact hd_lret C hK dX2_odds_19 ⟨rfl, by simp [spOdds, h5]⟩
  · skip
    obtain ⟨j, hj_j, rfl⟩ := inB_t h5 (by omega)
    have hc_j : (nI j).toNatClampNeg = j := nI_clamp (by omega)
    refine hd_aload_n 9 C dX2_odds_8 rfl 0 rfl rfl ?_
    refine hd_iload_n 10 C dX2_odds_9 rfl 2 rfl rfl ?_
    refine hd_callVI (rest := []) 13 C hK hZ hA ⟨Nat.zero_le _, Nat.zero_le _⟩ dX2_odds_10 rfl kc_X2_104 (x_isRoom xb hI) ⟨rfl, rfl⟩ ⟨by decide, by decide⟩ 0 2 rfl rfl rfl rfl rfl (Nat.le_of_ble_eq_true rfl) (fun r10 u10 h10 => ?_)
    obtain ⟨rfl, rfl⟩ := h10
    refine hd_if_neB 16 20 C dX2_odds_13 rfl (by decide) (fun h13 => ?_) (fun h13 => ?_)
    · skip
      obtain ⟨k, hj_k, rfl⟩ := inB_t h13 (by omega)
      have hc_k : (nI k).toNatClampNeg = k := nI_clamp (by omega)
      refine hd_iload_n 21 C dX2_odds_20 rfl 3 rfl rfl ?_
      refine hd_if_lt 24 41 C dX2_odds_21 rfl (by decide) (fun h21 => ?_) (fun h21 => ?_)
      · skip
        have hb1 : inB xn 25 = false := inB_neg h21
        refine hd_ldc2 44 C dX2_odds_41 rfl kl_X2_146 ?_
        exact hd_lret C hK dX2_odds_44 ⟨rfl, by simp [spOdds, h5, hc_j, h13, hc_k, hb1]⟩
      · skip
        refine hd_iload_n 25 C dX2_odds_24 rfl 3 rfl rfl ?_
        refine hd_bipush 27 C dX2_odds_25 rfl (nI 24) (by decide) ?_
        refine hd_icmp_gt 30 41 C dX2_odds_27 rfl (by decide) (fun h27 => ?_) (fun h27 => ?_)
        · skip
          have hb1 : inB xn 25 = false := inB_gt (n := 24) (by decide) (fa_of_lt h27).2.1
          refine hd_ldc2 44 C dX2_odds_41 rfl kl_X2_146 ?_
          exact hd_lret C hK dX2_odds_44 ⟨rfl, by simp [spOdds, h5, hc_j, h13, hc_k, hb1]⟩
        · skip
          have hb1 := inB_le (n := 24) (by decide) h21 (fa_of_nlt h27)
          obtain ⟨n, hj_n, rfl⟩ := inB_t hb1 (by omega)
          have hc_n : (nI n).toNatClampNeg = n := nI_clamp (by omega)
          refine hd_iload 32 C dX2_odds_30 rfl 4 rfl ?_
          refine hd_if_lt 35 41 C dX2_odds_32 rfl (by decide) (fun h32 => ?_) (fun h32 => ?_)
          · skip
            have hb2 : inB xw 2 = false := inB_neg h32
            refine hd_ldc2 44 C dX2_odds_41 rfl kl_X2_146 ?_
            exact hd_lret C hK dX2_odds_44 ⟨rfl, by simp [spOdds, h5, hc_j, h13, hc_k, hb1, hc_n, hb2]⟩
          · skip
            refine hd_iload 37 C dX2_odds_35 rfl 4 rfl ?_
            refine hd_iconst 38 C dX2_odds_37 rfl (nI 1) (by decide) ?_
            refine hd_icmp_le 41 45 C dX2_odds_38 rfl (by decide) (fun h38 => ?_) (fun h38 => ?_)
            · skip
              have hb2 := inB_le (n := 1) (by decide) h32 h38
              obtain ⟨w, hj_w, rfl⟩ := inB_t hb2 (by omega)
              have hc_w : (nI w).toNatClampNeg = w := nI_clamp (by omega)
              refine hd_iconst 46 C dX2_odds_45 rfl (nI 0) (by decide) ?_
              refine hd_istore 48 C dX2_odds_46 rfl [(5, .int (nI 0)), (0, .ref (a 0)), (1, .int (nI j)), (2, .int (nI k)), (3, .int (nI n)), (4, .int (nI w))] (by decide) rfl ?_
              refine hd_iconst 49 C dX2_odds_48 rfl (nI 0) (by decide) ?_
              refine hd_istore 51 C dX2_odds_49 rfl [(6, .int (nI 0)), (5, .int (nI 0)), (0, .ref (a 0)), (1, .int (nI j)), (2, .int (nI k)), (3, .int (nI n)), (4, .int (nI w))] (by decide) rfl ?_
              have L : ∀ (fuel : Nat) (hr : Nat) (hhr : hr ≤ 12), 12 - hr < fuel → XW p l e (rmk 3 75) s m args below meth c 8 0 0 A D (MQ below (va_Ql (fun (r : Int64) (u : sT) => u = (N, Z, E, G, T) ∧ r = spOdds N (nI j) (nI k) (nI n) (nI w)) (cB D (ty4 cI cJ cD cS) (wX cI cJ cD cS a) A) A) args s 0 0 A) (wX cI cJ cD cS a) (N, Z, E, G, T) 51 [(0, .ref (a 0)), (1, .int (nI j)), (2, .int (nI k)), (3, .int (nI n)), (4, .int (nI w)), (5, .int (nI (oc N j k n hr))), (6, .int (nI hr))] [] := by
                intro fuel
                induction fuel with
                | zero => intro hr hhr hfu; exact absurd hfu (Nat.not_lt_zero _)
                | succ fuel ih_L =>
                  intro hr hhr hfu_L
                  refine hd_iload 53 C dX2_odds_51 rfl 6 rfl ?_
                  refine hd_bipush 55 C dX2_odds_53 rfl (nI 12) (by decide) ?_
                  refine hd_icmp_geN 58 92 C dX2_odds_55 rfl (by decide) (by omega) (by omega) (fun h55 => ?_) (fun h55 => ?_)
                  · skip
                    obtain rfl : hr = 12 := by omega
                    have hoc := oc_le (N := N) (fr := j) (to := k) (n := n) 12
                    have hgp := gcd_pos12 (oc N j k n 12)
                    have hgl := gcd_le12 (oc N j k n 12)
                    refine hd_iload 94 C dX2_odds_92 rfl 5 rfl ?_
                    refine hd_callSI (rest := []) 97 C hK hZ hA ⟨Nat.zero_le _, Nat.zero_le _⟩ dX2_odds_94 rfl kc_X2_148 (x_commonWithHours (oc N j k n 12) (by omega)) ⟨rfl, rfl⟩ ⟨by decide, by decide⟩ rfl rfl (Nat.le_of_ble_eq_true rfl) (fun r94 u94 h94 => ?_)
                    obtain ⟨rfl, rfl⟩ := h94
                    refine hd_istore 99 C dX2_odds_97 rfl [(6, .int (nI (Nat.gcd (oc N j k n 12) 12))), (0, .ref (a 0)), (1, .int (nI j)), (2, .int (nI k)), (3, .int (nI n)), (4, .int (nI w)), (5, .int (nI (oc N j k n 12)))] (by decide) rfl ?_
                    refine hd_iload 101 C dX2_odds_99 rfl 5 rfl ?_
                    refine hd_if_neN 104 109 C dX2_odds_101 rfl (by decide) (by omega) (fun h101 => ?_) (fun h101 => ?_)
                    · skip
                      refine hd_bipush 111 C dX2_odds_109 rfl (nI 12) (by decide) ?_
                      refine hd_iload 113 C dX2_odds_111 rfl 0 rfl ?_
                      refine hd_idiv 114 C dX2_odds_113 rfl (nI (12 / (Nat.gcd (oc N j k n 12) 12))) (nI_ne0 (by omega) (by omega)) (pk_div (by omega) (by omega) (by omega)) ?_
                      refine hd_i2l 115 C dX2_odds_114 rfl (lN (12 / (Nat.gcd (oc N j k n 12) 12))) (nI_l (Nat.lt_of_le_of_lt (Nat.div_le_self _ _) (by omega))) ?_
                      exact hd_lret C hK dX2_odds_115 ⟨rfl, by unfold spOdds shr cl; rw [if_pos ⟨h5, h13, hb1, hb2⟩, hc_j, hc_k, hc_n, hc_w, if_neg h101]⟩
                    · skip
                      refine hd_iload 106 C dX2_odds_104 rfl 6 rfl ?_
                      refine hd_goto 111 C dX2_odds_106 (by decide) ?_
                      refine hd_iload 113 C dX2_odds_111 rfl 0 rfl ?_
                      refine hd_idiv 114 C dX2_odds_113 rfl (nI ((oc N j k n 12) / (Nat.gcd (oc N j k n 12) 12))) (nI_ne0 (by omega) (by omega)) (pk_div (by omega) (by omega) (by omega)) ?_
                      refine hd_i2l 115 C dX2_odds_114 rfl (lN ((oc N j k n 12) / (Nat.gcd (oc N j k n 12) 12))) (nI_l (Nat.lt_of_le_of_lt (Nat.div_le_self _ _) (by omega))) ?_
                      exact hd_lret C hK dX2_odds_115 ⟨rfl, by unfold spOdds shr cl; rw [if_pos ⟨h5, h13, hb1, hb2⟩, hc_j, hc_k, hc_n, hc_w, if_pos h101]⟩
                  · skip
                    refine hd_aload_n 59 C dX2_odds_58 rfl 0 rfl rfl ?_
                    refine hd_iload_n 60 C dX2_odds_59 rfl 1 rfl rfl ?_
                    refine hd_iload_n 61 C dX2_odds_60 rfl 2 rfl rfl ?_
                    refine hd_iload 63 C dX2_odds_61 rfl 6 rfl ?_
                    refine hd_bipush 65 C dX2_odds_63 rfl (-9) (by decide) ?_
                    refine hd_callVI (rest := []) 68 C hK hZ hA ⟨Nat.zero_le _, Nat.zero_le _⟩ dX2_odds_65 rfl kc_X2_115 (x_fewestHours j k hr (-9) hI (by omega) (by omega) (by omega)) ⟨rfl, rfl⟩ ⟨by decide, by decide⟩ 0 2 rfl rfl rfl rfl rfl (Nat.le_of_ble_eq_true rfl) (fun r65 u65 h65 => ?_)
                    obtain ⟨rfl, rfl⟩ := h65
                    rcases ho65 : sn N (-9) j k hr 24 with _ | rv65
                    · skip
                      refine hd_istore 70 C dX2_odds_68 rfl [(7, .int (-9)), (0, .ref (a 0)), (1, .int (nI j)), (2, .int (nI k)), (3, .int (nI n)), (4, .int (nI w)), (5, .int (nI (oc N j k n hr))), (6, .int (nI hr))] (by decide) rfl ?_
                      refine hd_iload 72 C dX2_odds_70 rfl 0 rfl ?_
                      refine hd_bipush 74 C dX2_odds_72 rfl (-9) (by decide) ?_
                      refine hd_icmp_eq 77 86 C dX2_odds_74 rfl (by decide) (fun _ => ?_) (fun q => absurd (by decide) q)
                      refine hd_iinc 89 C dX2_odds_86 rfl 7 (nI (hr + 1)) [(6, .int (nI (hr + 1))), (7, .int (-9)), (0, .ref (a 0)), (1, .int (nI j)), (2, .int (nI k)), (3, .int (nI n)), (4, .int (nI w)), (5, .int (nI (oc N j k n hr)))] rfl (nI_add _ _) (by decide) rfl ?_
                      refine hd_goto 51 C dX2_odds_89 (by decide) ?_
                      rw [show oc N j k n hr = oc N j k n (hr + 1) from (by simp [oc, snle, ho65])]
                      refine hd_sub [(0, .ref (a 0)), (1, .int (nI j)), (2, .int (nI k)), (3, .int (nI n)), (4, .int (nI w)), (5, .int (nI (oc N j k n (hr + 1)))), (6, .int (nI (hr + 1)))] [2, 3, 4, 5, 6, 7, 0] rfl ?_
                      exact ih_L (hr + 1) (by omega) (by omega)
                    · skip
                      have hbrv65 := sn_lt _ ho65
                      refine hd_istore 70 C dX2_odds_68 rfl [(7, .int (nI rv65)), (0, .ref (a 0)), (1, .int (nI j)), (2, .int (nI k)), (3, .int (nI n)), (4, .int (nI w)), (5, .int (nI (oc N j k n hr))), (6, .int (nI hr))] (by decide) rfl ?_
                      refine hd_iload 72 C dX2_odds_70 rfl 0 rfl ?_
                      refine hd_bipush 74 C dX2_odds_72 rfl (-9) (by decide) ?_
                      refine hd_icmp_eq 77 86 C dX2_odds_74 rfl (by decide) (fun q => absurd q (nI_ne9 (by omega))) (fun _ => ?_)
                      refine hd_iload 79 C dX2_odds_77 rfl 0 rfl ?_
                      refine hd_iload_n 80 C dX2_odds_79 rfl 4 rfl rfl ?_
                      refine hd_icmp_gtN 83 86 C dX2_odds_80 rfl (by decide) (by omega) (by omega) (fun h80 => ?_) (fun h80 => ?_)
                      · skip
                        refine hd_iinc 89 C dX2_odds_86 rfl 7 (nI (hr + 1)) [(6, .int (nI (hr + 1))), (7, .int (nI rv65)), (0, .ref (a 0)), (1, .int (nI j)), (2, .int (nI k)), (3, .int (nI n)), (4, .int (nI w)), (5, .int (nI (oc N j k n hr)))] rfl (nI_add _ _) (by decide) rfl ?_
                        refine hd_goto 51 C dX2_odds_89 (by decide) ?_
                        rw [show oc N j k n hr = oc N j k n (hr + 1) from (by simp [oc, snle, ho65, h80])]
                        refine hd_sub [(0, .ref (a 0)), (1, .int (nI j)), (2, .int (nI k)), (3, .int (nI n)), (4, .int (nI w)), (5, .int (nI (oc N j k n (hr + 1)))), (6, .int (nI (hr + 1)))] [2, 3, 4, 5, 6, 7, 0] rfl ?_
                        exact ih_L (hr + 1) (by omega) (by omega)
                      · skip
                        refine hd_iinc 86 C dX2_odds_83 rfl 6 (nI (oc N j k n hr + 1)) [(5, .int (nI (oc N j k n hr + 1))), (7, .int (nI rv65)), (0, .ref (a 0)), (1, .int (nI j)), (2, .int (nI k)), (3, .int (nI n)), (4, .int (nI w)), (6, .int (nI hr))] rfl (nI_add _ _) (by decide) rfl ?_
                        refine hd_iinc 89 C dX2_odds_86 rfl 7 (nI (hr + 1)) [(6, .int (nI (hr + 1))), (5, .int (nI (oc N j k n hr + 1))), (7, .int (nI rv65)), (0, .ref (a 0)), (1, .int (nI j)), (2, .int (nI k)), (3, .int (nI n)), (4, .int (nI w))] rfl (nI_add _ _) (by decide) rfl ?_
                        refine hd_goto 51 C dX2_odds_89 (by decide) ?_
                        rw [show oc N j k n hr + 1 = oc N j k n (hr + 1) from (by simp [oc, snle, ho65, h80])]
                        refine hd_sub [(0, .ref (a 0)), (1, .int (nI j)), (2, .int (nI k)), (3, .int (nI n)), (4, .int (nI w)), (5, .int (nI (oc N j k n (hr + 1)))), (6, .int (nI (hr + 1)))] [3, 4, 5, 6, 7, 1, 0] rfl ?_
                        exact ih_L (hr + 1) (by omega) (by omega)
              refine hd_sub [(0, .ref (a 0)), (1, .int (nI j)), (2, .int (nI k)), (3, .int (nI n)), (4, .int (nI w)), (5, .int (nI 0)), (6, .int (nI 0))] [2, 3, 4, 5, 6, 1, 0] rfl ?_
              exact L 13 0 (Nat.zero_le _) (by omega)
            · skip
              have hb2 : inB xw 2 = false := inB_gt (n := 1) (by decide) h38
              refine hd_ldc2 44 C dX2_odds_41 rfl kl_X2_146 ?_
              exact hd_lret C hK dX2_odds_44 ⟨rfl, by simp [spOdds, h5, hc_j, h13, hc_k, hb1, hc_n, hb2]⟩
    · skip
      refine hd_ldc2 19 C dX2_odds_16 rfl kl_X2_146 ?_
      exact hd_lret C hK dX2_odds_19 ⟨rfl, by simp [spOdds, h5, hc_j, h13]⟩

set_option maxHeartbeats 4000000 in
set_option maxRecDepth 100000 in
theorem m_share {l : Launch} {D : va_G} {tys : List (ClassId × FieldType)} {σ : Type} {w : σ → va_W} {S : σ} {t : Option Nat} (u : Nat) (wq : Nat) (hu : u ≤ 12) (hw : wq < 2)  : ctL l D tys t w yX3_share cX3_share 11 (some .long) (rmk 0 0) [.long (lN u), .long (lN 12), .int (nI wq)] S (fun (r : Int64) (z : σ) => z = S ∧ r = shr u wq) := by
  refine ctL_of [(0, .long (lN u)), (2, .long (lN 12)), (4, .int (nI wq))] (by decide) (Nat.le_of_ble_eq_true rfl) rfl ?_
  intro p e s m args below meth c A C hK hZ hA
  refine hd_lload_n 1 C dX3_share_0 rfl 0 rfl rfl ?_
  refine hd_lstore 3 C dX3_share_1 rfl [(5, .long (lN u)), (0, .long (lN u)), (2, .long (lN 12)), (4, .int (nI wq))] (by decide) rfl ?_
  refine hd_lload_n 4 C dX3_share_3 rfl 2 rfl rfl ?_
  refine hd_lstore 6 C dX3_share_4 rfl [(7, .long (lN 12)), (5, .long (lN u)), (0, .long (lN u)), (2, .long (lN 12)), (4, .int (nI wq))] (by decide) rfl ?_
  have L : ∀ (fuel : Nat) (x y : Nat) (hx : x ≤ 12) (hxy : y ≤ 12) (hF : Nat.gcd x y = Nat.gcd u 12), y < fuel → XW p l e (rmk 0 0) s m args below meth c 11 0 0 A D (MQ below (va_Ql (fun (r : Int64) (z : σ) => z = S ∧ r = shr u wq) (cB D tys w A) A) args s 0 0 A) w S 6 [(0, .long (lN u)), (2, .long (lN 12)), (4, .int (nI wq)), (5, .long (lN x)), (7, .long (lN y))] [] := by
    intro fuel
    induction fuel with
    | zero => intro x y hx hxy hF hfu; exact absurd hfu (Nat.not_lt_zero _)
    | succ fuel ih_L =>
      intro x y hx hxy hF hfu_L
      refine hd_lload 8 C dX3_share_6 rfl 4 rfl ?_
      refine hd_lconst 9 C dX3_share_8 rfl 0 (by decide) ?_
      refine hd_lc_eq 13 31 C dX3_share_9 dX3_share_10 rfl (by decide) (fun h9 => ?_) (fun h9 => ?_)
      · skip
        have hy0 : y = 0 := by rw [show (0 : Int64) = lN 0 from rfl, lN_eq (by omega) (by decide)] at h9; exact h9
        have hx0 : x = Nat.gcd u 12 := by rw [← hF, hy0, Nat.gcd_zero_right]
        have hgp := gcd_pos12 u
        refine hd_iload 33 C dX3_share_31 rfl 2 rfl ?_
        refine hd_if_neN 36 40 C dX3_share_33 rfl (by decide) (by omega) (fun h33 => ?_) (fun h33 => ?_)
        · skip
          refine hd_lload_n 41 C dX3_share_40 rfl 1 rfl rfl ?_
          refine hd_lload 43 C dX3_share_41 rfl 3 rfl ?_
          refine hd_ldiv 44 C dX3_share_43 rfl (lN (12 / Nat.gcd u 12)) (fun e => by rw [hx0, show (0 : Int64) = lN 0 from rfl, lN_eq (by omega) (by decide)] at e; omega) (by rw [hx0]; exact pk_lDiv (by omega) (by omega) (by omega)) ?_
          exact hd_lret C hK dX3_share_44 ⟨rfl, by simp [shr, h33]⟩
        · skip
          refine hd_lload_n 37 C dX3_share_36 rfl 0 rfl rfl ?_
          refine hd_goto 41 C dX3_share_37 (by decide) ?_
          refine hd_lload 43 C dX3_share_41 rfl 3 rfl ?_
          refine hd_ldiv 44 C dX3_share_43 rfl (lN (u / Nat.gcd u 12)) (fun e => by rw [hx0, show (0 : Int64) = lN 0 from rfl, lN_eq (by omega) (by decide)] at e; omega) (by rw [hx0]; exact pk_lDiv (by omega) (by omega) (by omega)) ?_
          exact hd_lret C hK dX3_share_44 ⟨rfl, by simp [shr, h33]⟩
      · skip
        have hy0 : y ≠ 0 := fun e => h9 (by rw [e]; rfl)
        refine hd_lload 15 C dX3_share_13 rfl 3 rfl ?_
        refine hd_lload 17 C dX3_share_15 rfl 4 rfl ?_
        refine hd_lrem 18 C dX3_share_17 rfl (lN (x % y)) (fun e => h9 e) (pk_lRem (by omega) (by omega) (by omega)) ?_
        refine hd_lstore 20 C dX3_share_18 rfl [(9, .long (lN (x % y))), (0, .long (lN u)), (2, .long (lN 12)), (4, .int (nI wq)), (5, .long (lN x)), (7, .long (lN y))] (by decide) rfl ?_
        refine hd_lload 22 C dX3_share_20 rfl 5 rfl ?_
        refine hd_lstore 24 C dX3_share_22 rfl [(5, .long (lN y)), (9, .long (lN (x % y))), (0, .long (lN u)), (2, .long (lN 12)), (4, .int (nI wq)), (7, .long (lN y))] (by decide) rfl ?_
        refine hd_lload 26 C dX3_share_24 rfl 1 rfl ?_
        refine hd_lstore 28 C dX3_share_26 rfl [(7, .long (lN (x % y))), (5, .long (lN y)), (9, .long (lN (x % y))), (0, .long (lN u)), (2, .long (lN 12)), (4, .int (nI wq))] (by decide) rfl ?_
        refine hd_goto 6 C dX3_share_28 (by decide) ?_
        refine hd_sub [(0, .long (lN u)), (2, .long (lN 12)), (4, .int (nI wq)), (5, .long (lN y)), (7, .long (lN (x % y)))] [3, 4, 5, 1, 0] rfl ?_
        exact ih_L y (x % y) (by omega) (Nat.le_of_lt (Nat.lt_of_lt_of_le (Nat.mod_lt _ (by omega)) hxy)) (by rw [← hF, Nat.gcd_comm x y, Nat.gcd_rec y x, Nat.gcd_comm]) (Nat.lt_of_lt_of_le (Nat.mod_lt _ (by omega)) (by omega))
  refine hd_sub [(0, .long (lN u)), (2, .long (lN 12)), (4, .int (nI wq)), (5, .long (lN u)), (7, .long (lN 12))] [2, 3, 4, 1, 0] rfl ?_
  exact L 13 u 12 hu (Nat.le_refl _) rfl (by omega)

set_option maxHeartbeats 4000000 in
set_option maxRecDepth 100000 in
theorem m_odds {l : Launch} {D : va_G} {cI cJ cD cS : ClassId} {a : Nat → Nat} {N : Nat → Nat → Nat} {Z : Nat → Nat → Int32} {E : Nat → Nat → Int32} {G : Nat → Nat → Int64} {T : Nat → Nat} (xa xb xn xw : Int32) (hI : inv N) (hg : Z 0 2 = -9)  : ctL l D (ty4 cI cJ cD cS) none (wM cI a) yX3_odds cX3_odds 8 (some .long) (rmk 4 97) [.ref (a 0), .int xa, .int xb, .int xn, .int xw] (N, Z, E, G, T) (fun (r : Int64) (u : sT) => u = (N, Z, E, G, T) ∧ r = spOdds N xa xb xn xw) := by
  refine ctL_of [(0, .ref (a 0)), (1, .int xa), (2, .int xb), (3, .int xn), (4, .int xw)] (by decide) (Nat.le_of_ble_eq_true rfl) rfl ?_
  intro p e s m args below meth c A C hK hZ hA
  have hR := hI.R
  have hDn := hI.D
  have hQn := hI.Q
  refine hd_aload_n 1 C dX3_odds_0 rfl 0 rfl rfl ?_
  refine hd_iload_n 2 C dX3_odds_1 rfl 1 rfl rfl ?_
  refine hd_callVI (rest := []) 5 C hK hZ hA ⟨Nat.zero_le _, Nat.zero_le _⟩ dX3_odds_2 rfl kc_X3_145 (m_noRoom xa hI) ⟨rfl, rfl⟩ ⟨by decide, by decide⟩ 0 3 rfl rfl rfl rfl rfl (Nat.le_of_ble_eq_true rfl) (fun r2 u2 h2 => ?_)
  obtain ⟨rfl, rfl⟩ := h2
  refine hd_if_neB 8 39 C dX3_odds_5 rfl (by decide) (fun h5 => ?_) (fun h5 => ?_)
  · skip
    simp only [Bool.not_eq_true', Bool.not_eq_false'] at h5
    refine hd_callSL (rest := []) 42 C hK hZ hA ⟨Nat.zero_le _, Nat.zero_le _⟩ dX3_odds_39 rfl kc_X3_70 m_lost ⟨rfl, rfl⟩ ⟨by decide, by decide⟩ rfl rfl (Nat.le_of_ble_eq_true rfl) (fun r39 u39 h39 => ?_)
    obtain ⟨rfl, rfl⟩ := h39
    exact hd_lret C hK dX3_odds_42 ⟨rfl, by simp [spOdds, h5]⟩
  · skip
    simp only [Bool.not_eq_true', Bool.not_eq_false'] at h5
    obtain ⟨j, hj_j, rfl⟩ := inB_t h5 (by omega)
    have hc_j : (nI j).toNatClampNeg = j := nI_clamp (by omega)
    refine hd_aload_n 9 C dX3_odds_8 rfl 0 rfl rfl ?_
    refine hd_iload_n 10 C dX3_odds_9 rfl 2 rfl rfl ?_
    refine hd_callVI (rest := []) 13 C hK hZ hA ⟨Nat.zero_le _, Nat.zero_le _⟩ dX3_odds_10 rfl kc_X3_145 (m_noRoom xb hI) ⟨rfl, rfl⟩ ⟨by decide, by decide⟩ 0 3 rfl rfl rfl rfl rfl (Nat.le_of_ble_eq_true rfl) (fun r10 u10 h10 => ?_)
    obtain ⟨rfl, rfl⟩ := h10
    refine hd_if_neB 16 39 C dX3_odds_13 rfl (by decide) (fun h13 => ?_) (fun h13 => ?_)
    · skip
      simp only [Bool.not_eq_true', Bool.not_eq_false'] at h13
      refine hd_callSL (rest := []) 42 C hK hZ hA ⟨Nat.zero_le _, Nat.zero_le _⟩ dX3_odds_39 rfl kc_X3_70 m_lost ⟨rfl, rfl⟩ ⟨by decide, by decide⟩ rfl rfl (Nat.le_of_ble_eq_true rfl) (fun r39 u39 h39 => ?_)
      obtain ⟨rfl, rfl⟩ := h39
      exact hd_lret C hK dX3_odds_42 ⟨rfl, by simp [spOdds, h5, hc_j, h13]⟩
    · skip
      simp only [Bool.not_eq_true', Bool.not_eq_false'] at h13
      obtain ⟨k, hj_k, rfl⟩ := inB_t h13 (by omega)
      have hc_k : (nI k).toNatClampNeg = k := nI_clamp (by omega)
      refine hd_iload_n 17 C dX3_odds_16 rfl 3 rfl rfl ?_
      refine hd_i2l 18 C dX3_odds_17 rfl xn.toInt64 rfl ?_
      refine hd_lconst 19 C dX3_odds_18 rfl 0 (by decide) ?_
      refine hd_ldc2 22 C dX3_odds_19 rfl kl_X3_200 ?_
      refine hd_callSI (rest := []) 25 C hK hZ hA ⟨Nat.zero_le _, Nat.zero_le _⟩ dX3_odds_22 rfl kc_X3_77 (m_in xn.toInt64 0 (24)) ⟨rfl, rfl⟩ ⟨by decide, by decide⟩ rfl rfl (Nat.le_of_ble_eq_true rfl) (fun r22 u22 h22 => ?_)
      obtain ⟨rfl, rfl⟩ := h22
      refine hd_if_eqB 28 39 C dX3_odds_25 rfl (by decide) (fun h25 => ?_) (fun h25 => ?_)
      · skip
        rw [inL_k xn 24 25 (by decide)] at h25
        refine hd_callSL (rest := []) 42 C hK hZ hA ⟨Nat.zero_le _, Nat.zero_le _⟩ dX3_odds_39 rfl kc_X3_70 m_lost ⟨rfl, rfl⟩ ⟨by decide, by decide⟩ rfl rfl (Nat.le_of_ble_eq_true rfl) (fun r39 u39 h39 => ?_)
        obtain ⟨rfl, rfl⟩ := h39
        exact hd_lret C hK dX3_odds_42 ⟨rfl, by simp [spOdds, h5, hc_j, h13, hc_k, h25]⟩
      · skip
        rw [inL_k xn 24 25 (by decide)] at h25
        obtain ⟨n, hj_n, rfl⟩ := inB_t h25 (by omega)
        have hc_n : (nI n).toNatClampNeg = n := nI_clamp (by omega)
        refine hd_iload 30 C dX3_odds_28 rfl 4 rfl ?_
        refine hd_i2l 31 C dX3_odds_30 rfl xw.toInt64 rfl ?_
        refine hd_lconst 32 C dX3_odds_31 rfl 0 (by decide) ?_
        refine hd_lconst 33 C dX3_odds_32 rfl 1 (by decide) ?_
        refine hd_callSI (rest := []) 36 C hK hZ hA ⟨Nat.zero_le _, Nat.zero_le _⟩ dX3_odds_33 rfl kc_X3_77 (m_in xw.toInt64 0 1) ⟨rfl, rfl⟩ ⟨by decide, by decide⟩ rfl rfl (Nat.le_of_ble_eq_true rfl) (fun r33 u33 h33 => ?_)
        obtain ⟨rfl, rfl⟩ := h33
        refine hd_if_neB 39 43 C dX3_odds_36 rfl (by decide) (fun h36 => ?_) (fun h36 => ?_)
        · skip
          rw [inL_k xw 1 2 (by decide)] at h36
          obtain ⟨w, hj_w, rfl⟩ := inB_t h36 (by omega)
          have hc_w : (nI w).toNatClampNeg = w := nI_clamp (by omega)
          refine hd_lconst 44 C dX3_odds_43 rfl 0 (by decide) ?_
          refine hd_lstore 46 C dX3_odds_44 rfl [(5, .long 0), (0, .ref (a 0)), (1, .int (nI j)), (2, .int (nI k)), (3, .int (nI n)), (4, .int (nI w))] (by decide) rfl ?_
          refine hd_iconst 47 C dX3_odds_46 rfl (nI 0) (by decide) ?_
          refine hd_istore 49 C dX3_odds_47 rfl [(7, .int (nI 0)), (5, .long 0), (0, .ref (a 0)), (1, .int (nI j)), (2, .int (nI k)), (3, .int (nI n)), (4, .int (nI w))] (by decide) rfl ?_
          have L : ∀ (fuel : Nat) (hr : Nat) (hhr : hr ≤ 12), 12 - hr < fuel → XW p l e (rmk 4 97) s m args below meth c 8 0 0 A D (MQ below (va_Ql (fun (r : Int64) (u : sT) => u = (N, Z, E, G, T) ∧ r = spOdds N (nI j) (nI k) (nI n) (nI w)) (cB D (ty4 cI cJ cD cS) (wM cI a) A) A) args s 0 0 A) (wM cI a) (N, Z, E, G, T) 49 [(0, .ref (a 0)), (1, .int (nI j)), (2, .int (nI k)), (3, .int (nI n)), (4, .int (nI w)), (5, .long (lN (oc N j k n hr))), (7, .int (nI hr))] [] := by
            intro fuel
            induction fuel with
            | zero => intro hr hhr hfu; exact absurd hfu (Nat.not_lt_zero _)
            | succ fuel ih_L =>
              intro hr hhr hfu_L
              refine hd_iload 51 C dX3_odds_49 rfl 6 rfl ?_
              refine hd_bipush 53 C dX3_odds_51 rfl (nI 12) (by decide) ?_
              refine hd_icmp_geN 56 84 C dX3_odds_53 rfl (by decide) (by omega) (by omega) (fun h53 => ?_) (fun h53 => ?_)
              · skip
                obtain rfl : hr = 12 := by omega
                refine hd_lload 86 C dX3_odds_84 rfl 5 rfl ?_
                refine hd_ldc2 89 C dX3_odds_86 rfl kl_X3_202 ?_
                refine hd_iload 91 C dX3_odds_89 rfl 4 rfl ?_
                refine hd_callSL (rest := []) 94 C hK hZ hA ⟨Nat.zero_le _, Nat.zero_le _⟩ dX3_odds_91 rfl kc_X3_204 (m_share (oc N j k n 12) w (oc_le 12) (by omega)) ⟨rfl, rfl⟩ ⟨by decide, by decide⟩ rfl rfl (Nat.le_of_ble_eq_true rfl) (fun r91 u91 h91 => ?_)
                obtain ⟨rfl, rfl⟩ := h91
                exact hd_lret C hK dX3_odds_94 ⟨rfl, by simp [spOdds, h5, hc_j, h13, hc_k, h25, hc_n, h36, hc_w]⟩
              · skip
                refine hd_lload 58 C dX3_odds_56 rfl 5 rfl ?_
                refine hd_aload_n 59 C dX3_odds_58 rfl 0 rfl rfl ?_
                refine hd_iload_n 60 C dX3_odds_59 rfl 1 rfl rfl ?_
                refine hd_iload_n 61 C dX3_odds_60 rfl 2 rfl rfl ?_
                refine hd_iload 63 C dX3_odds_61 rfl 6 rfl ?_
                refine hd_iload_n 64 C dX3_odds_63 rfl 3 rfl rfl ?_
                refine hd_callVI (rest := [.long (lN (oc N j k n hr))]) 67 C hK hZ hA ⟨Nat.zero_le _, Nat.zero_le _⟩ dX3_odds_64 rfl kc_X3_182 (m_soonestOfW j k hr n hI (by omega) (by omega) (by omega) (by omega) (-9) hg) ⟨rfl, rfl⟩ ⟨by decide, by decide⟩ 0 3 rfl rfl rfl rfl rfl (Nat.le_of_ble_eq_true rfl) (fun r64 u64 h64 => ?_)
                obtain ⟨rfl, rfl⟩ := h64
                rcases ho64 : sn N (-9) j k hr n with _ | rv64
                · skip
                  refine hd_if_lt 70 74 C dX3_odds_67 rfl (by decide) (fun _ => ?_) (fun q => absurd (by decide) q)
                  refine hd_lconst 75 C dX3_odds_74 rfl 0 (by decide) ?_
                  refine hd_ladd 76 C dX3_odds_75 rfl (lN (oc N j k n hr)) (by simp) ?_
                  refine hd_lstore 78 C dX3_odds_76 rfl [(5, .long (lN (oc N j k n hr))), (0, .ref (a 0)), (1, .int (nI j)), (2, .int (nI k)), (3, .int (nI n)), (4, .int (nI w)), (7, .int (nI hr))] (by decide) rfl ?_
                  refine hd_iinc 81 C dX3_odds_78 rfl 6 (nI (hr + 1)) [(7, .int (nI (hr + 1))), (5, .long (lN (oc N j k n hr))), (0, .ref (a 0)), (1, .int (nI j)), (2, .int (nI k)), (3, .int (nI n)), (4, .int (nI w))] rfl (nI_add _ _) (by decide) rfl ?_
                  refine hd_goto 49 C dX3_odds_81 (by decide) ?_
                  rw [show lN (oc N j k n hr) = lN (oc N j k n (hr + 1)) from congrArg lN (by simp [oc, snle_iff (show n ≤ 24 by omega), ho64])]
                  refine hd_sub [(0, .ref (a 0)), (1, .int (nI j)), (2, .int (nI k)), (3, .int (nI n)), (4, .int (nI w)), (5, .long (lN (oc N j k n (hr + 1)))), (7, .int (nI (hr + 1)))] [2, 3, 4, 5, 6, 1, 0] rfl ?_
                  exact ih_L (hr + 1) (by omega) (by omega)
                · skip
                  have hbrv64 := sn_lt _ ho64
                  refine hd_if_ltP 70 74 C dX3_odds_67 rfl (by decide) (by omega) ?_
                  refine hd_lconst 71 C dX3_odds_70 rfl 1 (by decide) ?_
                  refine hd_goto 75 C dX3_odds_71 (by decide) ?_
                  refine hd_ladd 76 C dX3_odds_75 rfl (lN ((oc N j k n hr) + 1)) (lN_1 _) ?_
                  refine hd_lstore 78 C dX3_odds_76 rfl [(5, .long (lN ((oc N j k n hr) + 1))), (0, .ref (a 0)), (1, .int (nI j)), (2, .int (nI k)), (3, .int (nI n)), (4, .int (nI w)), (7, .int (nI hr))] (by decide) rfl ?_
                  refine hd_iinc 81 C dX3_odds_78 rfl 6 (nI (hr + 1)) [(7, .int (nI (hr + 1))), (5, .long (lN ((oc N j k n hr) + 1))), (0, .ref (a 0)), (1, .int (nI j)), (2, .int (nI k)), (3, .int (nI n)), (4, .int (nI w))] rfl (nI_add _ _) (by decide) rfl ?_
                  refine hd_goto 49 C dX3_odds_81 (by decide) ?_
                  rw [show lN ((oc N j k n hr) + 1) = lN (oc N j k n (hr + 1)) from congrArg lN (by simp [oc, snle_iff (show n ≤ 24 by omega), ho64])]
                  refine hd_sub [(0, .ref (a 0)), (1, .int (nI j)), (2, .int (nI k)), (3, .int (nI n)), (4, .int (nI w)), (5, .long (lN (oc N j k n (hr + 1)))), (7, .int (nI (hr + 1)))] [2, 3, 4, 5, 6, 1, 0] rfl ?_
                  exact ih_L (hr + 1) (by omega) (by omega)
          refine hd_sub [(0, .ref (a 0)), (1, .int (nI j)), (2, .int (nI k)), (3, .int (nI n)), (4, .int (nI w)), (5, .long 0), (7, .int (nI 0))] [2, 3, 4, 5, 6, 1, 0] rfl ?_
          exact L 13 0 (Nat.zero_le _) (by omega)
        · skip
          rw [inL_k xw 1 2 (by decide)] at h36
          refine hd_callSL (rest := []) 42 C hK hZ hA ⟨Nat.zero_le _, Nat.zero_le _⟩ dX3_odds_39 rfl kc_X3_70 m_lost ⟨rfl, rfl⟩ ⟨by decide, by decide⟩ rfl rfl (Nat.le_of_ble_eq_true rfl) (fun r39 u39 h39 => ?_)
          obtain ⟨rfl, rfl⟩ := h39
          exact hd_lret C hK dX3_odds_42 ⟨rfl, by simp [spOdds, h5, hc_j, h13, hc_k, h25, hc_n, h36]⟩

set_option maxHeartbeats 4000000 in
set_option maxRecDepth 100000 in
theorem m_reach {l : Launch} {D : va_G} {cI cJ cD cS : ClassId} {a : Nat → Nat} {N : Nat → Nat → Nat} {Z : Nat → Nat → Int32} {E : Nat → Nat → Int32} {G : Nat → Nat → Int64} {T : Nat → Nat} (xh : Int32) (hI : inv N) (hg : Z 0 2 = -9)  : ctI l D (ty4 cI cJ cD cS) none (wM cI a) yX3_reach cX3_reach 6 (some .int) (rmk 4 97) [.ref (a 0), .int xh] (N, Z, E, G, T) (fun (r : Int32) (u : sT) => u = (N, Z, E, G, T) ∧ r = spReach N xh) := by
  refine ctI_of [(0, .ref (a 0)), (1, .int xh)] (by decide) (Nat.le_of_ble_eq_true rfl) rfl ?_
  intro p e s m args below meth c A C hK hZ hA
  have hR := hI.R
  have hDn := hI.D
  have hQn := hI.Q
  refine hd_aload_n 1 C dX3_reach_0 rfl 0 rfl rfl ?_
  refine gm_rooms 4 C hK dX3_reach_1 rfl (nI (N 0 0)) rfl ?_
  refine hd_if_neN 7 10 C dX3_reach_4 rfl (by decide) (by omega) (fun h4 => ?_) (fun h4 => ?_)
  · skip
    refine hd_iload_n 11 C dX3_reach_10 rfl 1 rfl rfl ?_
    refine hd_callSI (rest := []) 14 C hK hZ hA ⟨Nat.zero_le _, Nat.zero_le _⟩ dX3_reach_11 rfl kc_X3_137 (m_noHour xh) ⟨rfl, rfl⟩ ⟨by decide, by decide⟩ rfl rfl (Nat.le_of_ble_eq_true rfl) (fun r11 u11 h11 => ?_)
    obtain ⟨rfl, rfl⟩ := h11
    refine hd_if_eqB 17 20 C dX3_reach_14 rfl (by decide) (fun h14 => ?_) (fun h14 => ?_)
    · skip
      simp only [Bool.not_eq_true', Bool.not_eq_false'] at h14
      obtain ⟨h, hj_h, rfl⟩ := inB_t h14 (by omega)
      have hc_h : (nI h).toNatClampNeg = h := nI_clamp (by omega)
      refine hd_iconst 21 C dX3_reach_20 rfl (nI 0) (by decide) ?_
      refine hd_istore_n 22 C dX3_reach_21 rfl [(2, .int (nI 0)), (0, .ref (a 0)), (1, .int (nI h))] rfl (by decide) rfl ?_
      refine hd_iconst 23 C dX3_reach_22 rfl (nI 0) (by decide) ?_
      refine hd_istore_n 24 C dX3_reach_23 rfl [(3, .int (nI 0)), (2, .int (nI 0)), (0, .ref (a 0)), (1, .int (nI h))] rfl (by decide) rfl ?_
      have L : ∀ (fuel : Nat) (f : Nat) (hf : f ≤ N 0 0), N 0 0 - f < fuel → XW p l e (rmk 4 97) s m args below meth c 6 0 0 A D (MQ below (va_Qi (fun (r : Int32) (u : sT) => u = (N, Z, E, G, T) ∧ r = spReach N (nI h)) (cB D (ty4 cI cJ cD cS) (wM cI a) A) A) args s 0 0 A) (wM cI a) (N, Z, E, G, T) 24 [(0, .ref (a 0)), (1, .int (nI h)), (2, .int (nI (rcf N h f))), (3, .int (nI f))] [] := by
        intro fuel
        induction fuel with
        | zero => intro f hf hfu; exact absurd hfu (Nat.not_lt_zero _)
        | succ fuel ih_L =>
          intro f hf hfu_L
          refine hd_iload_n 25 C dX3_reach_24 rfl 3 rfl rfl ?_
          refine hd_aload_n 26 C dX3_reach_25 rfl 0 rfl rfl ?_
          refine gm_rooms 29 C hK dX3_reach_26 rfl (nI (N 0 0)) rfl ?_
          refine hd_icmp_geN 32 99 C dX3_reach_29 rfl (by decide) (by omega) (by omega) (fun h29 => ?_) (fun h29 => ?_)
          · skip
            refine hd_iload_n 100 C dX3_reach_99 rfl 2 rfl rfl ?_
            exact hd_iret C hK dX3_reach_100 ⟨rfl, by rw [show f = N 0 0 by omega]; simp [spReach, h4, h14, hc_h]⟩
          · skip
            refine hd_iconst 33 C dX3_reach_32 rfl (nI 1) (by decide) ?_
            refine hd_istore 35 C dX3_reach_33 rfl [(4, .int (nI 1)), (0, .ref (a 0)), (1, .int (nI h)), (2, .int (nI (rcf N h f))), (3, .int (nI f))] (by decide) rfl ?_
            refine hd_iconst 36 C dX3_reach_35 rfl (nI 0) (by decide) ?_
            refine hd_istore 38 C dX3_reach_36 rfl [(5, .int (nI 0)), (4, .int (nI 1)), (0, .ref (a 0)), (1, .int (nI h)), (2, .int (nI (rcf N h f))), (3, .int (nI f))] (by decide) rfl ?_
            have L2 : ∀ (fuel : Nat) (x : Nat) (v : Int32) (hx : x ≤ N 0 0) (hv : v = bI (alp N f h x)), N 0 0 - x < fuel → XW p l e (rmk 4 97) s m args below meth c 6 0 0 A D (MQ below (va_Qi (fun (r : Int32) (u : sT) => u = (N, Z, E, G, T) ∧ r = spReach N (nI h)) (cB D (ty4 cI cJ cD cS) (wM cI a) A) A) args s 0 0 A) (wM cI a) (N, Z, E, G, T) 38 [(0, .ref (a 0)), (1, .int (nI h)), (2, .int (nI (rcf N h f))), (3, .int (nI f)), (4, .int v), (5, .int (nI x))] [] := by
              intro fuel
              induction fuel with
              | zero => intro x v hx hv hfu; exact absurd hfu (Nat.not_lt_zero _)
              | succ fuel ih_L2 =>
                intro x v hx hv hfu_L2
                refine hd_iload 40 C dX3_reach_38 rfl 5 rfl ?_
                refine hd_aload_n 41 C dX3_reach_40 rfl 0 rfl rfl ?_
                refine gm_rooms 44 C hK dX3_reach_41 rfl (nI (N 0 0)) rfl ?_
                refine hd_icmp_geN 47 78 C dX3_reach_44 rfl (by decide) (by omega) (by omega) (fun h44 => ?_) (fun h44 => ?_)
                · skip
                  obtain rfl : x = N 0 0 := by omega
                  have hall := alp_all hI (h := h) h29
                  refine hd_iload_n 79 C dX3_reach_78 rfl 2 rfl rfl ?_
                  refine hd_iload 81 C dX3_reach_79 rfl 4 rfl ?_
                  refine hd_if_eq 84 90 C dX3_reach_81 rfl (by decide) (fun h81 => ?_) (fun h81 => ?_)
                  · skip
                    refine hd_iconst 91 C dX3_reach_90 rfl (nI 0) (by decide) ?_
                    refine hd_ior 92 C dX3_reach_91 rfl (nI ((rcf N h f) ||| 0)) (fa_or _ _) ?_
                    refine hd_istore_n 93 C dX3_reach_92 rfl [(2, .int (nI ((rcf N h f) ||| 0))), (0, .ref (a 0)), (1, .int (nI h)), (3, .int (nI f)), (4, .int v), (5, .int (nI (N 0 0)))] rfl (by decide) rfl ?_
                    refine hd_iinc 96 C dX3_reach_93 rfl 3 (nI (f + 1)) [(3, .int (nI (f + 1))), (2, .int (nI ((rcf N h f) ||| 0))), (0, .ref (a 0)), (1, .int (nI h)), (4, .int v), (5, .int (nI (N 0 0)))] rfl (nI_add _ _) (by decide) rfl ?_
                    refine hd_goto 24 C dX3_reach_96 (by decide) ?_
                    rw [show (rcf N h f) ||| 0 = rcf N h (f + 1) from (by simp [rcf, of_decide_eq_false (hall.symm.trans ((bI_ne0 hv).1.mp h81))])]
                    refine hd_sub [(0, .ref (a 0)), (1, .int (nI h)), (2, .int (nI (rcf N h (f + 1)))), (3, .int (nI (f + 1)))] [2, 3, 1, 0] rfl ?_
                    exact ih_L (f + 1) (by omega) (by omega)
                  · skip
                    refine hd_iconst 85 C dX3_reach_84 rfl (nI 1) (by decide) ?_
                    refine hd_iload_n 86 C dX3_reach_85 rfl 3 rfl rfl ?_
                    refine hd_ishl 87 C dX3_reach_86 rfl (nI (2 ^ f)) (nI_shl1 (by omega)) ?_
                    refine hd_goto 91 C dX3_reach_87 (by decide) ?_
                    refine hd_ior 92 C dX3_reach_91 rfl (nI ((rcf N h f) ||| (2 ^ f))) (fa_or _ _) ?_
                    refine hd_istore_n 93 C dX3_reach_92 rfl [(2, .int (nI ((rcf N h f) ||| (2 ^ f)))), (0, .ref (a 0)), (1, .int (nI h)), (3, .int (nI f)), (4, .int v), (5, .int (nI (N 0 0)))] rfl (by decide) rfl ?_
                    refine hd_iinc 96 C dX3_reach_93 rfl 3 (nI (f + 1)) [(3, .int (nI (f + 1))), (2, .int (nI ((rcf N h f) ||| (2 ^ f)))), (0, .ref (a 0)), (1, .int (nI h)), (4, .int v), (5, .int (nI (N 0 0)))] rfl (nI_add _ _) (by decide) rfl ?_
                    refine hd_goto 24 C dX3_reach_96 (by decide) ?_
                    rw [show (rcf N h f) ||| (2 ^ f) = rcf N h (f + 1) from (by simp [rcf, of_decide_eq_true (hall.symm.trans ((bI_ne0 hv).2.mp h81))])]
                    refine hd_sub [(0, .ref (a 0)), (1, .int (nI h)), (2, .int (nI (rcf N h (f + 1)))), (3, .int (nI (f + 1)))] [2, 3, 1, 0] rfl ?_
                    exact ih_L (f + 1) (by omega) (by omega)
                · skip
                  refine hd_iload 49 C dX3_reach_47 rfl 4 rfl ?_
                  refine hd_if_eq 52 69 C dX3_reach_49 rfl (by decide) (fun h49 => ?_) (fun h49 => ?_)
                  · skip
                    refine hd_iconst 70 C dX3_reach_69 rfl (nI 0) (by decide) ?_
                    refine hd_istore 72 C dX3_reach_70 rfl [(4, .int (nI 0)), (0, .ref (a 0)), (1, .int (nI h)), (2, .int (nI (rcf N h f))), (3, .int (nI f)), (5, .int (nI x))] (by decide) rfl ?_
                    refine hd_iinc 75 C dX3_reach_72 rfl 5 (nI (x + 1)) [(5, .int (nI (x + 1))), (4, .int (nI 0)), (0, .ref (a 0)), (1, .int (nI h)), (2, .int (nI (rcf N h f))), (3, .int (nI f))] rfl (nI_add _ _) (by decide) rfl ?_
                    refine hd_goto 38 C dX3_reach_75 (by decide) ?_
                    refine hd_sub [(0, .ref (a 0)), (1, .int (nI h)), (2, .int (nI (rcf N h f))), (3, .int (nI f)), (4, .int (nI 0)), (5, .int (nI (x + 1)))] [2, 3, 4, 5, 1, 0] rfl ?_
                    exact ih_L2 (x + 1) _ (by omega) (by rw [alp, (bI_ne0 hv).1.mp h49]; rfl) (by omega)
                  · skip
                    refine hd_aload_n 53 C dX3_reach_52 rfl 0 rfl rfl ?_
                    refine hd_iload_n 54 C dX3_reach_53 rfl 3 rfl rfl ?_
                    refine hd_iload 56 C dX3_reach_54 rfl 5 rfl ?_
                    refine hd_iload_n 57 C dX3_reach_56 rfl 1 rfl rfl ?_
                    refine hd_bipush 59 C dX3_reach_57 rfl (nI 24) (by decide) ?_
                    refine hd_callVI (rest := []) 62 C hK hZ hA ⟨Nat.zero_le _, Nat.zero_le _⟩ dX3_reach_59 rfl kc_X3_182 (m_soonestOfW f x h 24 hI (by omega) (by omega) (by omega) (by omega) (-9) hg) ⟨rfl, rfl⟩ ⟨by decide, by decide⟩ 0 3 rfl rfl rfl rfl rfl (Nat.le_of_ble_eq_true rfl) (fun r59 u59 h59 => ?_)
                    obtain ⟨rfl, rfl⟩ := h59
                    rcases ho59 : sn N (-9) f x h 24 with _ | rv59
                    · skip
                      refine hd_if_lt 65 69 C dX3_reach_62 rfl (by decide) (fun _ => ?_) (fun q => absurd (by decide) q)
                      refine hd_iconst 70 C dX3_reach_69 rfl (nI 0) (by decide) ?_
                      refine hd_istore 72 C dX3_reach_70 rfl [(4, .int (nI 0)), (0, .ref (a 0)), (1, .int (nI h)), (2, .int (nI (rcf N h f))), (3, .int (nI f)), (5, .int (nI x))] (by decide) rfl ?_
                      refine hd_iinc 75 C dX3_reach_72 rfl 5 (nI (x + 1)) [(5, .int (nI (x + 1))), (4, .int (nI 0)), (0, .ref (a 0)), (1, .int (nI h)), (2, .int (nI (rcf N h f))), (3, .int (nI f))] rfl (nI_add _ _) (by decide) rfl ?_
                      refine hd_goto 38 C dX3_reach_75 (by decide) ?_
                      refine hd_sub [(0, .ref (a 0)), (1, .int (nI h)), (2, .int (nI (rcf N h f))), (3, .int (nI f)), (4, .int (nI 0)), (5, .int (nI (x + 1)))] [2, 3, 4, 5, 1, 0] rfl ?_
                      exact ih_L2 (x + 1) _ (by omega) (by rw [alp, (bI_ne0 hv).2.mp h49, ho59]; rfl) (by omega)
                    · skip
                      have hbrv59 := sn_lt _ ho59
                      refine hd_if_ltP 65 69 C dX3_reach_62 rfl (by decide) (by omega) ?_
                      refine hd_iconst 66 C dX3_reach_65 rfl (nI 1) (by decide) ?_
                      refine hd_goto 70 C dX3_reach_66 (by decide) ?_
                      refine hd_istore 72 C dX3_reach_70 rfl [(4, .int (nI 1)), (0, .ref (a 0)), (1, .int (nI h)), (2, .int (nI (rcf N h f))), (3, .int (nI f)), (5, .int (nI x))] (by decide) rfl ?_
                      refine hd_iinc 75 C dX3_reach_72 rfl 5 (nI (x + 1)) [(5, .int (nI (x + 1))), (4, .int (nI 1)), (0, .ref (a 0)), (1, .int (nI h)), (2, .int (nI (rcf N h f))), (3, .int (nI f))] rfl (nI_add _ _) (by decide) rfl ?_
                      refine hd_goto 38 C dX3_reach_75 (by decide) ?_
                      refine hd_sub [(0, .ref (a 0)), (1, .int (nI h)), (2, .int (nI (rcf N h f))), (3, .int (nI f)), (4, .int (nI 1)), (5, .int (nI (x + 1)))] [2, 3, 4, 5, 1, 0] rfl ?_
                      exact ih_L2 (x + 1) _ (by omega) (by rw [alp, (bI_ne0 hv).2.mp h49, ho59]; rfl) (by omega)
            refine hd_sub [(0, .ref (a 0)), (1, .int (nI h)), (2, .int (nI (rcf N h f))), (3, .int (nI f)), (4, .int (nI 1)), (5, .int (nI 0))] [2, 3, 4, 5, 1, 0] rfl ?_
            exact L2 (N 0 0 + 1) 0 _ (Nat.zero_le _) rfl (by omega)
      refine hd_sub [(0, .ref (a 0)), (1, .int (nI h)), (2, .int (nI 0)), (3, .int (nI 0))] [2, 3, 1, 0] rfl ?_
      exact L (N 0 0 + 1) 0 (Nat.zero_le _) (by omega)
    · skip
      simp only [Bool.not_eq_true', Bool.not_eq_false'] at h14
      refine hd_bipush 19 C dX3_reach_17 rfl (-2) (by decide) ?_
      exact hd_iret C hK dX3_reach_19 ⟨rfl, by simp [spReach, h4, h14]⟩
  · skip
    refine hd_bipush 9 C dX3_reach_7 rfl (-3) (by decide) ?_
    exact hd_iret C hK dX3_reach_9 ⟨rfl, by simp [spReach, h4]⟩

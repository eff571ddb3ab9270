theorem x_leadsTo {l : Launch} {D : va_G} {cI cJ cD cS : ClassId} {a : Nat → Nat} {N : Nat → Nat → Nat} {Z : Nat → Nat → Int32} {E : Nat → Nat → Int32} {G : Nat → Nat → Int64} {T : Nat → Nat} {t : Option Nat} (d h : Nat) (hI : inv N) (hd : d < 8) (hh : h < 12) (hR : 0 < N 0 0) : ctI l D (ty4 cI cJ cD cS) t (wX cI cJ cD cS a) yX0_leadsTo cX0_leadsTo 4 (some .int) (rmk 0 0) [.ref (a (20 + d)), .int (nI h), .int (nI (N 0 0))] (N, Z, E, G, T) (fun r u => u = (N, Z, E, G, T) ∧ r = oI (ld N d h)) :=
  x0_leadsTo (wX_door d hd) (hI.door d).1 (hI.door d).2.2.1 (hI.door d).2.2.2 hh hR hI.R
theorem x_leadsToT {l : Launch} {D : va_G} {cI cJ cD cS : ClassId} {a : Nat → Nat} {N : Nat → Nat → Nat} {Z : Nat → Nat → Int32} {E : Nat → Nat → Int32} {G : Nat → Nat → Int64} {T : Nat → Nat} {t : Option Nat} (h : Nat) (hI : inv N) (hT : T 0 < 3 ∧ T 2 < 6 ∧ T 3 < 6) (hh : h < 12) (hR : 0 < N 0 0) : ctI l D (ty4 cI cJ cD cS) t (wX cI cJ cD cS a) yX0_leadsTo cX0_leadsTo 4 (some .int) (rmk 0 0) [.ref (a 2), .int (nI h), .int (nI (N 0 0))] (N, Z, E, G, T) (fun r u => u = (N, Z, E, G, T) ∧ r = oI (ld0 (T 0) (T 2) (T 3) h (N 0 0))) :=
  x0_leadsTo (q0 := 2) rfl hT.1 hT.2.1 hT.2.2 hh hR hI.R

set_option maxHeartbeats 4000000 in
set_option maxRecDepth 100000 in
theorem x_has {l : Launch} {D : va_G} {tys : List (ClassId × FieldType)} {σ : Type} {w : σ → va_W} {S : σ} {t : Option Nat} (set k : Nat) (hs : set < 2 ^ 31) (hk : k < 31)  : ctI l D tys t w yX2_has cX2_has 2 (some .boolean) (rmk 0 0) [.int (nI set), .int (nI k)] S (fun (r : Int32) (u : σ) => u = S ∧ r = bI (set.testBit k)) := by
  refine ctI_of [(0, .int (nI set)), (1, .int (nI k))] (by decide) (Nat.le_of_ble_eq_true rfl) rfl ?_
  intro p e s m args below meth c A C hK hZ hA
  refine hd_iload_n 1 C dX2_has_0 rfl 0 rfl rfl ?_
  refine hd_iload_n 2 C dX2_has_1 rfl 1 rfl rfl ?_
  refine hd_ishr 3 C dX2_has_2 rfl (nI (set / 2 ^ k)) (nI_shr (by omega) (by omega)) ?_
  refine hd_iconst 4 C dX2_has_3 rfl (nI 1) (by decide) ?_
  refine hd_iand 5 C dX2_has_4 rfl (nI ((set / 2 ^ k) &&& 1)) (fa_and _ _) ?_
  have hb := and1_lt (set / 2 ^ k)
  refine hd_if_eqN 8 12 C dX2_has_5 rfl (by decide) (by omega) (fun h5 => ?_) (fun h5 => ?_)
  · skip
    refine hd_iconst 13 C dX2_has_12 rfl (nI 0) (by decide) ?_
    exact hd_zret C hK dX2_has_13 (by decide) ⟨rfl, bI_is0 ((tb_and _ _).mp h5)⟩
  · skip
    refine hd_iconst 9 C dX2_has_8 rfl (nI 1) (by decide) ?_
    refine hd_goto 13 C dX2_has_9 (by decide) ?_
    exact hd_zret C hK dX2_has_13 (by decide) ⟨rfl, bI_is1 (tb_ne h5)⟩

set_option maxHeartbeats 4000000 in
set_option maxRecDepth 100000 in
theorem m_isIn {l : Launch} {D : va_G} {tys : List (ClassId × FieldType)} {σ : Type} {w : σ → va_W} {S : σ} {t : Option Nat} (set k : Nat) (hs : set < 2 ^ 31) (hk : k < 31)  : ctI l D tys t w yX3_isIn cX3_isIn 2 (some .boolean) (rmk 0 0) [.int (nI set), .int (nI k)] S (fun (r : Int32) (u : σ) => u = S ∧ r = bI (set.testBit k)) := by
  refine ctI_of [(0, .int (nI set)), (1, .int (nI k))] (by decide) (Nat.le_of_ble_eq_true rfl) rfl ?_
  intro p e s m args below meth c A C hK hZ hA
  refine hd_iload_n 1 C dX3_isIn_0 rfl 0 rfl rfl ?_
  refine hd_iload_n 2 C dX3_isIn_1 rfl 1 rfl rfl ?_
  refine hd_ishr 3 C dX3_isIn_2 rfl (nI (set / 2 ^ k)) (nI_shr (by omega) (by omega)) ?_
  refine hd_iconst 4 C dX3_isIn_3 rfl (nI 1) (by decide) ?_
  refine hd_iand 5 C dX3_isIn_4 rfl (nI ((set / 2 ^ k) &&& 1)) (fa_and _ _) ?_
  refine hd_iconst 6 C dX3_isIn_5 rfl (nI 1) (by decide) ?_
  have hb := and1_lt (set / 2 ^ k)
  refine hd_icmp_neN 9 13 C dX3_isIn_6 rfl (by decide) (by omega) (by omega) (fun h6 => ?_) (fun h6 => ?_)
  · skip
    refine hd_iconst 14 C dX3_isIn_13 rfl (nI 0) (by decide) ?_
    exact hd_zret C hK dX3_isIn_14 (by decide) ⟨rfl, bI_is0 (tb_ne1 h6)⟩
  · skip
    refine hd_iconst 10 C dX3_isIn_9 rfl (nI 1) (by decide) ?_
    refine hd_goto 14 C dX3_isIn_10 (by decide) ?_
    exact hd_zret C hK dX3_isIn_14 (by decide) ⟨rfl, bI_is1 ((tb_and1 _ _).mp h6)⟩

set_option maxHeartbeats 4000000 in
set_option maxRecDepth 100000 in
theorem x_isRoom {l : Launch} {D : va_G} {cI cJ cD cS : ClassId} {a : Nat → Nat} {N : Nat → Nat → Nat} {Z : Nat → Nat → Int32} {E : Nat → Nat → Int32} {G : Nat → Nat → Int64} {T : Nat → Nat} {t : Option Nat} (x : Int32) (hI : inv N)  : ctI l D (ty4 cI cJ cD cS) t (wX cI cJ cD cS a) yX2_isRoom cX2_isRoom 2 (some .boolean) (rmk 0 0) [.ref (a 0), .int x] (N, Z, E, G, T) (fun (r : Int32) (u : sT) => u = (N, Z, E, G, T) ∧ r = bI (inB x (N 0 0))) := by
  refine ctI_of [(0, .ref (a 0)), (1, .int x)] (by decide) (Nat.le_of_ble_eq_true rfl) rfl ?_
  intro p e s m args below meth c A C hK hZ hA
  have hR := hI.R
  have hDn := hI.D
  refine hd_iload_n 1 C dX2_isRoom_0 rfl 1 rfl rfl ?_
  refine hd_if_lt 4 16 C dX2_isRoom_1 rfl (by decide) (fun h1 => ?_) (fun h1 => ?_)
  · skip
    refine hd_iconst 17 C dX2_isRoom_16 rfl (nI 0) (by decide) ?_
    exact hd_zret C hK dX2_isRoom_17 (by decide) ⟨rfl, bI_is0 (inB_neg h1)⟩
  · skip
    refine hd_iload_n 5 C dX2_isRoom_4 rfl 1 rfl rfl ?_
    refine hd_aload_n 6 C dX2_isRoom_5 rfl 0 rfl rfl ?_
    refine gx_rooms 9 C hK dX2_isRoom_6 rfl (nI (N 0 0)) rfl ?_
    refine hd_icmp_ge 12 16 C dX2_isRoom_9 rfl (by decide) (fun h9 => ?_) (fun h9 => ?_)
    · skip
      refine hd_iconst 17 C dX2_isRoom_16 rfl (nI 0) (by decide) ?_
      exact hd_zret C hK dX2_isRoom_17 (by decide) ⟨rfl, bI_is0 (inB_big (by omega) h9)⟩
    · skip
      refine hd_iconst 13 C dX2_isRoom_12 rfl (nI 1) (by decide) ?_
      refine hd_goto 17 C dX2_isRoom_13 (by decide) ?_
      exact hd_zret C hK dX2_isRoom_17 (by decide) ⟨rfl, bI_is1 (inB_ok (by omega) h1 h9)⟩

set_option maxHeartbeats 4000000 in
set_option maxRecDepth 100000 in
theorem x_isDoor {l : Launch} {D : va_G} {cI cJ cD cS : ClassId} {a : Nat → Nat} {N : Nat → Nat → Nat} {Z : Nat → Nat → Int32} {E : Nat → Nat → Int32} {G : Nat → Nat → Int64} {T : Nat → Nat} {t : Option Nat} (x : Int32) (hI : inv N)  : ctI l D (ty4 cI cJ cD cS) t (wX cI cJ cD cS a) yX2_isDoor cX2_isDoor 2 (some .boolean) (rmk 0 0) [.ref (a 0), .int x] (N, Z, E, G, T) (fun (r : Int32) (u : sT) => u = (N, Z, E, G, T) ∧ r = bI (inB x (N 0 1))) := by
  refine ctI_of [(0, .ref (a 0)), (1, .int x)] (by decide) (Nat.le_of_ble_eq_true rfl) rfl ?_
  intro p e s m args below meth c A C hK hZ hA
  have hR := hI.R
  have hDn := hI.D
  refine hd_iload_n 1 C dX2_isDoor_0 rfl 1 rfl rfl ?_
  refine hd_if_lt 4 16 C dX2_isDoor_1 rfl (by decide) (fun h1 => ?_) (fun h1 => ?_)
  · skip
    refine hd_iconst 17 C dX2_isDoor_16 rfl (nI 0) (by decide) ?_
    exact hd_zret C hK dX2_isDoor_17 (by decide) ⟨rfl, bI_is0 (inB_neg h1)⟩
  · skip
    refine hd_iload_n 5 C dX2_isDoor_4 rfl 1 rfl rfl ?_
    refine hd_aload_n 6 C dX2_isDoor_5 rfl 0 rfl rfl ?_
    refine gx_doorCount 9 C hK dX2_isDoor_6 rfl (nI (N 0 1)) rfl ?_
    refine hd_icmp_ge 12 16 C dX2_isDoor_9 rfl (by decide) (fun h9 => ?_) (fun h9 => ?_)
    · skip
      refine hd_iconst 17 C dX2_isDoor_16 rfl (nI 0) (by decide) ?_
      exact hd_zret C hK dX2_isDoor_17 (by decide) ⟨rfl, bI_is0 (inB_big (by omega) h9)⟩
    · skip
      refine hd_iconst 13 C dX2_isDoor_12 rfl (nI 1) (by decide) ?_
      refine hd_goto 17 C dX2_isDoor_13 (by decide) ?_
      exact hd_zret C hK dX2_isDoor_17 (by decide) ⟨rfl, bI_is1 (inB_ok (by omega) h1 h9)⟩

set_option maxHeartbeats 4000000 in
set_option maxRecDepth 100000 in
theorem x_faulted {l : Launch} {D : va_G} {cI cJ cD cS : ClassId} {a : Nat → Nat} {N : Nat → Nat → Nat} {Z : Nat → Nat → Int32} {E : Nat → Nat → Int32} {G : Nat → Nat → Int64} {T : Nat → Nat} {t : Option Nat} (f : Int32)  : ctI l D (ty4 cI cJ cD cS) t (wX cI cJ cD cS a) yX2_faulted cX2_faulted 2 (some .int) (rmk 0 0) [.ref (a 0), .int f] (N, Z, E, G, T) (fun (r : Int32) (u : sT) => u = (N, uZ Z 0 1 f, E, G, T) ∧ r = -10 - f) := by
  refine ctI_of [(0, .ref (a 0)), (1, .int f)] (by decide) (Nat.le_of_ble_eq_true rfl) rfl ?_
  intro p e s m args below meth c A C hK hZ hA
  refine hd_aload_n 1 C dX2_faulted_0 rfl 0 rfl rfl ?_
  refine hd_iload_n 2 C dX2_faulted_1 rfl 1 rfl rfl ?_
  refine px_latestFault 5 C hK dX2_faulted_2 rfl ?_
  refine hd_bipush 7 C dX2_faulted_5 rfl (-10) (by decide) ?_
  refine hd_iload_n 8 C dX2_faulted_7 rfl 1 rfl rfl ?_
  refine hd_isub 9 C dX2_faulted_8 rfl ((-10) - f) rfl ?_
  exact hd_iret C hK dX2_faulted_9 ⟨rfl, rfl⟩

set_option maxHeartbeats 4000000 in
set_option maxRecDepth 100000 in
theorem x_allRooms {l : Launch} {D : va_G} {cI cJ cD cS : ClassId} {a : Nat → Nat} {N : Nat → Nat → Nat} {Z : Nat → Nat → Int32} {E : Nat → Nat → Int32} {G : Nat → Nat → Int64} {T : Nat → Nat} {t : Option Nat} (hI : inv N)  : ctI l D (ty4 cI cJ cD cS) t (wX cI cJ cD cS a) yX2_allRooms cX2_allRooms 1 (some .int) (rmk 0 0) [.ref (a 0)] (N, Z, E, G, T) (fun (r : Int32) (u : sT) => u = (N, Z, E, G, T) ∧ r = nI (2 ^ N 0 0 - 1)) := by
  refine ctI_of [(0, .ref (a 0))] (by decide) (Nat.le_of_ble_eq_true rfl) rfl ?_
  intro p e s m args below meth c A C hK hZ hA
  have hR := hI.R
  refine hd_iconst 1 C dX2_allRooms_0 rfl (nI 1) (by decide) ?_
  refine hd_aload_n 2 C dX2_allRooms_1 rfl 0 rfl rfl ?_
  refine gx_rooms 5 C hK dX2_allRooms_2 rfl (nI (N 0 0)) rfl ?_
  refine hd_ishl 6 C dX2_allRooms_5 rfl (nI (2 ^ (N 0 0))) (nI_shl1 (by omega)) ?_
  refine hd_iconst 7 C dX2_allRooms_6 rfl (nI 1) (by decide) ?_
  refine hd_isub 8 C dX2_allRooms_7 rfl (nI (2 ^ N 0 0 - 1)) (pk_sub Nat.one_le_two_pow) ?_
  exact hd_iret C hK dX2_allRooms_8 ⟨rfl, rfl⟩

set_option maxHeartbeats 4000000 in
set_option maxRecDepth 100000 in
theorem x_cutToLane {l : Launch} {D : va_G} {tys : List (ClassId × FieldType)} {σ : Type} {w : σ → va_W} {S : σ} {t : Option Nat} (v ln : Int32)  : ctI l D tys t w yX2_cutToLane cX2_cutToLane 2 (some .int) (rmk 0 0) [.int v, .int ln] S (fun (r : Int32) (u : σ) => u = S ∧ r = (if ln = 0 then v.toInt8.toInt32 else if ln = 1 then v.toInt16.toInt32 else v)) := by
  refine ctI_of [(0, .int v), (1, .int ln)] (by decide) (Nat.le_of_ble_eq_true rfl) rfl ?_
  intro p e s m args below meth c A C hK hZ hA
  refine hd_iload_n 1 C dX2_cutToLane_0 rfl 1 rfl rfl ?_
  refine hd_if_ne 4 7 C dX2_cutToLane_1 rfl (by decide) (fun h1 => ?_) (fun h1 => ?_)
  · skip
    refine hd_iload_n 8 C dX2_cutToLane_7 rfl 1 rfl rfl ?_
    refine hd_iconst 9 C dX2_cutToLane_8 rfl (nI 1) (by decide) ?_
    refine hd_icmp_ne 12 17 C dX2_cutToLane_9 rfl (by decide) (fun h9 => ?_) (fun h9 => ?_)
    · skip
      refine hd_iload_n 18 C dX2_cutToLane_17 rfl 0 rfl rfl ?_
      exact hd_iret C hK dX2_cutToLane_18 ⟨rfl, by have e1 : nI 1 = 1 := rfl; simp_all⟩
    · skip
      refine hd_iload_n 13 C dX2_cutToLane_12 rfl 0 rfl rfl ?_
      refine hd_i2s 14 C dX2_cutToLane_13 rfl v.toInt16.toInt32 rfl ?_
      refine hd_goto 18 C dX2_cutToLane_14 (by decide) ?_
      exact hd_iret C hK dX2_cutToLane_18 ⟨rfl, by have e1 : nI 1 = 1 := rfl; simp_all⟩
  · skip
    refine hd_iload_n 5 C dX2_cutToLane_4 rfl 0 rfl rfl ?_
    refine hd_i2b 6 C dX2_cutToLane_5 rfl v.toInt8.toInt32 rfl ?_
    exact hd_iret C hK dX2_cutToLane_6 ⟨rfl, by have e1 : nI 1 = 1 := rfl; simp_all⟩

set_option maxHeartbeats 4000000 in
set_option maxRecDepth 100000 in
theorem x_leaveNumber {l : Launch} {D : va_G} {cI cJ cD cS : ClassId} {a : Nat → Nat} {N : Nat → Nat → Nat} {Z : Nat → Nat → Int32} {E : Nat → Nat → Int32} {G : Nat → Nat → Int64} {T : Nat → Nat} {t : Option Nat} (b : Int32)  : ctV l D (ty4 cI cJ cD cS) t (wX cI cJ cD cS a) yX2_leaveNumber cX2_leaveNumber 2 none (rmk 0 0) [.ref (a 0), .int b] (N, Z, E, G, T) (fun (u : sT) => u = (N, uZ Z 0 0 (31 * Z 0 0 + b), E, G, T)) := by
  refine ctV_of [(0, .ref (a 0)), (1, .int b)] (by decide) (Nat.le_of_ble_eq_true rfl) rfl ?_
  intro p e s m args below meth c A C hK hZ hA
  refine hd_aload_n 1 C dX2_leaveNumber_0 rfl 0 rfl rfl ?_
  refine hd_bipush 3 C dX2_leaveNumber_1 rfl (nI 31) (by decide) ?_
  refine hd_aload_n 4 C dX2_leaveNumber_3 rfl 0 rfl rfl ?_
  refine gx_left 7 C hK dX2_leaveNumber_4 rfl (Z 0 0) rfl ?_
  refine hd_imul 8 C dX2_leaveNumber_7 rfl (31 * Z 0 0) rfl ?_
  refine hd_iload_n 9 C dX2_leaveNumber_8 rfl 1 rfl rfl ?_
  refine hd_iadd 10 C dX2_leaveNumber_9 rfl ((31 * Z 0 0) + b) rfl ?_
  refine px_left 13 C hK dX2_leaveNumber_10 rfl ?_
  exact hd_vret C hK dX2_leaveNumber_13 rfl

set_option maxHeartbeats 4000000 in
set_option maxRecDepth 100000 in
theorem x_roomAfter {l : Launch} {D : va_G} {cI cJ cD cS : ClassId} {a : Nat → Nat} {N : Nat → Nat → Nat} {Z : Nat → Nat → Int32} {E : Nat → Nat → Int32} {G : Nat → Nat → Int64} {T : Nat → Nat} {t : Option Nat} (act room h : Nat) (hI : inv N) (ha : act ≤ N 0 1) (hr : room < 6) (hh : h < 12)  : ctI l D (ty4 cI cJ cD cS) t (wX cI cJ cD cS a) yX2_roomAfter cX2_roomAfter 4 (some .int) (rmk 1 23) [.ref (a 0), .int (nI act), .int (nI room), .int (nI h)] (N, Z, E, G, T) (fun (r : Int32) (u : sT) => u = (N, Z, E, G, T) ∧ r = oI (bh N (-9) room h act)) := by
  refine ctI_of [(0, .ref (a 0)), (1, .int (nI act)), (2, .int (nI room)), (3, .int (nI h))] (by decide) (Nat.le_of_ble_eq_true rfl) rfl ?_
  intro p e s m args below meth c A C hK hZ hA
  have hR := hI.R
  have hDn := hI.D
  have hdr := hI.door act
  refine hd_iload_n 1 C dX2_roomAfter_0 rfl 1 rfl rfl ?_
  refine hd_aload_n 2 C dX2_roomAfter_1 rfl 0 rfl rfl ?_
  refine gx_doorCount 5 C hK dX2_roomAfter_2 rfl (nI (N 0 1)) rfl ?_
  refine hd_icmp_neN 8 10 C dX2_roomAfter_5 rfl (by decide) (by omega) (by omega) (fun h5 => ?_) (fun h5 => ?_)
  · skip
    refine hd_aload_n 11 C dX2_roomAfter_10 rfl 0 rfl rfl ?_
    refine hd_iload_n 12 C dX2_roomAfter_11 rfl 1 rfl rfl ?_
    refine hd_callVI (rest := []) 15 C hK hZ hA ⟨Nat.zero_le _, Nat.zero_le _⟩ dX2_roomAfter_12 rfl kc_X2_79 (x_isDoor (nI act) hI) ⟨rfl, rfl⟩ ⟨by decide, by decide⟩ 0 2 rfl rfl rfl rfl rfl (by decide) (fun r12 u12 h12 => ?_)
    obtain ⟨rfl, rfl⟩ := h12
    refine hd_if_eqB 18 31 C dX2_roomAfter_15 rfl (by decide) (fun h15 => ?_) (fun h15 => ?_)
    · skip
      rw [inB_nt (by omega) (by omega)] at h15; cases h15
    · skip
      refine hd_aload_n 19 C dX2_roomAfter_18 rfl 0 rfl rfl ?_
      refine gx_doors 22 C hK dX2_roomAfter_19 rfl ?_
      refine hd_iload_n 23 C dX2_roomAfter_22 rfl 1 rfl rfl ?_
      refine alx_doors 24 C hK dX2_roomAfter_23 rfl (by omega) ?_
      refine gd2_room (by omega) 27 C hK dX2_roomAfter_24 rfl (nI (N 2 act)) rfl ?_
      refine hd_iload_n 28 C dX2_roomAfter_27 rfl 2 rfl rfl ?_
      refine hd_icmp_eqN 31 34 C dX2_roomAfter_28 rfl (by decide) (by omega) (by omega) (fun h28 => ?_) (fun h28 => ?_)
      · skip
        refine hd_aload_n 35 C dX2_roomAfter_34 rfl 0 rfl rfl ?_
        refine gx_doors 38 C hK dX2_roomAfter_35 rfl ?_
        refine hd_iload_n 39 C dX2_roomAfter_38 rfl 1 rfl rfl ?_
        refine alx_doors 40 C hK dX2_roomAfter_39 rfl (by omega) ?_
        refine hd_iload_n 41 C dX2_roomAfter_40 rfl 3 rfl rfl ?_
        refine hd_aload_n 42 C dX2_roomAfter_41 rfl 0 rfl rfl ?_
        refine gx_rooms 45 C hK dX2_roomAfter_42 rfl (nI (N 0 0)) rfl ?_
        refine hd_callVI (rest := []) 48 C hK hZ hA ⟨Nat.zero_le _, Nat.zero_le _⟩ dX2_roomAfter_45 rfl kc_X2_100 (x_leadsTo act h hI (by omega) (by omega) (hI.pos (d := act) (by omega))) ⟨rfl, rfl⟩ ⟨by decide, by decide⟩ (10 + act) 0 (wX_door _ (by omega)) rfl rfl rfl rfl (by decide) (fun r45 u45 h45 => ?_)
        obtain ⟨rfl, rfl⟩ := h45
        exact hd_iret C hK dX2_roomAfter_48 ⟨rfl, by simp [bh, oI, nI_ne9 (show act < 2 ^ 31 by omega), h5, h15, h28]⟩
      · skip
        refine hd_bipush 33 C dX2_roomAfter_31 rfl (-9) (by decide) ?_
        exact hd_iret C hK dX2_roomAfter_33 ⟨rfl, by simp [bh, oI, nI_ne9 (show act < 2 ^ 31 by omega), h5, h15, h28]⟩
  · skip
    refine hd_iload_n 9 C dX2_roomAfter_8 rfl 2 rfl rfl ?_
    exact hd_iret C hK dX2_roomAfter_9 ⟨rfl, by simp [bh, oI, nI_ne9 (show act < 2 ^ 31 by omega), h5]⟩

set_option maxHeartbeats 4000000 in
set_option maxRecDepth 100000 in
theorem x_anHourOn {l : Launch} {D : va_G} {cI cJ cD cS : ClassId} {a : Nat → Nat} {N : Nat → Nat → Nat} {Z : Nat → Nat → Int32} {E : Nat → Nat → Int32} {G : Nat → Nat → Int64} {T : Nat → Nat} {t : Option Nat} (set h : Nat) (wo : Int32) (hI : inv N) (hs : set < 64) (hh : h < 12)  : ctI l D (ty4 cI cJ cD cS) t (wX cI cJ cD cS a) yX2_anHourOn cX2_anHourOn 7 (some .int) (rmk 1 23) [.ref (a 0), .int (nI set), .int (nI h), .int wo] (N, Z, E, G, T) (fun (r : Int32) (u : sT) => u = (N, Z, E, G, T) ∧ r = nI (ah N wo h set)) := by
  refine ctI_of [(0, .ref (a 0)), (1, .int (nI set)), (2, .int (nI h)), (3, .int wo)] (by decide) (Nat.le_of_ble_eq_true rfl) rfl ?_
  intro p e s m args below meth c A C hK hZ hA
  have hR := hI.R
  have hDn := hI.D
  refine hd_iload_n 1 C dX2_anHourOn_0 rfl 1 rfl rfl ?_
  refine hd_istore 3 C dX2_anHourOn_1 rfl [(4, .int (nI set)), (0, .ref (a 0)), (1, .int (nI set)), (2, .int (nI h)), (3, .int wo)] (by decide) rfl ?_
  refine hd_iconst 4 C dX2_anHourOn_3 rfl (nI 0) (by decide) ?_
  refine hd_istore 6 C dX2_anHourOn_4 rfl [(5, .int (nI 0)), (4, .int (nI set)), (0, .ref (a 0)), (1, .int (nI set)), (2, .int (nI h)), (3, .int wo)] (by decide) rfl ?_
  have L : ∀ (fuel : Nat) (d : Nat) (hd : d ≤ N 0 1), N 0 1 - d < fuel → XW p l e (rmk 1 23) s m args below meth c 7 0 0 A D (MQ below (va_Qi (fun (r : Int32) (u : sT) => u = (N, Z, E, G, T) ∧ r = nI (ah N wo h set)) (cB D (ty4 cI cJ cD cS) (wX cI cJ cD cS a) A) A) args s 0 0 A) (wX cI cJ cD cS a) (N, Z, E, G, T) 6 [(0, .ref (a 0)), (1, .int (nI set)), (2, .int (nI h)), (3, .int wo), (4, .int (nI (aho N wo h set d))), (5, .int (nI d))] [] := by
    intro fuel
    induction fuel with
    | zero => intro d hd hfu; exact absurd hfu (Nat.not_lt_zero _)
    | succ fuel ih_L =>
      intro d hd hfu_L
      refine hd_iload 8 C dX2_anHourOn_6 rfl 5 rfl ?_
      refine hd_aload_n 9 C dX2_anHourOn_8 rfl 0 rfl rfl ?_
      refine gx_doorCount 12 C hK dX2_anHourOn_9 rfl (nI (N 0 1)) rfl ?_
      refine hd_icmp_geN 15 80 C dX2_anHourOn_12 rfl (by decide) (by omega) (by omega) (fun h12 => ?_) (fun h12 => ?_)
      · skip
        refine hd_iload 82 C dX2_anHourOn_80 rfl 4 rfl ?_
        exact hd_iret C hK dX2_anHourOn_82 ⟨rfl, congrArg nI (ah_end (by omega))⟩
      · skip
        have hat := hI.at h12
        have hdr := hI.door d
        refine hd_iload 17 C dX2_anHourOn_15 rfl 5 rfl ?_
        refine hd_iload_n 18 C dX2_anHourOn_17 rfl 3 rfl rfl ?_
        refine hd_icmp_eq 21 74 C dX2_anHourOn_18 rfl (by decide) (fun h18 => ?_) (fun h18 => ?_)
        · skip
          refine hd_iinc 77 C dX2_anHourOn_74 rfl 5 (nI (d + 1)) [(5, .int (nI (d + 1))), (0, .ref (a 0)), (1, .int (nI set)), (2, .int (nI h)), (3, .int wo), (4, .int (nI (aho N wo h set d)))] rfl (nI_add _ _) (by decide) rfl ?_
          refine hd_goto 6 C dX2_anHourOn_77 (by decide) ?_
          rw [show aho N wo h set d = aho N wo h set (d + 1) from (by simp [aho, Nat.or_zero, hd, h12, h18])]
          refine hd_sub [(0, .ref (a 0)), (1, .int (nI set)), (2, .int (nI h)), (3, .int wo), (4, .int (nI (aho N wo h set (d + 1)))), (5, .int (nI (d + 1)))] [1, 2, 3, 4, 5, 0] rfl ?_
          exact ih_L (d + 1) (by omega) (by omega)
        · skip
          refine hd_iload_n 22 C dX2_anHourOn_21 rfl 1 rfl rfl ?_
          refine hd_aload_n 23 C dX2_anHourOn_22 rfl 0 rfl rfl ?_
          refine gx_doors 26 C hK dX2_anHourOn_23 rfl ?_
          refine hd_iload 28 C dX2_anHourOn_26 rfl 5 rfl ?_
          refine alx_doors 29 C hK dX2_anHourOn_28 rfl (by omega) ?_
          refine gd2_room (by omega) 32 C hK dX2_anHourOn_29 rfl (nI (N 2 d)) rfl ?_
          refine hd_callSI (rest := []) 35 C hK hZ hA ⟨Nat.zero_le _, Nat.zero_le _⟩ dX2_anHourOn_32 rfl kc_X2_208 (x_has set (N 2 d) (by omega) (by omega)) ⟨rfl, rfl⟩ ⟨by decide, by decide⟩ rfl rfl (by decide) (fun r32 u32 h32 => ?_)
          obtain ⟨rfl, rfl⟩ := h32
          refine hd_if_neB 38 41 C dX2_anHourOn_35 rfl (by decide) (fun h35 => ?_) (fun h35 => ?_)
          · skip
            refine hd_aload_n 42 C dX2_anHourOn_41 rfl 0 rfl rfl ?_
            refine gx_doors 45 C hK dX2_anHourOn_42 rfl ?_
            refine hd_iload 47 C dX2_anHourOn_45 rfl 5 rfl ?_
            refine alx_doors 48 C hK dX2_anHourOn_47 rfl (by omega) ?_
            refine hd_iload_n 49 C dX2_anHourOn_48 rfl 2 rfl rfl ?_
            refine hd_aload_n 50 C dX2_anHourOn_49 rfl 0 rfl rfl ?_
            refine gx_rooms 53 C hK dX2_anHourOn_50 rfl (nI (N 0 0)) rfl ?_
            refine hd_callVI (rest := []) 56 C hK hZ hA ⟨Nat.zero_le _, Nat.zero_le _⟩ dX2_anHourOn_53 rfl kc_X2_100 (x_leadsTo d h hI (by omega) (by omega) (by omega)) ⟨rfl, rfl⟩ ⟨by decide, by decide⟩ (10 + d) 0 (wX_door _ (by omega)) rfl rfl rfl rfl (by decide) (fun r53 u53 h53 => ?_)
            obtain ⟨rfl, rfl⟩ := h53
            rcases ho53 : ld N d h with _ | rv53
            · skip
              refine hd_istore 58 C dX2_anHourOn_56 rfl [(6, .int (-9)), (0, .ref (a 0)), (1, .int (nI set)), (2, .int (nI h)), (3, .int wo), (4, .int (nI (aho N wo h set d))), (5, .int (nI d))] (by decide) rfl ?_
              refine hd_iload 60 C dX2_anHourOn_58 rfl 0 rfl ?_
              refine hd_bipush 62 C dX2_anHourOn_60 rfl (-9) (by decide) ?_
              refine hd_icmp_eq 65 74 C dX2_anHourOn_62 rfl (by decide) (fun _ => ?_) (fun q => absurd (by decide) q)
              refine hd_iinc 77 C dX2_anHourOn_74 rfl 6 (nI (d + 1)) [(5, .int (nI (d + 1))), (6, .int (-9)), (0, .ref (a 0)), (1, .int (nI set)), (2, .int (nI h)), (3, .int wo), (4, .int (nI (aho N wo h set d)))] rfl (nI_add _ _) (by decide) rfl ?_
              refine hd_goto 6 C dX2_anHourOn_77 (by decide) ?_
              rw [show aho N wo h set d = aho N wo h set (d + 1) from (by simp [aho, Nat.or_zero, hd, h12, h18, h35, ho53])]
              refine hd_sub [(0, .ref (a 0)), (1, .int (nI set)), (2, .int (nI h)), (3, .int wo), (4, .int (nI (aho N wo h set (d + 1)))), (5, .int (nI (d + 1)))] [2, 3, 4, 5, 6, 0] rfl ?_
              exact ih_L (d + 1) (by omega) (by omega)
            · skip
              have hbrv53 := ld_lt hI (by omega) _ ho53
              refine hd_istore 58 C dX2_anHourOn_56 rfl [(6, .int (nI rv53)), (0, .ref (a 0)), (1, .int (nI set)), (2, .int (nI h)), (3, .int wo), (4, .int (nI (aho N wo h set d))), (5, .int (nI d))] (by decide) rfl ?_
              refine hd_iload 60 C dX2_anHourOn_58 rfl 0 rfl ?_
              refine hd_bipush 62 C dX2_anHourOn_60 rfl (-9) (by decide) ?_
              refine hd_icmp_eq 65 74 C dX2_anHourOn_62 rfl (by decide) (fun q => absurd q (nI_ne9 (by omega))) (fun _ => ?_)
              refine hd_iload 67 C dX2_anHourOn_65 rfl 5 rfl ?_
              refine hd_iconst 68 C dX2_anHourOn_67 rfl (nI 1) (by decide) ?_
              refine hd_iload 70 C dX2_anHourOn_68 rfl 0 rfl ?_
              refine hd_ishl 71 C dX2_anHourOn_70 rfl (nI (2 ^ rv53)) (nI_shl1 (by omega)) ?_
              refine hd_ior 72 C dX2_anHourOn_71 rfl (nI ((aho N wo h set d) ||| (2 ^ rv53))) (fa_or _ _) ?_
              refine hd_istore 74 C dX2_anHourOn_72 rfl [(4, .int (nI ((aho N wo h set d) ||| (2 ^ rv53)))), (6, .int (nI rv53)), (0, .ref (a 0)), (1, .int (nI set)), (2, .int (nI h)), (3, .int wo), (5, .int (nI d))] (by decide) rfl ?_
              refine hd_iinc 77 C dX2_anHourOn_74 rfl 6 (nI (d + 1)) [(5, .int (nI (d + 1))), (4, .int (nI ((aho N wo h set d) ||| (2 ^ rv53)))), (6, .int (nI rv53)), (0, .ref (a 0)), (1, .int (nI set)), (2, .int (nI h)), (3, .int wo)] rfl (nI_add _ _) (by decide) rfl ?_
              refine hd_goto 6 C dX2_anHourOn_77 (by decide) ?_
              rw [show (aho N wo h set d) ||| (2 ^ rv53) = aho N wo h set (d + 1) from (by simp [aho, Nat.or_zero, hd, h12, h18, h35, ho53])]
              refine hd_sub [(0, .ref (a 0)), (1, .int (nI set)), (2, .int (nI h)), (3, .int wo), (4, .int (nI (aho N wo h set (d + 1)))), (5, .int (nI (d + 1)))] [3, 4, 5, 6, 1, 0] rfl ?_
              exact ih_L (d + 1) (by omega) (by omega)
          · skip
            refine hd_goto 74 C dX2_anHourOn_38 (by decide) ?_
            refine hd_iinc 77 C dX2_anHourOn_74 rfl 5 (nI (d + 1)) [(5, .int (nI (d + 1))), (0, .ref (a 0)), (1, .int (nI set)), (2, .int (nI h)), (3, .int wo), (4, .int (nI (aho N wo h set d)))] rfl (nI_add _ _) (by decide) rfl ?_
            refine hd_goto 6 C dX2_anHourOn_77 (by decide) ?_
            rw [show aho N wo h set d = aho N wo h set (d + 1) from (by simp [aho, Nat.or_zero, hd, h12, h18, h35])]
            refine hd_sub [(0, .ref (a 0)), (1, .int (nI set)), (2, .int (nI h)), (3, .int wo), (4, .int (nI (aho N wo h set (d + 1)))), (5, .int (nI (d + 1)))] [1, 2, 3, 4, 5, 0] rfl ?_
            exact ih_L (d + 1) (by omega) (by omega)
  refine hd_sub [(0, .ref (a 0)), (1, .int (nI set)), (2, .int (nI h)), (3, .int wo), (4, .int (nI set)), (5, .int (nI 0))] [2, 3, 4, 5, 1, 0] rfl ?_
  exact L (N 0 1 + 1) 0 (Nat.zero_le _) (by omega)

set_option maxHeartbeats 4000000 in
set_option maxRecDepth 100000 in
theorem x_fewestHours {l : Launch} {D : va_G} {cI cJ cD cS : ClassId} {a : Nat → Nat} {N : Nat → Nat → Nat} {Z : Nat → Nat → Int32} {E : Nat → Nat → Int32} {G : Nat → Nat → Int64} {T : Nat → Nat} {t : Option Nat} (fr to h : Nat) (wo : Int32) (hI : inv N) (hf : fr < 6) (hto : to < 6) (hh : h < 12)  : ctI l D (ty4 cI cJ cD cS) t (wX cI cJ cD cS a) yX2_fewestHours cX2_fewestHours 7 (some .int) (rmk 2 49) [.ref (a 0), .int (nI fr), .int (nI to), .int (nI h), .int wo] (N, Z, E, G, T) (fun (r : Int32) (u : sT) => u = (N, Z, E, G, T) ∧ r = oI (sn N wo fr to h 24)) := by
  refine ctI_of [(0, .ref (a 0)), (1, .int (nI fr)), (2, .int (nI to)), (3, .int (nI h)), (4, .int wo)] (by decide) (Nat.le_of_ble_eq_true rfl) rfl ?_
  intro p e s m args below meth c A C hK hZ hA
  refine hd_iconst 1 C dX2_fewestHours_0 rfl (nI 1) (by decide) ?_
  refine hd_iload_n 2 C dX2_fewestHours_1 rfl 1 rfl rfl ?_
  refine hd_ishl 3 C dX2_fewestHours_2 rfl (nI (2 ^ fr)) (nI_shl1 (by omega)) ?_
  refine hd_istore 5 C dX2_fewestHours_3 rfl [(5, .int (nI (2 ^ fr))), (0, .ref (a 0)), (1, .int (nI fr)), (2, .int (nI to)), (3, .int (nI h)), (4, .int wo)] (by decide) rfl ?_
  refine hd_iconst 6 C dX2_fewestHours_5 rfl (nI 0) (by decide) ?_
  refine hd_istore 8 C dX2_fewestHours_6 rfl [(6, .int (nI 0)), (5, .int (nI (2 ^ fr))), (0, .ref (a 0)), (1, .int (nI fr)), (2, .int (nI to)), (3, .int (nI h)), (4, .int wo)] (by decide) rfl ?_
  have L : ∀ (fuel : Nat) (t set : Nat) (hs : set < 64) (ht : t ≤ 24 + 1) (hF : sn N wo fr to h 24 = fw N wo to h (24 + 1 - t) t set), 24 + 1 - t < fuel → XW p l e (rmk 2 49) s m args below meth c 7 0 0 A D (MQ below (va_Qi (fun (r : Int32) (u : sT) => u = (N, Z, E, G, T) ∧ r = oI (sn N wo fr to h 24)) (cB D (ty4 cI cJ cD cS) (wX cI cJ cD cS a) A) A) args s 0 0 A) (wX cI cJ cD cS a) (N, Z, E, G, T) 8 [(6, .int (nI t)), (5, .int (nI set)), (0, .ref (a 0)), (1, .int (nI fr)), (2, .int (nI to)), (3, .int (nI h)), (4, .int wo)] [] := by
    intro fuel
    induction fuel with
    | zero => intro t set hs ht hF hfu; exact absurd hfu (Nat.not_lt_zero _)
    | succ fuel ih_L =>
      intro t set hs ht hF hfu_L
      refine hd_iload 10 C dX2_fewestHours_8 rfl 0 rfl ?_
      refine hd_bipush 12 C dX2_fewestHours_10 rfl (nI 24) (by decide) ?_
      refine hd_icmp_gtN 15 50 C dX2_fewestHours_12 rfl (by decide) (by omega) (by omega) (fun h12 => ?_) (fun h12 => ?_)
      · skip
        refine hd_bipush 52 C dX2_fewestHours_50 rfl (-9) (by decide) ?_
        exact hd_iret C hK dX2_fewestHours_52 ⟨rfl, by rw [hF, show 24 + 1 - t = 0 by omega]; rfl⟩
      · skip
        refine hd_iload 17 C dX2_fewestHours_15 rfl 1 rfl ?_
        refine hd_iload_n 18 C dX2_fewestHours_17 rfl 4 rfl rfl ?_
        refine hd_callSI (rest := []) 21 C hK hZ hA ⟨Nat.zero_le _, Nat.zero_le _⟩ dX2_fewestHours_18 rfl kc_X2_208 (x_has set to (by omega) (by omega)) ⟨rfl, rfl⟩ ⟨by decide, by decide⟩ rfl rfl (by decide) (fun r18 u18 h18 => ?_)
        obtain ⟨rfl, rfl⟩ := h18
        refine hd_if_eqB 24 27 C dX2_fewestHours_21 rfl (by decide) (fun h21 => ?_) (fun h21 => ?_)
        · skip
          refine hd_aload_n 28 C dX2_fewestHours_27 rfl 2 rfl rfl ?_
          refine hd_iload 30 C dX2_fewestHours_28 rfl 1 rfl ?_
          refine hd_iload_n 31 C dX2_fewestHours_30 rfl 5 rfl rfl ?_
          refine hd_iload 33 C dX2_fewestHours_31 rfl 0 rfl ?_
          refine hd_iadd 34 C dX2_fewestHours_33 rfl (nI (h + t)) (nI_add _ _) ?_
          refine hd_bipush 36 C dX2_fewestHours_34 rfl (nI 12) (by decide) ?_
          refine hd_irem 37 C dX2_fewestHours_36 rfl (nI ((h + t) % 12)) (nI_ne0 (by omega) (by omega)) (pk_rem (by omega) (by omega) (by omega)) ?_
          refine hd_iload 39 C dX2_fewestHours_37 rfl 6 rfl ?_
          refine hd_callVI (rest := []) 42 C hK hZ hA ⟨Nat.zero_le _, Nat.zero_le _⟩ dX2_fewestHours_39 rfl kc_X2_130 (x_anHourOn set ((h + t) % 12) wo hI (by omega) (by omega)) ⟨rfl, rfl⟩ ⟨by decide, by decide⟩ 0 2 rfl rfl rfl rfl rfl (by decide) (fun r39 u39 h39 => ?_)
          obtain ⟨rfl, rfl⟩ := h39
          refine hd_istore 44 C dX2_fewestHours_42 rfl [(5, .int (nI (ah N wo ((h + t) % 12) set))), (6, .int (nI t)), (0, .ref (a 0)), (1, .int (nI fr)), (2, .int (nI to)), (3, .int (nI h)), (4, .int wo)] (by decide) rfl ?_
          refine hd_iinc 47 C dX2_fewestHours_44 rfl 1 (nI (t + 1)) [(6, .int (nI (t + 1))), (5, .int (nI (ah N wo ((h + t) % 12) set))), (0, .ref (a 0)), (1, .int (nI fr)), (2, .int (nI to)), (3, .int (nI h)), (4, .int wo)] rfl (nI_add _ _) (by decide) rfl ?_
          refine hd_goto 8 C dX2_fewestHours_47 (by decide) ?_
          refine hd_sub [(6, .int (nI (t + 1))), (5, .int (nI (ah N wo ((h + t) % 12) set))), (0, .ref (a 0)), (1, .int (nI fr)), (2, .int (nI to)), (3, .int (nI h)), (4, .int wo)] [0, 1, 2, 3, 4, 5, 6] rfl ?_
          exact ih_L (t + 1) _ (ah_lt hI hs) (by omega) (by rw [hF, show 24 + 1 - t = (24 - t) + 1 by omega, show 24 + 1 - (t + 1) = 24 - t by omega, fw_succ, if_neg (by simp [h21])]) (by omega)
        · skip
          refine hd_iload 26 C dX2_fewestHours_24 rfl 0 rfl ?_
          exact hd_iret C hK dX2_fewestHours_26 ⟨rfl, by rw [hF, show 24 + 1 - t = (24 - t) + 1 by omega, fw_succ, if_pos h21]; rfl⟩
  refine hd_sub [(6, .int (nI 0)), (5, .int (nI (2 ^ fr))), (0, .ref (a 0)), (1, .int (nI fr)), (2, .int (nI to)), (3, .int (nI h)), (4, .int wo)] [0, 1, 2, 3, 4, 5, 6] rfl ?_
  exact L (24 + 1 + 1) 0 _ (pow_lt6 (by omega)) (Nat.zero_le _) rfl (by omega)

set_option maxHeartbeats 4000000 in
set_option maxRecDepth 100000 in
theorem m_refused {l : Launch} {D : va_G} {cI cJ cD cS : ClassId} {a : Nat → Nat} {N : Nat → Nat → Nat} {Z : Nat → Nat → Int32} {E : Nat → Nat → Int32} {G : Nat → Nat → Int64} {T : Nat → Nat} (x : Int32)  : ctI l D (ty4 cI cJ cD cS) none (wM cI a) yX3_refused cX3_refused 2 (some .int) (rmk 0 0) [.ref (a 0), .int x] (N, Z, E, G, T) (fun (r : Int32) (u : sT) => u = (N, uZ Z 0 1 0, E, G, T) ∧ r = x) := by
  refine ctI_of [(0, .ref (a 0)), (1, .int x)] (by decide) (Nat.le_of_ble_eq_true rfl) rfl ?_
  intro p e s m args below meth c A C hK hZ hA
  refine hd_aload_n 1 C dX3_refused_0 rfl 0 rfl rfl ?_
  refine hd_iconst 2 C dX3_refused_1 rfl (nI 0) (by decide) ?_
  refine pm_fault 5 C hK dX3_refused_2 rfl ?_
  refine hd_iload_n 6 C dX3_refused_5 rfl 1 rfl rfl ?_
  exact hd_iret C hK dX3_refused_6 ⟨rfl, rfl⟩

set_option maxHeartbeats 4000000 in
set_option maxRecDepth 100000 in
theorem m_failed {l : Launch} {D : va_G} {cI cJ cD cS : ClassId} {a : Nat → Nat} {N : Nat → Nat → Nat} {Z : Nat → Nat → Int32} {E : Nat → Nat → Int32} {G : Nat → Nat → Int64} {T : Nat → Nat} (f : Int32)  : ctI l D (ty4 cI cJ cD cS) none (wM cI a) yX3_failed cX3_failed 2 (some .int) (rmk 0 0) [.ref (a 0), .int f] (N, Z, E, G, T) (fun (r : Int32) (u : sT) => u = (N, uZ Z 0 1 f, E, G, T) ∧ r = -10 - f) := by
  refine ctI_of [(0, .ref (a 0)), (1, .int f)] (by decide) (Nat.le_of_ble_eq_true rfl) rfl ?_
  intro p e s m args below meth c A C hK hZ hA
  refine hd_aload_n 1 C dX3_failed_0 rfl 0 rfl rfl ?_
  refine hd_iload_n 2 C dX3_failed_1 rfl 1 rfl rfl ?_
  refine pm_fault 5 C hK dX3_failed_2 rfl ?_
  refine hd_bipush 7 C dX3_failed_5 rfl (-10) (by decide) ?_
  refine hd_iload_n 8 C dX3_failed_7 rfl 1 rfl rfl ?_
  refine hd_isub 9 C dX3_failed_8 rfl ((-10) - f) rfl ?_
  exact hd_iret C hK dX3_failed_9 ⟨rfl, rfl⟩

set_option maxHeartbeats 4000000 in
set_option maxRecDepth 100000 in
theorem m_failedLong {l : Launch} {D : va_G} {cI cJ cD cS : ClassId} {a : Nat → Nat} {N : Nat → Nat → Nat} {Z : Nat → Nat → Int32} {E : Nat → Nat → Int32} {G : Nat → Nat → Int64} {T : Nat → Nat} (f : Int32)  : ctL l D (ty4 cI cJ cD cS) none (wM cI a) yX3_failedLong cX3_failedLong 2 (some .long) (rmk 1 19) [.ref (a 0), .int f] (N, Z, E, G, T) (fun (r : Int64) (u : sT) => u = (N, uZ Z 0 1 f, E, G, T) ∧ r = -9223372036854775808) := by
  refine ctL_of [(0, .ref (a 0)), (1, .int f)] (by decide) (Nat.le_of_ble_eq_true rfl) rfl ?_
  intro p e s m args below meth c A C hK hZ hA
  refine hd_aload_n 1 C dX3_failedLong_0 rfl 0 rfl rfl ?_
  refine hd_iload_n 2 C dX3_failedLong_1 rfl 1 rfl rfl ?_
  refine pm_fault 5 C hK dX3_failedLong_2 rfl ?_
  refine hd_callSL (rest := []) 8 C hK hZ hA ⟨Nat.zero_le _, Nat.zero_le _⟩ dX3_failedLong_5 rfl kc_X3_70 m_lost ⟨rfl, rfl⟩ ⟨by decide, by decide⟩ rfl rfl (by decide) (fun r5 u5 h5 => ?_)
  obtain ⟨rfl, rfl⟩ := h5
  exact hd_lret C hK dX3_failedLong_8 ⟨rfl, rfl⟩

set_option maxHeartbeats 4000000 in
set_option maxRecDepth 100000 in
theorem m_noRoom {l : Launch} {D : va_G} {cI cJ cD cS : ClassId} {a : Nat → Nat} {N : Nat → Nat → Nat} {Z : Nat → Nat → Int32} {E : Nat → Nat → Int32} {G : Nat → Nat → Int64} {T : Nat → Nat} (x : Int32) (hI : inv N)  : ctI l D (ty4 cI cJ cD cS) none (wM cI a) yX3_noRoom cX3_noRoom 2 (some .boolean) (rmk 1 25) [.ref (a 0), .int x] (N, Z, E, G, T) (fun (r : Int32) (u : sT) => u = (N, Z, E, G, T) ∧ r = bI (!inB x (N 0 0))) := by
  refine ctI_of [(0, .ref (a 0)), (1, .int x)] (by decide) (Nat.le_of_ble_eq_true rfl) rfl ?_
  intro p e s m args below meth c A C hK hZ hA
  have hR := hI.R
  have hDn := hI.D
  refine hd_iload_n 1 C dX3_noRoom_0 rfl 1 rfl rfl ?_
  refine hd_i2l 2 C dX3_noRoom_1 rfl x.toInt64 rfl ?_
  refine hd_lconst 3 C dX3_noRoom_2 rfl 0 (by decide) ?_
  refine hd_aload_n 4 C dX3_noRoom_3 rfl 0 rfl rfl ?_
  refine gm_rooms 7 C hK dX3_noRoom_4 rfl (nI (N 0 0)) rfl ?_
  refine hd_i2l 8 C dX3_noRoom_7 rfl ((nI (N 0 0)).toInt64) rfl ?_
  refine hd_lconst 9 C dX3_noRoom_8 rfl 1 (by decide) ?_
  refine hd_lsub 10 C dX3_noRoom_9 rfl (((nI (N 0 0)).toInt64) - 1) rfl ?_
  refine hd_callSI (rest := []) 13 C hK hZ hA ⟨Nat.zero_le _, Nat.zero_le _⟩ dX3_noRoom_10 rfl kc_X3_77 (m_in x.toInt64 0 (((nI (N 0 0)).toInt64) - 1)) ⟨rfl, rfl⟩ ⟨by decide, by decide⟩ rfl rfl (by decide) (fun r10 u10 h10 => ?_)
  obtain ⟨rfl, rfl⟩ := h10
  refine hd_if_neB 16 20 C dX3_noRoom_13 rfl (by decide) (fun h13 => ?_) (fun h13 => ?_)
  · skip
    refine hd_iconst 21 C dX3_noRoom_20 rfl (nI 0) (by decide) ?_
    exact hd_zret C hK dX3_noRoom_21 (by decide) ⟨rfl, bI_is0 (by rw [inL_in x (by omega)] at h13; rw [h13]; rfl)⟩
  · skip
    refine hd_iconst 17 C dX3_noRoom_16 rfl (nI 1) (by decide) ?_
    refine hd_goto 21 C dX3_noRoom_17 (by decide) ?_
    exact hd_zret C hK dX3_noRoom_21 (by decide) ⟨rfl, bI_is1 (by rw [inL_in x (by omega)] at h13; rw [h13]; rfl)⟩

set_option maxHeartbeats 4000000 in
set_option maxRecDepth 100000 in
theorem m_noDoor {l : Launch} {D : va_G} {cI cJ cD cS : ClassId} {a : Nat → Nat} {N : Nat → Nat → Nat} {Z : Nat → Nat → Int32} {E : Nat → Nat → Int32} {G : Nat → Nat → Int64} {T : Nat → Nat} (x : Int32) (hI : inv N)  : ctI l D (ty4 cI cJ cD cS) none (wM cI a) yX3_noDoor cX3_noDoor 2 (some .boolean) (rmk 1 25) [.ref (a 0), .int x] (N, Z, E, G, T) (fun (r : Int32) (u : sT) => u = (N, Z, E, G, T) ∧ r = bI (!inB x (N 0 1))) := by
  refine ctI_of [(0, .ref (a 0)), (1, .int x)] (by decide) (Nat.le_of_ble_eq_true rfl) rfl ?_
  intro p e s m args below meth c A C hK hZ hA
  have hR := hI.R
  have hDn := hI.D
  refine hd_iload_n 1 C dX3_noDoor_0 rfl 1 rfl rfl ?_
  refine hd_i2l 2 C dX3_noDoor_1 rfl x.toInt64 rfl ?_
  refine hd_lconst 3 C dX3_noDoor_2 rfl 0 (by decide) ?_
  refine hd_aload_n 4 C dX3_noDoor_3 rfl 0 rfl rfl ?_
  refine gm_doors 7 C hK dX3_noDoor_4 rfl (nI (N 0 1)) rfl ?_
  refine hd_i2l 8 C dX3_noDoor_7 rfl ((nI (N 0 1)).toInt64) rfl ?_
  refine hd_lconst 9 C dX3_noDoor_8 rfl 1 (by decide) ?_
  refine hd_lsub 10 C dX3_noDoor_9 rfl (((nI (N 0 1)).toInt64) - 1) rfl ?_
  refine hd_callSI (rest := []) 13 C hK hZ hA ⟨Nat.zero_le _, Nat.zero_le _⟩ dX3_noDoor_10 rfl kc_X3_77 (m_in x.toInt64 0 (((nI (N 0 1)).toInt64) - 1)) ⟨rfl, rfl⟩ ⟨by decide, by decide⟩ rfl rfl (by decide) (fun r10 u10 h10 => ?_)
  obtain ⟨rfl, rfl⟩ := h10
  refine hd_if_neB 16 20 C dX3_noDoor_13 rfl (by decide) (fun h13 => ?_) (fun h13 => ?_)
  · skip
    refine hd_iconst 21 C dX3_noDoor_20 rfl (nI 0) (by decide) ?_
    exact hd_zret C hK dX3_noDoor_21 (by decide) ⟨rfl, bI_is0 (by rw [inL_in x (by omega)] at h13; rw [h13]; rfl)⟩
  · skip
    refine hd_iconst 17 C dX3_noDoor_16 rfl (nI 1) (by decide) ?_
    refine hd_goto 21 C dX3_noDoor_17 (by decide) ?_
    exact hd_zret C hK dX3_noDoor_21 (by decide) ⟨rfl, bI_is1 (by rw [inL_in x (by omega)] at h13; rw [h13]; rfl)⟩

set_option maxHeartbeats 4000000 in
set_option maxRecDepth 100000 in
theorem m_noHour {l : Launch} {D : va_G} {tys : List (ClassId × FieldType)} {σ : Type} {w : σ → va_W} {S : σ} {t : Option Nat} (x : Int32)  : ctI l D tys t w yX3_noHour cX3_noHour 1 (some .boolean) (rmk 1 25) [.int x] S (fun (r : Int32) (u : σ) => u = S ∧ r = bI (!inB x 12)) := by
  refine ctI_of [(0, .int x)] (by decide) (Nat.le_of_ble_eq_true rfl) rfl ?_
  intro p e s m args below meth c A C hK hZ hA
  refine hd_iload_n 1 C dX3_noHour_0 rfl 0 rfl rfl ?_
  refine hd_i2l 2 C dX3_noHour_1 rfl x.toInt64 rfl ?_
  refine hd_lconst 3 C dX3_noHour_2 rfl 0 (by decide) ?_
  refine hd_ldc2 6 C dX3_noHour_3 rfl kl_X3_84 ?_
  refine hd_callSI (rest := []) 9 C hK hZ hA ⟨Nat.zero_le _, Nat.zero_le _⟩ dX3_noHour_6 rfl kc_X3_77 (m_in x.toInt64 0 (11)) ⟨rfl, rfl⟩ ⟨by decide, by decide⟩ rfl rfl (by decide) (fun r6 u6 h6 => ?_)
  obtain ⟨rfl, rfl⟩ := h6
  refine hd_if_neB 12 16 C dX3_noHour_9 rfl (by decide) (fun h9 => ?_) (fun h9 => ?_)
  · skip
    refine hd_iconst 17 C dX3_noHour_16 rfl (nI 0) (by decide) ?_
    exact hd_zret C hK dX3_noHour_17 (by decide) ⟨rfl, bI_is0 (by rw [inL_k x _ 12 (by decide)] at h9; rw [h9]; rfl)⟩
  · skip
    refine hd_iconst 13 C dX3_noHour_12 rfl (nI 1) (by decide) ?_
    refine hd_goto 17 C dX3_noHour_13 (by decide) ?_
    exact hd_zret C hK dX3_noHour_17 (by decide) ⟨rfl, bI_is1 (by rw [inL_k x _ 12 (by decide)] at h9; rw [h9]; rfl)⟩

set_option maxHeartbeats 4000000 in
set_option maxRecDepth 100000 in
theorem m_noSheet {l : Launch} {D : va_G} {tys : List (ClassId × FieldType)} {σ : Type} {w : σ → va_W} {S : σ} {t : Option Nat} (x : Int32)  : ctI l D tys t w yX3_noSheet cX3_noSheet 1 (some .boolean) (rmk 1 25) [.int x] S (fun (r : Int32) (u : σ) => u = S ∧ r = bI (!inB x 4)) := by
  refine ctI_of [(0, .int x)] (by decide) (Nat.le_of_ble_eq_true rfl) rfl ?_
  intro p e s m args below meth c A C hK hZ hA
  refine hd_iload_n 1 C dX3_noSheet_0 rfl 0 rfl rfl ?_
  refine hd_i2l 2 C dX3_noSheet_1 rfl x.toInt64 rfl ?_
  refine hd_lconst 3 C dX3_noSheet_2 rfl 0 (by decide) ?_
  refine hd_ldc2 6 C dX3_noSheet_3 rfl kl_X3_208 ?_
  refine hd_callSI (rest := []) 9 C hK hZ hA ⟨Nat.zero_le _, Nat.zero_le _⟩ dX3_noSheet_6 rfl kc_X3_77 (m_in x.toInt64 0 (3)) ⟨rfl, rfl⟩ ⟨by decide, by decide⟩ rfl rfl (by decide) (fun r6 u6 h6 => ?_)
  obtain ⟨rfl, rfl⟩ := h6
  refine hd_if_neB 12 16 C dX3_noSheet_9 rfl (by decide) (fun h9 => ?_) (fun h9 => ?_)
  · skip
    refine hd_iconst 17 C dX3_noSheet_16 rfl (nI 0) (by decide) ?_
    exact hd_zret C hK dX3_noSheet_17 (by decide) ⟨rfl, bI_is0 (by rw [inL_k x _ 4 (by decide)] at h9; rw [h9]; rfl)⟩
  · skip
    refine hd_iconst 13 C dX3_noSheet_12 rfl (nI 1) (by decide) ?_
    refine hd_goto 17 C dX3_noSheet_13 (by decide) ?_
    exact hd_zret C hK dX3_noSheet_17 (by decide) ⟨rfl, bI_is1 (by rw [inL_k x _ 4 (by decide)] at h9; rw [h9]; rfl)⟩

set_option maxHeartbeats 4000000 in
set_option maxRecDepth 100000 in
theorem m_leadsAt {l : Launch} {D : va_G} {cI cJ cD cS : ClassId} {a : Nat → Nat} {N : Nat → Nat → Nat} {Z : Nat → Nat → Int32} {E : Nat → Nat → Int32} {G : Nat → Nat → Int64} {T : Nat → Nat} (d h : Nat) (hI : inv N) (hd : d < 8) (hh : h < 12) (hR0 : 0 < N 0 0)  : ctI l D (ty4 cI cJ cD cS) none (wM cI a) yX3_leadsAt cX3_leadsAt 4 (some .int) (rmk 0 0) [.ref (a 0), .int (nI d), .int (nI h)] (N, Z, E, G, T) (fun (r : Int32) (u : sT) => u = (N, Z, E, G, T) ∧ r = oI (ld N d h)) := by
  refine ctI_of [(0, .ref (a 0)), (1, .int (nI d)), (2, .int (nI h))] (by decide) (Nat.le_of_ble_eq_true rfl) rfl ?_
  intro p e s m args below meth c A C hK hZ hA
  have hR := hI.R
  have hdr := hI.door d
  refine hd_aload_n 1 C dX3_leadsAt_0 rfl 0 rfl rfl ?_
  refine gm_kindOf 4 C hK dX3_leadsAt_1 rfl ?_
  refine hd_iload_n 5 C dX3_leadsAt_4 rfl 1 rfl rfl ?_
  refine alm_kindOf 6 C hK dX3_leadsAt_5 rfl (by omega) (nI (N 1 d)) rfl ?_
  refine hd_iconst 7 C dX3_leadsAt_6 rfl (nI 2) (by decide) ?_
  refine hd_icmp_neN 10 19 C dX3_leadsAt_7 rfl (by decide) (by omega) (by omega) (fun h7 => ?_) (fun h7 => ?_)
  · skip
    refine hd_aload_n 20 C dX3_leadsAt_19 rfl 0 rfl rfl ?_
    refine gm_kindOf 23 C hK dX3_leadsAt_20 rfl ?_
    refine hd_iload_n 24 C dX3_leadsAt_23 rfl 1 rfl rfl ?_
    refine alm_kindOf 25 C hK dX3_leadsAt_24 rfl (by omega) (nI (N 1 d)) rfl ?_
    refine hd_if_neN 28 32 C dX3_leadsAt_25 rfl (by decide) (by omega) (fun h25 => ?_) (fun h25 => ?_)
    · skip
      refine hd_iload_n 33 C dX3_leadsAt_32 rfl 2 rfl rfl ?_
      refine hd_bipush 35 C dX3_leadsAt_33 rfl (nI 12) (by decide) ?_
      refine hd_iadd 36 C dX3_leadsAt_35 rfl (nI (h + 12)) (nI_add _ _) ?_
      refine hd_iconst 37 C dX3_leadsAt_36 rfl (nI 1) (by decide) ?_
      refine hd_isub 38 C dX3_leadsAt_37 rfl (nI ((h + 12) - 1)) (pk_sub (by omega)) ?_
      refine hd_bipush 40 C dX3_leadsAt_38 rfl (nI 12) (by decide) ?_
      refine hd_irem 41 C dX3_leadsAt_40 rfl (nI (((h + 12) - 1) % 12)) (nI_ne0 (by omega) (by omega)) (pk_rem (by omega) (by omega) (by omega)) ?_
      refine hd_istore_n 42 C dX3_leadsAt_41 rfl [(3, .int (nI (((h + 12) - 1) % 12))), (0, .ref (a 0)), (1, .int (nI d)), (2, .int (nI h))] rfl (by decide) rfl ?_
      refine hd_aload_n 43 C dX3_leadsAt_42 rfl 1 rfl rfl ?_
      refine gm_toOf 46 C hK dX3_leadsAt_43 rfl ?_
      refine hd_iload_n 47 C dX3_leadsAt_46 rfl 2 rfl rfl ?_
      refine alm_toOf 48 C hK dX3_leadsAt_47 rfl (by omega) (nI (N 3 d)) rfl ?_
      refine hd_aload_n 49 C dX3_leadsAt_48 rfl 1 rfl rfl ?_
      refine gm_stepOf 52 C hK dX3_leadsAt_49 rfl ?_
      refine hd_iload_n 53 C dX3_leadsAt_52 rfl 2 rfl rfl ?_
      refine alm_stepOf 54 C hK dX3_leadsAt_53 rfl (by omega) (nI (N 4 d)) rfl ?_
      refine hd_iload_n 55 C dX3_leadsAt_54 rfl 0 rfl rfl ?_
      refine hd_imul 56 C dX3_leadsAt_55 rfl (nI ((N 4 d) * (((h + 12) - 1) % 12))) (pk_mul _ _) ?_
      refine hd_iadd 57 C dX3_leadsAt_56 rfl (nI ((N 3 d) + ((N 4 d) * (((h + 12) - 1) % 12)))) (nI_add _ _) ?_
      refine hd_aload_n 58 C dX3_leadsAt_57 rfl 1 rfl rfl ?_
      refine gm_rooms 61 C hK dX3_leadsAt_58 rfl (nI (N 0 0)) rfl ?_
      have hm := mul_le (Nat.le_of_lt_succ hdr.2.2.2) (show ((h + 12) - 1) % 12 ≤ 11 by omega)
      refine hd_irem 62 C dX3_leadsAt_61 rfl (nI (((N 3 d) + ((N 4 d) * (((h + 12) - 1) % 12))) % (N 0 0))) (nI_ne0 (by omega) (by omega)) (pk_rem (by omega) (by omega) (by omega)) ?_
      exact hd_iret C hK dX3_leadsAt_62 ⟨rfl, by first | (exfalso; omega) | simp [ld, ld0, oI, h7, h25]⟩
    · skip
      refine hd_iload_n 29 C dX3_leadsAt_28 rfl 2 rfl rfl ?_
      refine hd_goto 41 C dX3_leadsAt_29 (by decide) ?_
      refine hd_istore_n 42 C dX3_leadsAt_41 rfl [(3, .int (nI h)), (0, .ref (a 0)), (1, .int (nI d)), (2, .int (nI h))] rfl (by decide) rfl ?_
      refine hd_aload_n 43 C dX3_leadsAt_42 rfl 1 rfl rfl ?_
      refine gm_toOf 46 C hK dX3_leadsAt_43 rfl ?_
      refine hd_iload_n 47 C dX3_leadsAt_46 rfl 2 rfl rfl ?_
      refine alm_toOf 48 C hK dX3_leadsAt_47 rfl (by omega) (nI (N 3 d)) rfl ?_
      refine hd_aload_n 49 C dX3_leadsAt_48 rfl 1 rfl rfl ?_
      refine gm_stepOf 52 C hK dX3_leadsAt_49 rfl ?_
      refine hd_iload_n 53 C dX3_leadsAt_52 rfl 2 rfl rfl ?_
      refine alm_stepOf 54 C hK dX3_leadsAt_53 rfl (by omega) (nI (N 4 d)) rfl ?_
      refine hd_iload_n 55 C dX3_leadsAt_54 rfl 0 rfl rfl ?_
      refine hd_imul 56 C dX3_leadsAt_55 rfl (nI ((N 4 d) * h)) (pk_mul _ _) ?_
      refine hd_iadd 57 C dX3_leadsAt_56 rfl (nI ((N 3 d) + ((N 4 d) * h))) (nI_add _ _) ?_
      refine hd_aload_n 58 C dX3_leadsAt_57 rfl 1 rfl rfl ?_
      refine gm_rooms 61 C hK dX3_leadsAt_58 rfl (nI (N 0 0)) rfl ?_
      have hm := mul_le (Nat.le_of_lt_succ hdr.2.2.2) (show h ≤ 11 by omega)
      refine hd_irem 62 C dX3_leadsAt_61 rfl (nI (((N 3 d) + ((N 4 d) * h)) % (N 0 0))) (nI_ne0 (by omega) (by omega)) (pk_rem (by omega) (by omega) (by omega)) ?_
      exact hd_iret C hK dX3_leadsAt_62 ⟨rfl, by first | (exfalso; omega) | simp [ld, ld0, oI, h7, h25]⟩
  · skip
    refine hd_iload_n 11 C dX3_leadsAt_10 rfl 2 rfl rfl ?_
    refine hd_iconst 12 C dX3_leadsAt_11 rfl (nI 3) (by decide) ?_
    refine hd_irem 13 C dX3_leadsAt_12 rfl (nI (h % 3)) (nI_ne0 (by omega) (by omega)) (pk_rem (by omega) (by omega) (by omega)) ?_
    refine hd_if_eqN 16 19 C dX3_leadsAt_13 rfl (by decide) (by omega) (fun h13 => ?_) (fun h13 => ?_)
    · skip
      refine hd_aload_n 20 C dX3_leadsAt_19 rfl 0 rfl rfl ?_
      refine gm_kindOf 23 C hK dX3_leadsAt_20 rfl ?_
      refine hd_iload_n 24 C dX3_leadsAt_23 rfl 1 rfl rfl ?_
      refine alm_kindOf 25 C hK dX3_leadsAt_24 rfl (by omega) (nI (N 1 d)) rfl ?_
      refine hd_if_neN 28 32 C dX3_leadsAt_25 rfl (by decide) (by omega) (fun h25 => ?_) (fun h25 => ?_)
      · skip
        refine hd_iload_n 33 C dX3_leadsAt_32 rfl 2 rfl rfl ?_
        refine hd_bipush 35 C dX3_leadsAt_33 rfl (nI 12) (by decide) ?_
        refine hd_iadd 36 C dX3_leadsAt_35 rfl (nI (h + 12)) (nI_add _ _) ?_
        refine hd_iconst 37 C dX3_leadsAt_36 rfl (nI 1) (by decide) ?_
        refine hd_isub 38 C dX3_leadsAt_37 rfl (nI ((h + 12) - 1)) (pk_sub (by omega)) ?_
        refine hd_bipush 40 C dX3_leadsAt_38 rfl (nI 12) (by decide) ?_
        refine hd_irem 41 C dX3_leadsAt_40 rfl (nI (((h + 12) - 1) % 12)) (nI_ne0 (by omega) (by omega)) (pk_rem (by omega) (by omega) (by omega)) ?_
        refine hd_istore_n 42 C dX3_leadsAt_41 rfl [(3, .int (nI (((h + 12) - 1) % 12))), (0, .ref (a 0)), (1, .int (nI d)), (2, .int (nI h))] rfl (by decide) rfl ?_
        refine hd_aload_n 43 C dX3_leadsAt_42 rfl 1 rfl rfl ?_
        refine gm_toOf 46 C hK dX3_leadsAt_43 rfl ?_
        refine hd_iload_n 47 C dX3_leadsAt_46 rfl 2 rfl rfl ?_
        refine alm_toOf 48 C hK dX3_leadsAt_47 rfl (by omega) (nI (N 3 d)) rfl ?_
        refine hd_aload_n 49 C dX3_leadsAt_48 rfl 1 rfl rfl ?_
        refine gm_stepOf 52 C hK dX3_leadsAt_49 rfl ?_
        refine hd_iload_n 53 C dX3_leadsAt_52 rfl 2 rfl rfl ?_
        refine alm_stepOf 54 C hK dX3_leadsAt_53 rfl (by omega) (nI (N 4 d)) rfl ?_
        refine hd_iload_n 55 C dX3_leadsAt_54 rfl 0 rfl rfl ?_
        refine hd_imul 56 C dX3_leadsAt_55 rfl (nI ((N 4 d) * (((h + 12) - 1) % 12))) (pk_mul _ _) ?_
        refine hd_iadd 57 C dX3_leadsAt_56 rfl (nI ((N 3 d) + ((N 4 d) * (((h + 12) - 1) % 12)))) (nI_add _ _) ?_
        refine hd_aload_n 58 C dX3_leadsAt_57 rfl 1 rfl rfl ?_
        refine gm_rooms 61 C hK dX3_leadsAt_58 rfl (nI (N 0 0)) rfl ?_
        have hm := mul_le (Nat.le_of_lt_succ hdr.2.2.2) (show ((h + 12) - 1) % 12 ≤ 11 by omega)
        refine hd_irem 62 C dX3_leadsAt_61 rfl (nI (((N 3 d) + ((N 4 d) * (((h + 12) - 1) % 12))) % (N 0 0))) (nI_ne0 (by omega) (by omega)) (pk_rem (by omega) (by omega) (by omega)) ?_
        exact hd_iret C hK dX3_leadsAt_62 ⟨rfl, by first | (exfalso; omega) | simp [ld, ld0, oI, h7, h13, h25]⟩
      · skip
        refine hd_iload_n 29 C dX3_leadsAt_28 rfl 2 rfl rfl ?_
        refine hd_goto 41 C dX3_leadsAt_29 (by decide) ?_
        refine hd_istore_n 42 C dX3_leadsAt_41 rfl [(3, .int (nI h)), (0, .ref (a 0)), (1, .int (nI d)), (2, .int (nI h))] rfl (by decide) rfl ?_
        refine hd_aload_n 43 C dX3_leadsAt_42 rfl 1 rfl rfl ?_
        refine gm_toOf 46 C hK dX3_leadsAt_43 rfl ?_
        refine hd_iload_n 47 C dX3_leadsAt_46 rfl 2 rfl rfl ?_
        refine alm_toOf 48 C hK dX3_leadsAt_47 rfl (by omega) (nI (N 3 d)) rfl ?_
        refine hd_aload_n 49 C dX3_leadsAt_48 rfl 1 rfl rfl ?_
        refine gm_stepOf 52 C hK dX3_leadsAt_49 rfl ?_
        refine hd_iload_n 53 C dX3_leadsAt_52 rfl 2 rfl rfl ?_
        refine alm_stepOf 54 C hK dX3_leadsAt_53 rfl (by omega) (nI (N 4 d)) rfl ?_
        refine hd_iload_n 55 C dX3_leadsAt_54 rfl 0 rfl rfl ?_
        refine hd_imul 56 C dX3_leadsAt_55 rfl (nI ((N 4 d) * h)) (pk_mul _ _) ?_
        refine hd_iadd 57 C dX3_leadsAt_56 rfl (nI ((N 3 d) + ((N 4 d) * h))) (nI_add _ _) ?_
        refine hd_aload_n 58 C dX3_leadsAt_57 rfl 1 rfl rfl ?_
        refine gm_rooms 61 C hK dX3_leadsAt_58 rfl (nI (N 0 0)) rfl ?_
        have hm := mul_le (Nat.le_of_lt_succ hdr.2.2.2) (show h ≤ 11 by omega)
        refine hd_irem 62 C dX3_leadsAt_61 rfl (nI (((N 3 d) + ((N 4 d) * h)) % (N 0 0))) (nI_ne0 (by omega) (by omega)) (pk_rem (by omega) (by omega) (by omega)) ?_
        exact hd_iret C hK dX3_leadsAt_62 ⟨rfl, by first | (exfalso; omega) | simp [ld, ld0, oI, h7, h13, h25]⟩
    · skip
      refine hd_bipush 18 C dX3_leadsAt_16 rfl (-9) (by decide) ?_
      exact hd_iret C hK dX3_leadsAt_18 ⟨rfl, by first | (exfalso; omega) | simp [ld, ld0, oI, h7, h13]⟩

set_option maxHeartbeats 4000000 in
set_option maxRecDepth 100000 in
theorem m_behind {l : Launch} {D : va_G} {cI cJ cD cS : ClassId} {a : Nat → Nat} {N : Nat → Nat → Nat} {Z : Nat → Nat → Int32} {E : Nat → Nat → Int32} {G : Nat → Nat → Int64} {T : Nat → Nat} (room h act : Nat) (hI : inv N) (ha : act ≤ N 0 1) (hr : room < 6) (hh : h < 12)  : ctI l D (ty4 cI cJ cD cS) none (wM cI a) yX3_behind cX3_behind 4 (some .int) (rmk 1 23) [.ref (a 0), .int (nI room), .int (nI h), .int (nI act)] (N, Z, E, G, T) (fun (r : Int32) (u : sT) => u = (N, Z, E, G, T) ∧ r = oI (bh N (Z 0 2) room h act)) := by
  refine ctI_of [(0, .ref (a 0)), (1, .int (nI room)), (2, .int (nI h)), (3, .int (nI act))] (by decide) (Nat.le_of_ble_eq_true rfl) rfl ?_
  intro p e s m args below meth c A C hK hZ hA
  have hR := hI.R
  have hDn := hI.D
  have hdr := hI.door act
  refine hd_iload_n 1 C dX3_behind_0 rfl 3 rfl rfl ?_
  refine hd_aload_n 2 C dX3_behind_1 rfl 0 rfl rfl ?_
  refine gm_doors 5 C hK dX3_behind_2 rfl (nI (N 0 1)) rfl ?_
  refine hd_icmp_neN 8 10 C dX3_behind_5 rfl (by decide) (by omega) (by omega) (fun h5 => ?_) (fun h5 => ?_)
  · skip
    refine hd_iload_n 11 C dX3_behind_10 rfl 3 rfl rfl ?_
    refine hd_aload_n 12 C dX3_behind_11 rfl 0 rfl rfl ?_
    refine gm_gone 15 C hK dX3_behind_12 rfl (Z 0 2) rfl ?_
    refine hd_icmp_eq 18 28 C dX3_behind_15 rfl (by decide) (fun h15 => ?_) (fun h15 => ?_)
    · skip
      refine hd_bipush 30 C dX3_behind_28 rfl (-9) (by decide) ?_
      refine hd_goto 39 C dX3_behind_30 (by decide) ?_
      exact hd_iret C hK dX3_behind_39 ⟨rfl, by simp [bh, oI, h5, h15]⟩
    · skip
      refine hd_aload_n 19 C dX3_behind_18 rfl 0 rfl rfl ?_
      refine gm_roomOf 22 C hK dX3_behind_19 rfl ?_
      refine hd_iload_n 23 C dX3_behind_22 rfl 3 rfl rfl ?_
      refine alm_roomOf 24 C hK dX3_behind_23 rfl (by omega) (nI (N 2 act)) rfl ?_
      refine hd_iload_n 25 C dX3_behind_24 rfl 1 rfl rfl ?_
      refine hd_icmp_eqN 28 33 C dX3_behind_25 rfl (by decide) (by omega) (by omega) (fun h25 => ?_) (fun h25 => ?_)
      · skip
        refine hd_aload_n 34 C dX3_behind_33 rfl 0 rfl rfl ?_
        refine hd_iload_n 35 C dX3_behind_34 rfl 3 rfl rfl ?_
        refine hd_iload_n 36 C dX3_behind_35 rfl 2 rfl rfl ?_
        refine hd_callVI (rest := []) 39 C hK hZ hA ⟨Nat.zero_le _, Nat.zero_le _⟩ dX3_behind_36 rfl kc_X3_140 (m_leadsAt act h hI (by omega) (by omega) (hI.pos (d := act) (by omega))) ⟨rfl, rfl⟩ ⟨by decide, by decide⟩ 0 3 rfl rfl rfl rfl rfl (by decide) (fun r36 u36 h36 => ?_)
        obtain ⟨rfl, rfl⟩ := h36
        exact hd_iret C hK dX3_behind_39 ⟨rfl, by simp [bh, oI, h5, h15, h25]⟩
      · skip
        refine hd_bipush 30 C dX3_behind_28 rfl (-9) (by decide) ?_
        refine hd_goto 39 C dX3_behind_30 (by decide) ?_
        exact hd_iret C hK dX3_behind_39 ⟨rfl, by simp [bh, oI, h5, h15, h25]⟩
  · skip
    refine hd_iload_n 9 C dX3_behind_8 rfl 1 rfl rfl ?_
    exact hd_iret C hK dX3_behind_9 ⟨rfl, by simp [bh, oI, h5]⟩

set_option maxHeartbeats 4000000 in
set_option maxRecDepth 100000 in
theorem m_setBehind {l : Launch} {D : va_G} {cI cJ cD cS : ClassId} {a : Nat → Nat} {N : Nat → Nat → Nat} {Z : Nat → Nat → Int32} {E : Nat → Nat → Int32} {G : Nat → Nat → Int64} {T : Nat → Nat} (set h : Nat) (hI : inv N) (hs : set < 64) (hh : h < 12)  : ctI l D (ty4 cI cJ cD cS) none (wM cI a) yX3_setBehind cX3_setBehind 6 (some .int) (rmk 2 46) [.ref (a 0), .int (nI set), .int (nI h)] (N, Z, E, G, T) (fun (r : Int32) (u : sT) => u = (N, Z, E, G, T) ∧ r = nI (ah N (Z 0 2) h set)) := by
  refine ctI_of [(0, .ref (a 0)), (1, .int (nI set)), (2, .int (nI h))] (by decide) (Nat.le_of_ble_eq_true rfl) rfl ?_
  intro p e s m args below meth c A C hK hZ hA
  have hR := hI.R
  have hDn := hI.D
  refine hd_iload_n 1 C dX3_setBehind_0 rfl 1 rfl rfl ?_
  refine hd_istore_n 2 C dX3_setBehind_1 rfl [(3, .int (nI set)), (0, .ref (a 0)), (1, .int (nI set)), (2, .int (nI h))] rfl (by decide) rfl ?_
  refine hd_iconst 3 C dX3_setBehind_2 rfl (nI 0) (by decide) ?_
  refine hd_istore 5 C dX3_setBehind_3 rfl [(4, .int (nI 0)), (3, .int (nI set)), (0, .ref (a 0)), (1, .int (nI set)), (2, .int (nI h))] (by decide) rfl ?_
  have L : ∀ (fuel : Nat) (d : Nat) (hd : d ≤ N 0 1), N 0 1 - d < fuel → XW p l e (rmk 2 46) s m args below meth c 6 0 0 A D (MQ below (va_Qi (fun (r : Int32) (u : sT) => u = (N, Z, E, G, T) ∧ r = nI (ah N (Z 0 2) h set)) (cB D (ty4 cI cJ cD cS) (wM cI a) A) A) args s 0 0 A) (wM cI a) (N, Z, E, G, T) 5 [(0, .ref (a 0)), (1, .int (nI set)), (2, .int (nI h)), (3, .int (nI (aho N (Z 0 2) h set d))), (4, .int (nI d))] [] := by
    intro fuel
    induction fuel with
    | zero => intro d hd hfu; exact absurd hfu (Nat.not_lt_zero _)
    | succ fuel ih_L =>
      intro d hd hfu_L
      refine hd_iload 7 C dX3_setBehind_5 rfl 4 rfl ?_
      refine hd_aload_n 8 C dX3_setBehind_7 rfl 0 rfl rfl ?_
      refine gm_doors 11 C hK dX3_setBehind_8 rfl (nI (N 0 1)) rfl ?_
      refine hd_icmp_geN 14 71 C dX3_setBehind_11 rfl (by decide) (by omega) (by omega) (fun h11 => ?_) (fun h11 => ?_)
      · skip
        refine hd_iload_n 72 C dX3_setBehind_71 rfl 3 rfl rfl ?_
        exact hd_iret C hK dX3_setBehind_72 ⟨rfl, congrArg nI (ah_end (by omega))⟩
      · skip
        have hat := hI.at h11
        have hdr := hI.door d
        refine hd_iload_n 15 C dX3_setBehind_14 rfl 1 rfl rfl ?_
        refine hd_aload_n 16 C dX3_setBehind_15 rfl 0 rfl rfl ?_
        refine gm_roomOf 19 C hK dX3_setBehind_16 rfl ?_
        refine hd_iload 21 C dX3_setBehind_19 rfl 4 rfl ?_
        refine alm_roomOf 22 C hK dX3_setBehind_21 rfl (by omega) (nI (N 2 d)) rfl ?_
        refine hd_callSI (rest := []) 25 C hK hZ hA ⟨Nat.zero_le _, Nat.zero_le _⟩ dX3_setBehind_22 rfl kc_X3_172 (m_isIn set (N 2 d) (by omega) (by omega)) ⟨rfl, rfl⟩ ⟨by decide, by decide⟩ rfl rfl (by decide) (fun r22 u22 h22 => ?_)
        obtain ⟨rfl, rfl⟩ := h22
        refine hd_if_eqB 28 45 C dX3_setBehind_25 rfl (by decide) (fun h25 => ?_) (fun h25 => ?_)
        · skip
          refine hd_bipush 47 C dX3_setBehind_45 rfl (-9) (by decide) ?_
          refine hd_istore 49 C dX3_setBehind_47 rfl [(5, .int (-9)), (0, .ref (a 0)), (1, .int (nI set)), (2, .int (nI h)), (3, .int (nI (aho N (Z 0 2) h set d))), (4, .int (nI d))] (by decide) rfl ?_
          refine hd_iload_n 50 C dX3_setBehind_49 rfl 4 rfl rfl ?_
          refine hd_iload 52 C dX3_setBehind_50 rfl 0 rfl ?_
          refine hd_if_lt 55 62 C dX3_setBehind_52 rfl (by decide) (fun _ => ?_) (fun q => absurd (by decide) q)
          refine hd_iconst 63 C dX3_setBehind_62 rfl (nI 0) (by decide) ?_
          refine hd_ior 64 C dX3_setBehind_63 rfl (nI ((aho N (Z 0 2) h set d) ||| 0)) (fa_or _ _) ?_
          refine hd_istore_n 65 C dX3_setBehind_64 rfl [(3, .int (nI ((aho N (Z 0 2) h set d) ||| 0))), (5, .int (-9)), (0, .ref (a 0)), (1, .int (nI set)), (2, .int (nI h)), (4, .int (nI d))] rfl (by decide) rfl ?_
          refine hd_iinc 68 C dX3_setBehind_65 rfl 5 (nI (d + 1)) [(4, .int (nI (d + 1))), (3, .int (nI ((aho N (Z 0 2) h set d) ||| 0))), (5, .int (-9)), (0, .ref (a 0)), (1, .int (nI set)), (2, .int (nI h))] rfl (nI_add _ _) (by decide) rfl ?_
          refine hd_goto 5 C dX3_setBehind_68 (by decide) ?_
          rw [show (aho N (Z 0 2) h set d) ||| 0 = aho N (Z 0 2) h set (d + 1) from (by simp [aho_bh (show d < N 0 1 by omega), hd, h11, h25])]
          refine hd_sub [(0, .ref (a 0)), (1, .int (nI set)), (2, .int (nI h)), (3, .int (nI (aho N (Z 0 2) h set (d + 1)))), (4, .int (nI (d + 1)))] [3, 4, 5, 1, 0] rfl ?_
          exact ih_L (d + 1) (by omega) (by omega)
        · skip
          refine hd_aload_n 29 C dX3_setBehind_28 rfl 0 rfl rfl ?_
          refine hd_aload_n 30 C dX3_setBehind_29 rfl 0 rfl rfl ?_
          refine gm_roomOf 33 C hK dX3_setBehind_30 rfl ?_
          refine hd_iload 35 C dX3_setBehind_33 rfl 4 rfl ?_
          refine alm_roomOf 36 C hK dX3_setBehind_35 rfl (by omega) (nI (N 2 d)) rfl ?_
          refine hd_iload_n 37 C dX3_setBehind_36 rfl 2 rfl rfl ?_
          refine hd_iload 39 C dX3_setBehind_37 rfl 4 rfl ?_
          refine hd_callVI (rest := []) 42 C hK hZ hA ⟨Nat.zero_le _, Nat.zero_le _⟩ dX3_setBehind_39 rfl kc_X3_160 (m_behind (N 2 d) h d hI (by omega) (by omega) (by omega)) ⟨rfl, rfl⟩ ⟨by decide, by decide⟩ 0 3 rfl rfl rfl rfl rfl (by decide) (fun r39 u39 h39 => ?_)
          obtain ⟨rfl, rfl⟩ := h39
          rcases ho39 : bh N (Z 0 2) (N 2 d) h d with _ | rv39
          · skip
            refine hd_goto 47 C dX3_setBehind_42 (by decide) ?_
            refine hd_istore 49 C dX3_setBehind_47 rfl [(5, .int (-9)), (0, .ref (a 0)), (1, .int (nI set)), (2, .int (nI h)), (3, .int (nI (aho N (Z 0 2) h set d))), (4, .int (nI d))] (by decide) rfl ?_
            refine hd_iload_n 50 C dX3_setBehind_49 rfl 4 rfl rfl ?_
            refine hd_iload 52 C dX3_setBehind_50 rfl 0 rfl ?_
            refine hd_if_lt 55 62 C dX3_setBehind_52 rfl (by decide) (fun _ => ?_) (fun q => absurd (by decide) q)
            refine hd_iconst 63 C dX3_setBehind_62 rfl (nI 0) (by decide) ?_
            refine hd_ior 64 C dX3_setBehind_63 rfl (nI ((aho N (Z 0 2) h set d) ||| 0)) (fa_or _ _) ?_
            refine hd_istore_n 65 C dX3_setBehind_64 rfl [(3, .int (nI ((aho N (Z 0 2) h set d) ||| 0))), (5, .int (-9)), (0, .ref (a 0)), (1, .int (nI set)), (2, .int (nI h)), (4, .int (nI d))] rfl (by decide) rfl ?_
            refine hd_iinc 68 C dX3_setBehind_65 rfl 5 (nI (d + 1)) [(4, .int (nI (d + 1))), (3, .int (nI ((aho N (Z 0 2) h set d) ||| 0))), (5, .int (-9)), (0, .ref (a 0)), (1, .int (nI set)), (2, .int (nI h))] rfl (nI_add _ _) (by decide) rfl ?_
            refine hd_goto 5 C dX3_setBehind_68 (by decide) ?_
            rw [show (aho N (Z 0 2) h set d) ||| 0 = aho N (Z 0 2) h set (d + 1) from (by simp [aho_bh (show d < N 0 1 by omega), hd, h11, h25, ho39])]
            refine hd_sub [(0, .ref (a 0)), (1, .int (nI set)), (2, .int (nI h)), (3, .int (nI (aho N (Z 0 2) h set (d + 1)))), (4, .int (nI (d + 1)))] [3, 4, 5, 1, 0] rfl ?_
            exact ih_L (d + 1) (by omega) (by omega)
          · skip
            have hbrv39 := bh_lt hI (by omega) (by omega) _ ho39
            refine hd_goto 47 C dX3_setBehind_42 (by decide) ?_
            refine hd_istore 49 C dX3_setBehind_47 rfl [(5, .int (nI rv39)), (0, .ref (a 0)), (1, .int (nI set)), (2, .int (nI h)), (3, .int (nI (aho N (Z 0 2) h set d))), (4, .int (nI d))] (by decide) rfl ?_
            refine hd_iload_n 50 C dX3_setBehind_49 rfl 4 rfl rfl ?_
            refine hd_iload 52 C dX3_setBehind_50 rfl 0 rfl ?_
            refine hd_if_ltP 55 62 C dX3_setBehind_52 rfl (by decide) (by omega) ?_
            refine hd_iconst 56 C dX3_setBehind_55 rfl (nI 1) (by decide) ?_
            refine hd_iload 58 C dX3_setBehind_56 rfl 0 rfl ?_
            refine hd_ishl 59 C dX3_setBehind_58 rfl (nI (2 ^ rv39)) (nI_shl1 (by omega)) ?_
            refine hd_goto 63 C dX3_setBehind_59 (by decide) ?_
            refine hd_ior 64 C dX3_setBehind_63 rfl (nI ((aho N (Z 0 2) h set d) ||| (2 ^ rv39))) (fa_or _ _) ?_
            refine hd_istore_n 65 C dX3_setBehind_64 rfl [(3, .int (nI ((aho N (Z 0 2) h set d) ||| (2 ^ rv39)))), (5, .int (nI rv39)), (0, .ref (a 0)), (1, .int (nI set)), (2, .int (nI h)), (4, .int (nI d))] rfl (by decide) rfl ?_
            refine hd_iinc 68 C dX3_setBehind_65 rfl 5 (nI (d + 1)) [(4, .int (nI (d + 1))), (3, .int (nI ((aho N (Z 0 2) h set d) ||| (2 ^ rv39)))), (5, .int (nI rv39)), (0, .ref (a 0)), (1, .int (nI set)), (2, .int (nI h))] rfl (nI_add _ _) (by decide) rfl ?_
            refine hd_goto 5 C dX3_setBehind_68 (by decide) ?_
            rw [show (aho N (Z 0 2) h set d) ||| (2 ^ rv39) = aho N (Z 0 2) h set (d + 1) from (by simp [aho_bh (show d < N 0 1 by omega), hd, h11, h25, ho39])]
            refine hd_sub [(0, .ref (a 0)), (1, .int (nI set)), (2, .int (nI h)), (3, .int (nI (aho N (Z 0 2) h set (d + 1)))), (4, .int (nI (d + 1)))] [3, 4, 5, 1, 0] rfl ?_
            exact ih_L (d + 1) (by omega) (by omega)
  refine hd_sub [(0, .ref (a 0)), (1, .int (nI set)), (2, .int (nI h)), (3, .int (nI set)), (4, .int (nI 0))] [2, 3, 4, 1, 0] rfl ?_
  exact L (N 0 1 + 1) 0 (Nat.zero_le _) (by omega)

set_option maxHeartbeats 4000000 in
set_option maxRecDepth 100000 in
theorem m_soonestOf {l : Launch} {D : va_G} {cI cJ cD cS : ClassId} {a : Nat → Nat} {N : Nat → Nat → Nat} {Z : Nat → Nat → Int32} {E : Nat → Nat → Int32} {G : Nat → Nat → Int64} {T : Nat → Nat} (fr to h most : Nat) (hI : inv N) (hf : fr < 6) (hto : to < 6) (hh : h < 12) (hm : most ≤ 24)  : ctI l D (ty4 cI cJ cD cS) none (wM cI a) yX3_soonestOf cX3_soonestOf 7 (some .int) (rmk 3 71) [.ref (a 0), .int (nI fr), .int (nI to), .int (nI h), .int (nI most)] (N, Z, E, G, T) (fun (r : Int32) (u : sT) => u = (N, Z, E, G, T) ∧ r = oI (sn N (Z 0 2) fr to h most)) := by
  refine ctI_of [(0, .ref (a 0)), (1, .int (nI fr)), (2, .int (nI to)), (3, .int (nI h)), (4, .int (nI most))] (by decide) (Nat.le_of_ble_eq_true rfl) rfl ?_
  intro p e s m args below meth c A C hK hZ hA
  refine hd_iconst 1 C dX3_soonestOf_0 rfl (nI 1) (by decide) ?_
  refine hd_iload_n 2 C dX3_soonestOf_1 rfl 1 rfl rfl ?_
  refine hd_ishl 3 C dX3_soonestOf_2 rfl (nI (2 ^ fr)) (nI_shl1 (by omega)) ?_
  refine hd_istore 5 C dX3_soonestOf_3 rfl [(5, .int (nI (2 ^ fr))), (0, .ref (a 0)), (1, .int (nI fr)), (2, .int (nI to)), (3, .int (nI h)), (4, .int (nI most))] (by decide) rfl ?_
  refine hd_iconst 6 C dX3_soonestOf_5 rfl (nI 0) (by decide) ?_
  refine hd_istore 8 C dX3_soonestOf_6 rfl [(6, .int (nI 0)), (5, .int (nI (2 ^ fr))), (0, .ref (a 0)), (1, .int (nI fr)), (2, .int (nI to)), (3, .int (nI h)), (4, .int (nI most))] (by decide) rfl ?_
  have L : ∀ (fuel : Nat) (t set : Nat) (hs : set < 64) (ht : t ≤ most + 1) (hF : sn N (Z 0 2) fr to h most = fw N (Z 0 2) to h (most + 1 - t) t set), most + 1 - t < fuel → XW p l e (rmk 3 71) s m args below meth c 7 0 0 A D (MQ below (va_Qi (fun (r : Int32) (u : sT) => u = (N, Z, E, G, T) ∧ r = oI (sn N (Z 0 2) fr to h most)) (cB D (ty4 cI cJ cD cS) (wM cI a) A) A) args s 0 0 A) (wM cI a) (N, Z, E, G, T) 8 [(6, .int (nI t)), (5, .int (nI set)), (0, .ref (a 0)), (1, .int (nI fr)), (2, .int (nI to)), (3, .int (nI h)), (4, .int (nI most))] [] := by
    intro fuel
    induction fuel with
    | zero => intro t set hs ht hF hfu; exact absurd hfu (Nat.not_lt_zero _)
    | succ fuel ih_L =>
      intro t set hs ht hF hfu_L
      refine hd_iload 10 C dX3_soonestOf_8 rfl 0 rfl ?_
      refine hd_iload 12 C dX3_soonestOf_10 rfl 6 rfl ?_
      refine hd_icmp_gtN 15 48 C dX3_soonestOf_12 rfl (by decide) (by omega) (by omega) (fun h12 => ?_) (fun h12 => ?_)
      · skip
        refine hd_bipush 50 C dX3_soonestOf_48 rfl (-9) (by decide) ?_
        exact hd_iret C hK dX3_soonestOf_50 ⟨rfl, by rw [hF, show most + 1 - t = 0 by omega]; rfl⟩
      · skip
        refine hd_iload 17 C dX3_soonestOf_15 rfl 1 rfl ?_
        refine hd_iload_n 18 C dX3_soonestOf_17 rfl 4 rfl rfl ?_
        refine hd_callSI (rest := []) 21 C hK hZ hA ⟨Nat.zero_le _, Nat.zero_le _⟩ dX3_soonestOf_18 rfl kc_X3_172 (m_isIn set to (by omega) (by omega)) ⟨rfl, rfl⟩ ⟨by decide, by decide⟩ rfl rfl (by decide) (fun r18 u18 h18 => ?_)
        obtain ⟨rfl, rfl⟩ := h18
        refine hd_if_eqB 24 27 C dX3_soonestOf_21 rfl (by decide) (fun h21 => ?_) (fun h21 => ?_)
        · skip
          refine hd_aload_n 28 C dX3_soonestOf_27 rfl 2 rfl rfl ?_
          refine hd_iload 30 C dX3_soonestOf_28 rfl 1 rfl ?_
          refine hd_iload_n 31 C dX3_soonestOf_30 rfl 5 rfl rfl ?_
          refine hd_iload 33 C dX3_soonestOf_31 rfl 0 rfl ?_
          refine hd_iadd 34 C dX3_soonestOf_33 rfl (nI (h + t)) (nI_add _ _) ?_
          refine hd_bipush 36 C dX3_soonestOf_34 rfl (nI 12) (by decide) ?_
          refine hd_irem 37 C dX3_soonestOf_36 rfl (nI ((h + t) % 12)) (nI_ne0 (by omega) (by omega)) (pk_rem (by omega) (by omega) (by omega)) ?_
          refine hd_callVI (rest := []) 40 C hK hZ hA ⟨Nat.zero_le _, Nat.zero_le _⟩ dX3_soonestOf_37 rfl kc_X3_175 (m_setBehind set ((h + t) % 12) hI (by omega) (by omega)) ⟨rfl, rfl⟩ ⟨by decide, by decide⟩ 0 3 rfl rfl rfl rfl rfl (by decide) (fun r37 u37 h37 => ?_)
          obtain ⟨rfl, rfl⟩ := h37
          refine hd_istore 42 C dX3_soonestOf_40 rfl [(5, .int (nI (ah N (Z 0 2) ((h + t) % 12) set))), (6, .int (nI t)), (0, .ref (a 0)), (1, .int (nI fr)), (2, .int (nI to)), (3, .int (nI h)), (4, .int (nI most))] (by decide) rfl ?_
          refine hd_iinc 45 C dX3_soonestOf_42 rfl 1 (nI (t + 1)) [(6, .int (nI (t + 1))), (5, .int (nI (ah N (Z 0 2) ((h + t) % 12) set))), (0, .ref (a 0)), (1, .int (nI fr)), (2, .int (nI to)), (3, .int (nI h)), (4, .int (nI most))] rfl (nI_add _ _) (by decide) rfl ?_
          refine hd_goto 8 C dX3_soonestOf_45 (by decide) ?_
          refine hd_sub [(6, .int (nI (t + 1))), (5, .int (nI (ah N (Z 0 2) ((h + t) % 12) set))), (0, .ref (a 0)), (1, .int (nI fr)), (2, .int (nI to)), (3, .int (nI h)), (4, .int (nI most))] [0, 1, 2, 3, 4, 5, 6] rfl ?_
          exact ih_L (t + 1) _ (ah_lt hI hs) (by omega) (by rw [hF, show most + 1 - t = (most - t) + 1 by omega, show most + 1 - (t + 1) = most - t by omega, fw_succ, if_neg (by simp [h21])]) (by omega)
        · skip
          refine hd_iload 26 C dX3_soonestOf_24 rfl 0 rfl ?_
          exact hd_iret C hK dX3_soonestOf_26 ⟨rfl, by rw [hF, show most + 1 - t = (most - t) + 1 by omega, fw_succ, if_pos h21]; rfl⟩
  refine hd_sub [(6, .int (nI 0)), (5, .int (nI (2 ^ fr))), (0, .ref (a 0)), (1, .int (nI fr)), (2, .int (nI to)), (3, .int (nI h)), (4, .int (nI most))] [0, 1, 2, 3, 4, 5, 6] rfl ?_
  exact L (most + 1 + 1) 0 _ (pow_lt6 (by omega)) (Nat.zero_le _) rfl (by omega)

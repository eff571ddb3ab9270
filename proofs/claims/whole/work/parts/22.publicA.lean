set_option maxHeartbeats 4000000 in
set_option maxRecDepth 100000 in
theorem x_ofDoor {l : Launch} {D : va_G} {cI cJ cD cS : ClassId} {a : Nat → Nat} {N : Nat → Nat → Nat} {Z : Nat → Nat → Int32} {E : Nat → Nat → Int32} {G : Nat → Nat → Int64} {T : Nat → Nat} {t : Option Nat} (d w : Int32) (hI : inv N)  : ctI l D (ty4 cI cJ cD cS) t (wX cI cJ cD cS a) yX2_ofDoor cX2_ofDoor 3 (some .int) (rmk 1 21) [.ref (a 0), .int d, .int w] (N, Z, E, G, T) (fun (r : Int32) (u : sT) => u = (N, Z, E, G, T) ∧ r = spOfDoor N d w) := by
  refine ctI_of [(0, .ref (a 0)), (1, .int d), (2, .int w)] (by decide) (Nat.le_of_ble_eq_true rfl) rfl ?_
  intro p e s m args below meth c A C hK hZ hA
  have hR := hI.R
  have hDn := hI.D
  have hQn := hI.Q
  refine hd_aload_n 1 C dX2_ofDoor_0 rfl 0 rfl rfl ?_
  refine hd_iload_n 2 C dX2_ofDoor_1 rfl 1 rfl rfl ?_
  refine hd_callVI (rest := []) 5 C hK hZ hA ⟨Nat.zero_le _, Nat.zero_le _⟩ dX2_ofDoor_2 rfl kc_X2_79 (x_isDoor d hI) ⟨rfl, rfl⟩ ⟨by decide, by decide⟩ 0 2 rfl rfl rfl rfl rfl (Nat.le_of_ble_eq_true rfl) (fun r2 u2 h2 => ?_)
  obtain ⟨rfl, rfl⟩ := h2
  refine hd_if_neB 8 10 C dX2_ofDoor_5 rfl (by decide) (fun h5 => ?_) (fun h5 => ?_)
  · skip
    obtain ⟨j, hj_j, rfl⟩ := inB_t h5 (by omega)
    have hc_j : (nI j).toNatClampNeg = j := nI_clamp (by omega)
    refine hd_iload_n 11 C dX2_ofDoor_10 rfl 2 rfl rfl ?_
    rcases sw4 w with rfl | rfl | rfl | rfl | hw
    · skip
      refine hd_tableIn 40 C dX2_ofDoor_11 (by decide) (by decide) rfl (by decide) ?_
      refine hd_aload_n 41 C dX2_ofDoor_40 rfl 0 rfl rfl ?_
      refine gx_doors 44 C hK dX2_ofDoor_41 rfl ?_
      refine hd_iload_n 45 C dX2_ofDoor_44 rfl 1 rfl rfl ?_
      refine alx_doors 46 C hK dX2_ofDoor_45 rfl (by omega) ?_
      refine gd2_kind (by omega) 49 C hK dX2_ofDoor_46 rfl (nI (N 1 j)) rfl ?_
      exact hd_iret C hK dX2_ofDoor_49 ⟨rfl, by simp [spOfDoor, h5, hc_j]⟩
    · skip
      refine hd_tableIn 50 C dX2_ofDoor_11 (by decide) (by decide) rfl (by decide) ?_
      refine hd_aload_n 51 C dX2_ofDoor_50 rfl 0 rfl rfl ?_
      refine gx_doors 54 C hK dX2_ofDoor_51 rfl ?_
      refine hd_iload_n 55 C dX2_ofDoor_54 rfl 1 rfl rfl ?_
      refine alx_doors 56 C hK dX2_ofDoor_55 rfl (by omega) ?_
      refine gd2_room (by omega) 59 C hK dX2_ofDoor_56 rfl (nI (N 2 j)) rfl ?_
      exact hd_iret C hK dX2_ofDoor_59 ⟨rfl, by simp [spOfDoor, h5, hc_j]⟩
    · skip
      refine hd_tableIn 60 C dX2_ofDoor_11 (by decide) (by decide) rfl (by decide) ?_
      refine hd_aload_n 61 C dX2_ofDoor_60 rfl 0 rfl rfl ?_
      refine gx_doors 64 C hK dX2_ofDoor_61 rfl ?_
      refine hd_iload_n 65 C dX2_ofDoor_64 rfl 1 rfl rfl ?_
      refine alx_doors 66 C hK dX2_ofDoor_65 rfl (by omega) ?_
      refine gd2_to (by omega) 69 C hK dX2_ofDoor_66 rfl (nI (N 3 j)) rfl ?_
      exact hd_iret C hK dX2_ofDoor_69 ⟨rfl, by simp [spOfDoor, h5, hc_j]⟩
    · skip
      refine hd_tableIn 70 C dX2_ofDoor_11 (by decide) (by decide) rfl (by decide) ?_
      refine hd_aload_n 71 C dX2_ofDoor_70 rfl 0 rfl rfl ?_
      refine gx_doors 74 C hK dX2_ofDoor_71 rfl ?_
      refine hd_iload_n 75 C dX2_ofDoor_74 rfl 1 rfl rfl ?_
      refine alx_doors 76 C hK dX2_ofDoor_75 rfl (by omega) ?_
      refine gd2_step (by omega) 79 C hK dX2_ofDoor_76 rfl (nI (N 4 j)) rfl ?_
      exact hd_iret C hK dX2_ofDoor_79 ⟨rfl, by simp [spOfDoor, h5, hc_j]⟩
    · skip
      have hw0 : ¬ w = 0 := sw_out hw 0 (by decide)
      have hw1 : ¬ w = 1 := sw_out hw 1 (by decide)
      have hw2 : ¬ w = 2 := sw_out hw 2 (by decide)
      have hw3 : ¬ w = 3 := sw_out hw 3 (by decide)
      refine hd_tableOut 80 C dX2_ofDoor_11 hw (by decide) ?_
      refine hd_bipush 82 C dX2_ofDoor_80 rfl (-2) (by decide) ?_
      exact hd_iret C hK dX2_ofDoor_82 ⟨rfl, by simp [spOfDoor, h5, hc_j, hw0, hw1, hw2, hw3]⟩
  · skip
    refine hd_iconst 9 C dX2_ofDoor_8 rfl (-1) (by decide) ?_
    exact hd_iret C hK dX2_ofDoor_9 ⟨rfl, by simp [spOfDoor, h5]⟩

set_option maxHeartbeats 4000000 in
set_option maxRecDepth 100000 in
theorem x_many {l : Launch} {D : va_G} {cI cJ cD cS : ClassId} {a : Nat → Nat} {N : Nat → Nat → Nat} {Z : Nat → Nat → Int32} {E : Nat → Nat → Int32} {G : Nat → Nat → Int64} {T : Nat → Nat} {t : Option Nat} (w : Int32)  : ctI l D (ty4 cI cJ cD cS) t (wX cI cJ cD cS a) yX2_many cX2_many 2 (some .int) (rmk 0 0) [.ref (a 0), .int w] (N, Z, E, G, T) (fun (r : Int32) (u : sT) => u = (N, Z, E, G, T) ∧ r = spMany N w) := by
  refine ctI_of [(0, .ref (a 0)), (1, .int w)] (by decide) (Nat.le_of_ble_eq_true rfl) rfl ?_
  intro p e s m args below meth c A C hK hZ hA
  refine hd_iload_n 1 C dX2_many_0 rfl 1 rfl rfl ?_
  rcases sw3 w with rfl | rfl | rfl | hw
  · skip
    refine hd_tableIn 28 C dX2_many_1 (by decide) (by decide) rfl (by decide) ?_
    refine hd_aload_n 29 C dX2_many_28 rfl 0 rfl rfl ?_
    refine gx_doorCount 32 C hK dX2_many_29 rfl (nI (N 0 1)) rfl ?_
    exact hd_iret C hK dX2_many_32 ⟨rfl, by simp [spMany]⟩
  · skip
    refine hd_tableIn 33 C dX2_many_1 (by decide) (by decide) rfl (by decide) ?_
    refine hd_aload_n 34 C dX2_many_33 rfl 0 rfl rfl ?_
    refine gx_rooms 37 C hK dX2_many_34 rfl (nI (N 0 0)) rfl ?_
    exact hd_iret C hK dX2_many_37 ⟨rfl, by simp [spMany]⟩
  · skip
    refine hd_tableIn 38 C dX2_many_1 (by decide) (by decide) rfl (by decide) ?_
    refine hd_aload_n 39 C dX2_many_38 rfl 0 rfl rfl ?_
    refine gx_readingCount 42 C hK dX2_many_39 rfl (nI (N 0 2)) rfl ?_
    exact hd_iret C hK dX2_many_42 ⟨rfl, by simp [spMany]⟩
  · skip
    have hw0 : ¬ w = 0 := sw_out hw 0 (by decide)
    have hw1 : ¬ w = 1 := sw_out hw 1 (by decide)
    have hw2 : ¬ w = 2 := sw_out hw 2 (by decide)
    refine hd_tableOut 43 C dX2_many_1 hw (by decide) ?_
    refine hd_bipush 45 C dX2_many_43 rfl (-2) (by decide) ?_
    exact hd_iret C hK dX2_many_45 ⟨rfl, by simp [spMany, hw0, hw1, hw2]⟩

set_option maxHeartbeats 4000000 in
set_option maxRecDepth 100000 in
theorem x_trace {l : Launch} {D : va_G} {cI cJ cD cS : ClassId} {a : Nat → Nat} {N : Nat → Nat → Nat} {Z : Nat → Nat → Int32} {E : Nat → Nat → Int32} {G : Nat → Nat → Int64} {T : Nat → Nat} {t : Option Nat}   : ctI l D (ty4 cI cJ cD cS) t (wX cI cJ cD cS a) yX2_trace cX2_trace 1 (some .int) (rmk 0 0) [.ref (a 0)] (N, Z, E, G, T) (fun (r : Int32) (u : sT) => u = (N, Z, E, G, T) ∧ r = Z 0 0) := by
  refine ctI_of [(0, .ref (a 0))] (by decide) (Nat.le_of_ble_eq_true rfl) rfl ?_
  intro p e s m args below meth c A C hK hZ hA
  refine hd_aload_n 1 C dX2_trace_0 rfl 0 rfl rfl ?_
  refine gx_left 4 C hK dX2_trace_1 rfl (Z 0 0) rfl ?_
  exact hd_iret C hK dX2_trace_4 ⟨rfl, rfl⟩

set_option maxHeartbeats 4000000 in
set_option maxRecDepth 100000 in
theorem x_fault {l : Launch} {D : va_G} {cI cJ cD cS : ClassId} {a : Nat → Nat} {N : Nat → Nat → Nat} {Z : Nat → Nat → Int32} {E : Nat → Nat → Int32} {G : Nat → Nat → Int64} {T : Nat → Nat} {t : Option Nat}   : ctI l D (ty4 cI cJ cD cS) t (wX cI cJ cD cS a) yX2_fault cX2_fault 1 (some .int) (rmk 0 0) [.ref (a 0)] (N, Z, E, G, T) (fun (r : Int32) (u : sT) => u = (N, Z, E, G, T) ∧ r = Z 0 1) := by
  refine ctI_of [(0, .ref (a 0))] (by decide) (Nat.le_of_ble_eq_true rfl) rfl ?_
  intro p e s m args below meth c A C hK hZ hA
  refine hd_aload_n 1 C dX2_fault_0 rfl 0 rfl rfl ?_
  refine gx_latestFault 4 C hK dX2_fault_1 rfl (Z 0 1) rfl ?_
  exact hd_iret C hK dX2_fault_4 ⟨rfl, rfl⟩

set_option maxHeartbeats 4000000 in
set_option maxRecDepth 100000 in
theorem x_leads {l : Launch} {D : va_G} {cI cJ cD cS : ClassId} {a : Nat → Nat} {N : Nat → Nat → Nat} {Z : Nat → Nat → Int32} {E : Nat → Nat → Int32} {G : Nat → Nat → Int64} {T : Nat → Nat} {t : Option Nat} (d h : Int32) (hI : inv N)  : ctI l D (ty4 cI cJ cD cS) t (wX cI cJ cD cS a) yX2_leads cX2_leads 3 (some .int) (rmk 1 23) [.ref (a 0), .int d, .int h] (N, Z, E, G, T) (fun (r : Int32) (u : sT) => u = (N, Z, E, G, T) ∧ r = spLeads N d h) := by
  refine ctI_of [(0, .ref (a 0)), (1, .int d), (2, .int h)] (by decide) (Nat.le_of_ble_eq_true rfl) rfl ?_
  intro p e s m args below meth c A C hK hZ hA
  have hR := hI.R
  have hDn := hI.D
  have hQn := hI.Q
  refine hd_aload_n 1 C dX2_leads_0 rfl 0 rfl rfl ?_
  refine hd_iload_n 2 C dX2_leads_1 rfl 1 rfl rfl ?_
  refine hd_callVI (rest := []) 5 C hK hZ hA ⟨Nat.zero_le _, Nat.zero_le _⟩ dX2_leads_2 rfl kc_X2_79 (x_isDoor d hI) ⟨rfl, rfl⟩ ⟨by decide, by decide⟩ 0 2 rfl rfl rfl rfl rfl (Nat.le_of_ble_eq_true rfl) (fun r2 u2 h2 => ?_)
  obtain ⟨rfl, rfl⟩ := h2
  refine hd_if_neB 8 10 C dX2_leads_5 rfl (by decide) (fun h5 => ?_) (fun h5 => ?_)
  · skip
    obtain ⟨j, hj_j, rfl⟩ := inB_t h5 (by omega)
    have hc_j : (nI j).toNatClampNeg = j := nI_clamp (by omega)
    refine hd_iload_n 11 C dX2_leads_10 rfl 2 rfl rfl ?_
    refine hd_callSI (rest := []) 14 C hK hZ hA ⟨Nat.zero_le _, Nat.zero_le _⟩ dX2_leads_11 rfl kc_X2_94 (x_isHour h) ⟨rfl, rfl⟩ ⟨by decide, by decide⟩ rfl rfl (Nat.le_of_ble_eq_true rfl) (fun r11 u11 h11 => ?_)
    obtain ⟨rfl, rfl⟩ := h11
    refine hd_if_neB 17 20 C dX2_leads_14 rfl (by decide) (fun h14 => ?_) (fun h14 => ?_)
    · skip
      obtain ⟨k, hj_k, rfl⟩ := inB_t h14 (by omega)
      have hc_k : (nI k).toNatClampNeg = k := nI_clamp (by omega)
      refine hd_aload_n 21 C dX2_leads_20 rfl 0 rfl rfl ?_
      refine gx_doors 24 C hK dX2_leads_21 rfl ?_
      refine hd_iload_n 25 C dX2_leads_24 rfl 1 rfl rfl ?_
      refine alx_doors 26 C hK dX2_leads_25 rfl (by omega) ?_
      refine hd_iload_n 27 C dX2_leads_26 rfl 2 rfl rfl ?_
      refine hd_aload_n 28 C dX2_leads_27 rfl 0 rfl rfl ?_
      refine gx_rooms 31 C hK dX2_leads_28 rfl (nI (N 0 0)) rfl ?_
      refine hd_callVI (rest := []) 34 C hK hZ hA ⟨Nat.zero_le _, Nat.zero_le _⟩ dX2_leads_31 rfl kc_X2_100 (x_leadsTo j k hI (by omega) (by omega) (hI.pos (d := j) (by omega))) ⟨rfl, rfl⟩ ⟨by decide, by decide⟩ (10 + j) 0 (wX_door _ (by omega)) rfl rfl rfl rfl (Nat.le_of_ble_eq_true rfl) (fun r31 u31 h31 => ?_)
      obtain ⟨rfl, rfl⟩ := h31
      exact hd_iret C hK dX2_leads_34 ⟨rfl, by simp [spLeads, h5, hc_j, h14, hc_k]⟩
    · skip
      refine hd_bipush 19 C dX2_leads_17 rfl (-2) (by decide) ?_
      exact hd_iret C hK dX2_leads_19 ⟨rfl, by simp [spLeads, h5, hc_j, h14]⟩
  · skip
    refine hd_iconst 9 C dX2_leads_8 rfl (-1) (by decide) ?_
    exact hd_iret C hK dX2_leads_9 ⟨rfl, by simp [spLeads, h5]⟩

set_option maxHeartbeats 4000000 in
set_option maxRecDepth 100000 in
theorem m_ofDoor {l : Launch} {D : va_G} {cI cJ cD cS : ClassId} {a : Nat → Nat} {N : Nat → Nat → Nat} {Z : Nat → Nat → Int32} {E : Nat → Nat → Int32} {G : Nat → Nat → Int64} {T : Nat → Nat} (d w : Int32) (hI : inv N)  : ctI l D (ty4 cI cJ cD cS) none (wM cI a) yX3_ofDoor cX3_ofDoor 3 (some .int) (rmk 2 46) [.ref (a 0), .int d, .int w] (N, Z, E, G, T) (fun (r : Int32) (u : sT) => u = (N, Z, E, G, T) ∧ r = spOfDoor N d w) := by
  refine ctI_of [(0, .ref (a 0)), (1, .int d), (2, .int w)] (by decide) (Nat.le_of_ble_eq_true rfl) rfl ?_
  intro p e s m args below meth c A C hK hZ hA
  have hR := hI.R
  have hDn := hI.D
  have hQn := hI.Q
  refine hd_aload_n 1 C dX3_ofDoor_0 rfl 0 rfl rfl ?_
  refine hd_iload_n 2 C dX3_ofDoor_1 rfl 1 rfl rfl ?_
  refine hd_callVI (rest := []) 5 C hK hZ hA ⟨Nat.zero_le _, Nat.zero_le _⟩ dX3_ofDoor_2 rfl kc_X3_134 (m_noDoor d hI) ⟨rfl, rfl⟩ ⟨by decide, by decide⟩ 0 3 rfl rfl rfl rfl rfl (Nat.le_of_ble_eq_true rfl) (fun r2 u2 h2 => ?_)
  obtain ⟨rfl, rfl⟩ := h2
  refine hd_if_eqB 8 10 C dX3_ofDoor_5 rfl (by decide) (fun h5 => ?_) (fun h5 => ?_)
  · skip
    simp only [Bool.not_eq_true', Bool.not_eq_false'] at h5
    obtain ⟨j, hj_j, rfl⟩ := inB_t h5 (by omega)
    have hc_j : (nI j).toNatClampNeg = j := nI_clamp (by omega)
    refine hd_iload_n 11 C dX3_ofDoor_10 rfl 2 rfl rfl ?_
    rcases sw4 w with rfl | rfl | rfl | rfl | hw
    · skip
      refine hd_tableIn 40 C dX3_ofDoor_11 (by decide) (by decide) rfl (by decide) ?_
      refine hd_aload_n 41 C dX3_ofDoor_40 rfl 0 rfl rfl ?_
      refine gm_kindOf 44 C hK dX3_ofDoor_41 rfl ?_
      refine hd_iload_n 45 C dX3_ofDoor_44 rfl 1 rfl rfl ?_
      refine alm_kindOf 46 C hK dX3_ofDoor_45 rfl (by omega) (nI (N 1 j)) rfl ?_
      exact hd_iret C hK dX3_ofDoor_46 ⟨rfl, by simp [spOfDoor, h5, hc_j]⟩
    · skip
      refine hd_tableIn 47 C dX3_ofDoor_11 (by decide) (by decide) rfl (by decide) ?_
      refine hd_aload_n 48 C dX3_ofDoor_47 rfl 0 rfl rfl ?_
      refine gm_roomOf 51 C hK dX3_ofDoor_48 rfl ?_
      refine hd_iload_n 52 C dX3_ofDoor_51 rfl 1 rfl rfl ?_
      refine alm_roomOf 53 C hK dX3_ofDoor_52 rfl (by omega) (nI (N 2 j)) rfl ?_
      exact hd_iret C hK dX3_ofDoor_53 ⟨rfl, by simp [spOfDoor, h5, hc_j]⟩
    · skip
      refine hd_tableIn 54 C dX3_ofDoor_11 (by decide) (by decide) rfl (by decide) ?_
      refine hd_aload_n 55 C dX3_ofDoor_54 rfl 0 rfl rfl ?_
      refine gm_toOf 58 C hK dX3_ofDoor_55 rfl ?_
      refine hd_iload_n 59 C dX3_ofDoor_58 rfl 1 rfl rfl ?_
      refine alm_toOf 60 C hK dX3_ofDoor_59 rfl (by omega) (nI (N 3 j)) rfl ?_
      exact hd_iret C hK dX3_ofDoor_60 ⟨rfl, by simp [spOfDoor, h5, hc_j]⟩
    · skip
      refine hd_tableIn 61 C dX3_ofDoor_11 (by decide) (by decide) rfl (by decide) ?_
      refine hd_aload_n 62 C dX3_ofDoor_61 rfl 0 rfl rfl ?_
      refine gm_stepOf 65 C hK dX3_ofDoor_62 rfl ?_
      refine hd_iload_n 66 C dX3_ofDoor_65 rfl 1 rfl rfl ?_
      refine alm_stepOf 67 C hK dX3_ofDoor_66 rfl (by omega) (nI (N 4 j)) rfl ?_
      exact hd_iret C hK dX3_ofDoor_67 ⟨rfl, by simp [spOfDoor, h5, hc_j]⟩
    · skip
      have hw0 : ¬ w = 0 := sw_out hw 0 (by decide)
      have hw1 : ¬ w = 1 := sw_out hw 1 (by decide)
      have hw2 : ¬ w = 2 := sw_out hw 2 (by decide)
      have hw3 : ¬ w = 3 := sw_out hw 3 (by decide)
      refine hd_tableOut 68 C dX3_ofDoor_11 hw (by decide) ?_
      refine hd_bipush 70 C dX3_ofDoor_68 rfl (-2) (by decide) ?_
      exact hd_iret C hK dX3_ofDoor_70 ⟨rfl, by simp [spOfDoor, h5, hc_j, hw0, hw1, hw2, hw3]⟩
  · skip
    simp only [Bool.not_eq_true', Bool.not_eq_false'] at h5
    refine hd_iconst 9 C dX3_ofDoor_8 rfl (-1) (by decide) ?_
    exact hd_iret C hK dX3_ofDoor_9 ⟨rfl, by simp [spOfDoor, h5]⟩

set_option maxHeartbeats 4000000 in
set_option maxRecDepth 100000 in
theorem m_many {l : Launch} {D : va_G} {cI cJ cD cS : ClassId} {a : Nat → Nat} {N : Nat → Nat → Nat} {Z : Nat → Nat → Int32} {E : Nat → Nat → Int32} {G : Nat → Nat → Int64} {T : Nat → Nat} (w : Int32)  : ctI l D (ty4 cI cJ cD cS) none (wM cI a) yX3_many cX3_many 2 (some .int) (rmk 0 0) [.ref (a 0), .int w] (N, Z, E, G, T) (fun (r : Int32) (u : sT) => u = (N, Z, E, G, T) ∧ r = spMany N w) := by
  refine ctI_of [(0, .ref (a 0)), (1, .int w)] (by decide) (Nat.le_of_ble_eq_true rfl) rfl ?_
  intro p e s m args below meth c A C hK hZ hA
  refine hd_iload_n 1 C dX3_many_0 rfl 1 rfl rfl ?_
  rcases sw3 w with rfl | rfl | rfl | hw
  · skip
    refine hd_tableIn 28 C dX3_many_1 (by decide) (by decide) rfl (by decide) ?_
    refine hd_aload_n 29 C dX3_many_28 rfl 0 rfl rfl ?_
    refine gm_doors 32 C hK dX3_many_29 rfl (nI (N 0 1)) rfl ?_
    exact hd_iret C hK dX3_many_32 ⟨rfl, by simp [spMany]⟩
  · skip
    refine hd_tableIn 33 C dX3_many_1 (by decide) (by decide) rfl (by decide) ?_
    refine hd_aload_n 34 C dX3_many_33 rfl 0 rfl rfl ?_
    refine gm_rooms 37 C hK dX3_many_34 rfl (nI (N 0 0)) rfl ?_
    exact hd_iret C hK dX3_many_37 ⟨rfl, by simp [spMany]⟩
  · skip
    refine hd_tableIn 38 C dX3_many_1 (by decide) (by decide) rfl (by decide) ?_
    refine hd_aload_n 39 C dX3_many_38 rfl 0 rfl rfl ?_
    refine gm_readings 42 C hK dX3_many_39 rfl (nI (N 0 2)) rfl ?_
    exact hd_iret C hK dX3_many_42 ⟨rfl, by simp [spMany]⟩
  · skip
    have hw0 : ¬ w = 0 := sw_out hw 0 (by decide)
    have hw1 : ¬ w = 1 := sw_out hw 1 (by decide)
    have hw2 : ¬ w = 2 := sw_out hw 2 (by decide)
    refine hd_tableOut 43 C dX3_many_1 hw (by decide) ?_
    refine hd_bipush 45 C dX3_many_43 rfl (-2) (by decide) ?_
    exact hd_iret C hK dX3_many_45 ⟨rfl, by simp [spMany, hw0, hw1, hw2]⟩

set_option maxHeartbeats 4000000 in
set_option maxRecDepth 100000 in
theorem m_trace {l : Launch} {D : va_G} {cI cJ cD cS : ClassId} {a : Nat → Nat} {N : Nat → Nat → Nat} {Z : Nat → Nat → Int32} {E : Nat → Nat → Int32} {G : Nat → Nat → Int64} {T : Nat → Nat}   : ctI l D (ty4 cI cJ cD cS) none (wM cI a) yX3_trace cX3_trace 1 (some .int) (rmk 0 0) [.ref (a 0)] (N, Z, E, G, T) (fun (r : Int32) (u : sT) => u = (N, Z, E, G, T) ∧ r = Z 0 0) := by
  refine ctI_of [(0, .ref (a 0))] (by decide) (Nat.le_of_ble_eq_true rfl) rfl ?_
  intro p e s m args below meth c A C hK hZ hA
  refine hd_aload_n 1 C dX3_trace_0 rfl 0 rfl rfl ?_
  refine gm_traceNow 4 C hK dX3_trace_1 rfl (Z 0 0) rfl ?_
  exact hd_iret C hK dX3_trace_4 ⟨rfl, rfl⟩

set_option maxHeartbeats 4000000 in
set_option maxRecDepth 100000 in
theorem m_fault {l : Launch} {D : va_G} {cI cJ cD cS : ClassId} {a : Nat → Nat} {N : Nat → Nat → Nat} {Z : Nat → Nat → Int32} {E : Nat → Nat → Int32} {G : Nat → Nat → Int64} {T : Nat → Nat}   : ctI l D (ty4 cI cJ cD cS) none (wM cI a) yX3_fault cX3_fault 1 (some .int) (rmk 0 0) [.ref (a 0)] (N, Z, E, G, T) (fun (r : Int32) (u : sT) => u = (N, Z, E, G, T) ∧ r = Z 0 1) := by
  refine ctI_of [(0, .ref (a 0))] (by decide) (Nat.le_of_ble_eq_true rfl) rfl ?_
  intro p e s m args below meth c A C hK hZ hA
  refine hd_aload_n 1 C dX3_fault_0 rfl 0 rfl rfl ?_
  refine gm_fault 4 C hK dX3_fault_1 rfl (Z 0 1) rfl ?_
  exact hd_iret C hK dX3_fault_4 ⟨rfl, rfl⟩

set_option maxHeartbeats 4000000 in
set_option maxRecDepth 100000 in
theorem m_leads {l : Launch} {D : va_G} {cI cJ cD cS : ClassId} {a : Nat → Nat} {N : Nat → Nat → Nat} {Z : Nat → Nat → Int32} {E : Nat → Nat → Int32} {G : Nat → Nat → Int64} {T : Nat → Nat} (d h : Int32) (hI : inv N)  : ctI l D (ty4 cI cJ cD cS) none (wM cI a) yX3_leads cX3_leads 3 (some .int) (rmk 2 46) [.ref (a 0), .int d, .int h] (N, Z, E, G, T) (fun (r : Int32) (u : sT) => u = (N, Z, E, G, T) ∧ r = spLeads N d h) := by
  refine ctI_of [(0, .ref (a 0)), (1, .int d), (2, .int h)] (by decide) (Nat.le_of_ble_eq_true rfl) rfl ?_
  intro p e s m args below meth c A C hK hZ hA
  have hR := hI.R
  have hDn := hI.D
  have hQn := hI.Q
  refine hd_aload_n 1 C dX3_leads_0 rfl 0 rfl rfl ?_
  refine hd_iload_n 2 C dX3_leads_1 rfl 1 rfl rfl ?_
  refine hd_callVI (rest := []) 5 C hK hZ hA ⟨Nat.zero_le _, Nat.zero_le _⟩ dX3_leads_2 rfl kc_X3_134 (m_noDoor d hI) ⟨rfl, rfl⟩ ⟨by decide, by decide⟩ 0 3 rfl rfl rfl rfl rfl (Nat.le_of_ble_eq_true rfl) (fun r2 u2 h2 => ?_)
  obtain ⟨rfl, rfl⟩ := h2
  refine hd_if_eqB 8 10 C dX3_leads_5 rfl (by decide) (fun h5 => ?_) (fun h5 => ?_)
  · skip
    simp only [Bool.not_eq_true', Bool.not_eq_false'] at h5
    obtain ⟨j, hj_j, rfl⟩ := inB_t h5 (by omega)
    have hc_j : (nI j).toNatClampNeg = j := nI_clamp (by omega)
    refine hd_iload_n 11 C dX3_leads_10 rfl 2 rfl rfl ?_
    refine hd_callSI (rest := []) 14 C hK hZ hA ⟨Nat.zero_le _, Nat.zero_le _⟩ dX3_leads_11 rfl kc_X3_137 (m_noHour h) ⟨rfl, rfl⟩ ⟨by decide, by decide⟩ rfl rfl (Nat.le_of_ble_eq_true rfl) (fun r11 u11 h11 => ?_)
    obtain ⟨rfl, rfl⟩ := h11
    refine hd_if_eqB 17 22 C dX3_leads_14 rfl (by decide) (fun h14 => ?_) (fun h14 => ?_)
    · skip
      simp only [Bool.not_eq_true', Bool.not_eq_false'] at h14
      obtain ⟨k, hj_k, rfl⟩ := inB_t h14 (by omega)
      have hc_k : (nI k).toNatClampNeg = k := nI_clamp (by omega)
      refine hd_aload_n 23 C dX3_leads_22 rfl 0 rfl rfl ?_
      refine hd_iload_n 24 C dX3_leads_23 rfl 1 rfl rfl ?_
      refine hd_iload_n 25 C dX3_leads_24 rfl 2 rfl rfl ?_
      refine hd_callVI (rest := []) 28 C hK hZ hA ⟨Nat.zero_le _, Nat.zero_le _⟩ dX3_leads_25 rfl kc_X3_140 (m_leadsAt j k hI (by omega) (by omega) (hI.pos (d := j) (by omega))) ⟨rfl, rfl⟩ ⟨by decide, by decide⟩ 0 3 rfl rfl rfl rfl rfl (Nat.le_of_ble_eq_true rfl) (fun r25 u25 h25 => ?_)
      obtain ⟨rfl, rfl⟩ := h25
      exact hd_iret C hK dX3_leads_28 ⟨rfl, by simp [spLeads, h5, hc_j, h14, hc_k]⟩
    · skip
      simp only [Bool.not_eq_true', Bool.not_eq_false'] at h14
      refine hd_bipush 19 C dX3_leads_17 rfl (-2) (by decide) ?_
      refine hd_goto 28 C dX3_leads_19 (by decide) ?_
      exact hd_iret C hK dX3_leads_28 ⟨rfl, by simp [spLeads, h5, hc_j, h14]⟩
  · skip
    simp only [Bool.not_eq_true', Bool.not_eq_false'] at h5
    refine hd_iconst 9 C dX3_leads_8 rfl (-1) (by decide) ?_
    exact hd_iret C hK dX3_leads_9 ⟨rfl, by simp [spLeads, h5]⟩

set_option maxHeartbeats 4000000 in
set_option maxRecDepth 100000 in
theorem x_step {l : Launch} {D : va_G} {cI cJ cD cS : ClassId} {a : Nat → Nat} {N : Nat → Nat → Nat} {Z : Nat → Nat → Int32} {E : Nat → Nat → Int32} {G : Nat → Nat → Int64} {T : Nat → Nat} {t : Option Nat} (d v : Int32) (hI : inv N)  : ctI l D (ty4 cI cJ cD cS) t (wX cI cJ cD cS a) yX2_step cX2_step 4 (some .int) (rmk 1 21) [.ref (a 0), .int d, .int v] (N, Z, E, G, T) (fun (r : Int32) (u : sT) => u = (nxStep N d v, Z, E, G, T) ∧ r = spStep N d v) := by
  refine ctI_of [(0, .ref (a 0)), (1, .int d), (2, .int v)] (by decide) (Nat.le_of_ble_eq_true rfl) rfl ?_
  intro p e s m args below meth c A C hK hZ hA
  have hR := hI.R
  have hDn := hI.D
  have hQn := hI.Q
  refine hd_aload_n 1 C dX2_step_0 rfl 0 rfl rfl ?_
  refine hd_iload_n 2 C dX2_step_1 rfl 1 rfl rfl ?_
  refine hd_callVI (rest := []) 5 C hK hZ hA ⟨Nat.zero_le _, Nat.zero_le _⟩ dX2_step_2 rfl kc_X2_79 (x_isDoor d hI) ⟨rfl, rfl⟩ ⟨by decide, by decide⟩ 0 2 rfl rfl rfl rfl rfl (Nat.le_of_ble_eq_true rfl) (fun r2 u2 h2 => ?_)
  obtain ⟨rfl, rfl⟩ := h2
  refine hd_if_neB 8 10 C dX2_step_5 rfl (by decide) (fun h5 => ?_) (fun h5 => ?_)
  · skip
    obtain ⟨j, hj_j, rfl⟩ := inB_t h5 (by omega)
    have hc_j : (nI j).toNatClampNeg = j := nI_clamp (by omega)
    refine hd_iload_n 11 C dX2_step_10 rfl 2 rfl rfl ?_
    refine hd_if_lt 14 19 C dX2_step_11 rfl (by decide) (fun h11 => ?_) (fun h11 => ?_)
    · skip
      have hb : inB v 6 = false := inB_neg h11
      refine hd_bipush 21 C dX2_step_19 rfl (-2) (by decide) ?_
      exact hd_iret C hK dX2_step_21 ⟨by simp [spStep, nxStep, h5, hc_j, h11, hb], by simp [spStep, nxStep, h5, hc_j, h11, hb]⟩
    · skip
      refine hd_iload_n 15 C dX2_step_14 rfl 2 rfl rfl ?_
      refine hd_iconst 16 C dX2_step_15 rfl (nI 5) (by decide) ?_
      refine hd_icmp_le 19 22 C dX2_step_16 rfl (by decide) (fun h16 => ?_) (fun h16 => ?_)
      · skip
        have hb := inB_le (n := 5) (by decide) h11 h16
        obtain ⟨k, hj_k, rfl⟩ := inB_t hb (by omega)
        have hc_k : (nI k).toNatClampNeg = k := nI_clamp (by omega)
        refine hd_aload_n 23 C dX2_step_22 rfl 0 rfl rfl ?_
        refine gx_doors 26 C hK dX2_step_23 rfl ?_
        refine hd_iload_n 27 C dX2_step_26 rfl 1 rfl rfl ?_
        refine alx_doors 28 C hK dX2_step_27 rfl (by omega) ?_
        refine gd2_step (by omega) 31 C hK dX2_step_28 rfl (nI (N 4 j)) rfl ?_
        refine hd_istore_n 32 C dX2_step_31 rfl [(3, .int (nI (N 4 j))), (0, .ref (a 0)), (1, .int (nI j)), (2, .int (nI k))] rfl (by decide) rfl ?_
        refine hd_aload_n 33 C dX2_step_32 rfl 1 rfl rfl ?_
        refine gx_doors 36 C hK dX2_step_33 rfl ?_
        refine hd_iload_n 37 C dX2_step_36 rfl 2 rfl rfl ?_
        refine alx_doors 38 C hK dX2_step_37 rfl (by omega) ?_
        refine hd_iload_n 39 C dX2_step_38 rfl 3 rfl rfl ?_
        refine pd2_step (by omega) 42 C hK dX2_step_39 rfl ?_
        refine hd_iload_n 43 C dX2_step_42 rfl 0 rfl rfl ?_
        exact hd_iret C hK dX2_step_43 ⟨by simp [spStep, nxStep, h5, hc_j, hb, hc_k], by simp [spStep, nxStep, h5, hc_j, hb, hc_k]⟩
      · skip
        have hb : inB v 6 = false := inB_gt (n := 5) (by decide) h16
        refine hd_bipush 21 C dX2_step_19 rfl (-2) (by decide) ?_
        exact hd_iret C hK dX2_step_21 ⟨by simp [spStep, nxStep, h5, hc_j, hb], by simp [spStep, nxStep, h5, hc_j, hb]⟩
  · skip
    refine hd_iconst 9 C dX2_step_8 rfl (-1) (by decide) ?_
    exact hd_iret C hK dX2_step_9 ⟨by simp [spStep, nxStep, h5], by simp [spStep, nxStep, h5]⟩

set_option maxHeartbeats 4000000 in
set_option maxRecDepth 100000 in
theorem m_step {l : Launch} {D : va_G} {cI cJ cD cS : ClassId} {a : Nat → Nat} {N : Nat → Nat → Nat} {Z : Nat → Nat → Int32} {E : Nat → Nat → Int32} {G : Nat → Nat → Int64} {T : Nat → Nat} (d v : Int32) (hI : inv N)  : ctI l D (ty4 cI cJ cD cS) none (wM cI a) yX3_step cX3_step 4 (some .int) (rmk 2 46) [.ref (a 0), .int d, .int v] (N, Z, E, G, T) (fun (r : Int32) (u : sT) => u = (nxStep N d v, Z, E, G, T) ∧ r = spStep N d v) := by
  refine ctI_of [(0, .ref (a 0)), (1, .int d), (2, .int v)] (by decide) (Nat.le_of_ble_eq_true rfl) rfl ?_
  intro p e s m args below meth c A C hK hZ hA
  have hR := hI.R
  have hDn := hI.D
  have hQn := hI.Q
  refine hd_aload_n 1 C dX3_step_0 rfl 0 rfl rfl ?_
  refine hd_iload_n 2 C dX3_step_1 rfl 1 rfl rfl ?_
  refine hd_callVI (rest := []) 5 C hK hZ hA ⟨Nat.zero_le _, Nat.zero_le _⟩ dX3_step_2 rfl kc_X3_134 (m_noDoor d hI) ⟨rfl, rfl⟩ ⟨by decide, by decide⟩ 0 3 rfl rfl rfl rfl rfl (Nat.le_of_ble_eq_true rfl) (fun r2 u2 h2 => ?_)
  obtain ⟨rfl, rfl⟩ := h2
  refine hd_if_eqB 8 10 C dX3_step_5 rfl (by decide) (fun h5 => ?_) (fun h5 => ?_)
  · skip
    simp only [Bool.not_eq_true', Bool.not_eq_false'] at h5
    obtain ⟨j, hj_j, rfl⟩ := inB_t h5 (by omega)
    have hc_j : (nI j).toNatClampNeg = j := nI_clamp (by omega)
    refine hd_iload_n 11 C dX3_step_10 rfl 2 rfl rfl ?_
    refine hd_i2l 12 C dX3_step_11 rfl v.toInt64 rfl ?_
    refine hd_lconst 13 C dX3_step_12 rfl 0 (by decide) ?_
    refine hd_ldc2 16 C dX3_step_13 rfl kl_X3_143 ?_
    refine hd_callSI (rest := []) 19 C hK hZ hA ⟨Nat.zero_le _, Nat.zero_le _⟩ dX3_step_16 rfl kc_X3_77 (m_in v.toInt64 0 (5)) ⟨rfl, rfl⟩ ⟨by decide, by decide⟩ rfl rfl (Nat.le_of_ble_eq_true rfl) (fun r16 u16 h16 => ?_)
    obtain ⟨rfl, rfl⟩ := h16
    refine hd_if_neB 22 25 C dX3_step_19 rfl (by decide) (fun h19 => ?_) (fun h19 => ?_)
    · skip
      rw [inL_k v 5 6 (by decide)] at h19
      obtain ⟨k, hj_k, rfl⟩ := inB_t h19 (by omega)
      have hc_k : (nI k).toNatClampNeg = k := nI_clamp (by omega)
      refine hd_aload_n 26 C dX3_step_25 rfl 0 rfl rfl ?_
      refine gm_stepOf 29 C hK dX3_step_26 rfl ?_
      refine hd_iload_n 30 C dX3_step_29 rfl 1 rfl rfl ?_
      refine alm_stepOf 31 C hK dX3_step_30 rfl (by omega) (nI (N 4 j)) rfl ?_
      refine hd_istore_n 32 C dX3_step_31 rfl [(3, .int (nI (N 4 j))), (0, .ref (a 0)), (1, .int (nI j)), (2, .int (nI k))] rfl (by decide) rfl ?_
      refine hd_aload_n 33 C dX3_step_32 rfl 1 rfl rfl ?_
      refine gm_stepOf 36 C hK dX3_step_33 rfl ?_
      refine hd_iload_n 37 C dX3_step_36 rfl 2 rfl rfl ?_
      refine hd_iload_n 38 C dX3_step_37 rfl 3 rfl rfl ?_
      refine asm_stepOf 39 C hK dX3_step_38 rfl (by omega) ?_
      refine hd_iload_n 40 C dX3_step_39 rfl 0 rfl rfl ?_
      exact hd_iret C hK dX3_step_40 ⟨by simp [spStep, nxStep, h5, hc_j, h19, hc_k], by simp [spStep, nxStep, h5, hc_j, h19, hc_k]⟩
    · skip
      rw [inL_k v 5 6 (by decide)] at h19
      refine hd_bipush 24 C dX3_step_22 rfl (-2) (by decide) ?_
      exact hd_iret C hK dX3_step_24 ⟨by simp [spStep, nxStep, h5, hc_j, h19], by simp [spStep, nxStep, h5, hc_j, h19]⟩
  · skip
    simp only [Bool.not_eq_true', Bool.not_eq_false'] at h5
    refine hd_iconst 9 C dX3_step_8 rfl (-1) (by decide) ?_
    exact hd_iret C hK dX3_step_9 ⟨by simp [spStep, nxStep, h5], by simp [spStep, nxStep, h5]⟩

set_option maxHeartbeats 4000000 in
set_option maxRecDepth 100000 in
theorem x_turn {l : Launch} {D : va_G} {cI cJ cD cS : ClassId} {a : Nat → Nat} {N : Nat → Nat → Nat} {Z : Nat → Nat → Int32} {E : Nat → Nat → Int32} {G : Nat → Nat → Int64} {T : Nat → Nat} {t : Option Nat} (d r0 : Int32) (hI : inv N)  : ctI l D (ty4 cI cJ cD cS) t (wX cI cJ cD cS a) yX2_turn cX2_turn 4 (some .int) (rmk 1 21) [.ref (a 0), .int d, .int r0] (N, Z, E, G, T) (fun (r : Int32) (u : sT) => u = (nxTurn N d r0, Z, E, G, T) ∧ r = spTurn N d r0) := by
  refine ctI_of [(0, .ref (a 0)), (1, .int d), (2, .int r0)] (by decide) (Nat.le_of_ble_eq_true rfl) rfl ?_
  intro p e s m args below meth c A C hK hZ hA
  have hR := hI.R
  have hDn := hI.D
  have hQn := hI.Q
  refine hd_aload_n 1 C dX2_turn_0 rfl 0 rfl rfl ?_
  refine hd_iload_n 2 C dX2_turn_1 rfl 1 rfl rfl ?_
  refine hd_callVI (rest := []) 5 C hK hZ hA ⟨Nat.zero_le _, Nat.zero_le _⟩ dX2_turn_2 rfl kc_X2_79 (x_isDoor d hI) ⟨rfl, rfl⟩ ⟨by decide, by decide⟩ 0 2 rfl rfl rfl rfl rfl (Nat.le_of_ble_eq_true rfl) (fun r2 u2 h2 => ?_)
  obtain ⟨rfl, rfl⟩ := h2
  refine hd_if_eqB 8 16 C dX2_turn_5 rfl (by decide) (fun h5 => ?_) (fun h5 => ?_)
  · skip
    refine hd_iconst 17 C dX2_turn_16 rfl (-1) (by decide) ?_
    exact hd_iret C hK dX2_turn_17 ⟨by simp [spTurn, nxTurn, h5], by simp [spTurn, nxTurn, h5]⟩
  · skip
    obtain ⟨j, hj_j, rfl⟩ := inB_t h5 (by omega)
    have hc_j : (nI j).toNatClampNeg = j := nI_clamp (by omega)
    refine hd_aload_n 9 C dX2_turn_8 rfl 0 rfl rfl ?_
    refine hd_iload_n 10 C dX2_turn_9 rfl 2 rfl rfl ?_
    refine hd_callVI (rest := []) 13 C hK hZ hA ⟨Nat.zero_le _, Nat.zero_le _⟩ dX2_turn_10 rfl kc_X2_104 (x_isRoom r0 hI) ⟨rfl, rfl⟩ ⟨by decide, by decide⟩ 0 2 rfl rfl rfl rfl rfl (Nat.le_of_ble_eq_true rfl) (fun r10 u10 h10 => ?_)
    obtain ⟨rfl, rfl⟩ := h10
    refine hd_if_neB 16 18 C dX2_turn_13 rfl (by decide) (fun h13 => ?_) (fun h13 => ?_)
    · skip
      obtain ⟨k, hj_k, rfl⟩ := inB_t h13 (by omega)
      have hc_k : (nI k).toNatClampNeg = k := nI_clamp (by omega)
      refine hd_aload_n 19 C dX2_turn_18 rfl 0 rfl rfl ?_
      refine gx_doors 22 C hK dX2_turn_19 rfl ?_
      refine hd_iload_n 23 C dX2_turn_22 rfl 1 rfl rfl ?_
      refine alx_doors 24 C hK dX2_turn_23 rfl (by omega) ?_
      refine gd2_to (by omega) 27 C hK dX2_turn_24 rfl (nI (N 3 j)) rfl ?_
      refine hd_istore_n 28 C dX2_turn_27 rfl [(3, .int (nI (N 3 j))), (0, .ref (a 0)), (1, .int (nI j)), (2, .int (nI k))] rfl (by decide) rfl ?_
      refine hd_aload_n 29 C dX2_turn_28 rfl 1 rfl rfl ?_
      refine gx_doors 32 C hK dX2_turn_29 rfl ?_
      refine hd_iload_n 33 C dX2_turn_32 rfl 2 rfl rfl ?_
      refine alx_doors 34 C hK dX2_turn_33 rfl (by omega) ?_
      refine hd_iload_n 35 C dX2_turn_34 rfl 3 rfl rfl ?_
      refine pd2_to (by omega) 38 C hK dX2_turn_35 rfl ?_
      refine hd_iload_n 39 C dX2_turn_38 rfl 0 rfl rfl ?_
      exact hd_iret C hK dX2_turn_39 ⟨by simp [spTurn, nxTurn, h5, hc_j, h13, hc_k], by simp [spTurn, nxTurn, h5, hc_j, h13, hc_k]⟩
    · skip
      refine hd_iconst 17 C dX2_turn_16 rfl (-1) (by decide) ?_
      exact hd_iret C hK dX2_turn_17 ⟨by simp [spTurn, nxTurn, h5, hc_j, h13], by simp [spTurn, nxTurn, h5, hc_j, h13]⟩

set_option maxHeartbeats 4000000 in
set_option maxRecDepth 100000 in
theorem m_turn {l : Launch} {D : va_G} {cI cJ cD cS : ClassId} {a : Nat → Nat} {N : Nat → Nat → Nat} {Z : Nat → Nat → Int32} {E : Nat → Nat → Int32} {G : Nat → Nat → Int64} {T : Nat → Nat} (d r0 : Int32) (hI : inv N)  : ctI l D (ty4 cI cJ cD cS) none (wM cI a) yX3_turn cX3_turn 4 (some .int) (rmk 2 46) [.ref (a 0), .int d, .int r0] (N, Z, E, G, T) (fun (r : Int32) (u : sT) => u = (nxTurn N d r0, Z, E, G, T) ∧ r = spTurn N d r0) := by
  refine ctI_of [(0, .ref (a 0)), (1, .int d), (2, .int r0)] (by decide) (Nat.le_of_ble_eq_true rfl) rfl ?_
  intro p e s m args below meth c A C hK hZ hA
  have hR := hI.R
  have hDn := hI.D
  have hQn := hI.Q
  refine hd_aload_n 1 C dX3_turn_0 rfl 0 rfl rfl ?_
  refine hd_iload_n 2 C dX3_turn_1 rfl 1 rfl rfl ?_
  refine hd_callVI (rest := []) 5 C hK hZ hA ⟨Nat.zero_le _, Nat.zero_le _⟩ dX3_turn_2 rfl kc_X3_134 (m_noDoor d hI) ⟨rfl, rfl⟩ ⟨by decide, by decide⟩ 0 3 rfl rfl rfl rfl rfl (Nat.le_of_ble_eq_true rfl) (fun r2 u2 h2 => ?_)
  obtain ⟨rfl, rfl⟩ := h2
  refine hd_if_neB 8 16 C dX3_turn_5 rfl (by decide) (fun h5 => ?_) (fun h5 => ?_)
  · skip
    simp only [Bool.not_eq_true', Bool.not_eq_false'] at h5
    refine hd_iconst 17 C dX3_turn_16 rfl (-1) (by decide) ?_
    exact hd_iret C hK dX3_turn_17 ⟨by simp [spTurn, nxTurn, h5], by simp [spTurn, nxTurn, h5]⟩
  · skip
    simp only [Bool.not_eq_true', Bool.not_eq_false'] at h5
    obtain ⟨j, hj_j, rfl⟩ := inB_t h5 (by omega)
    have hc_j : (nI j).toNatClampNeg = j := nI_clamp (by omega)
    refine hd_aload_n 9 C dX3_turn_8 rfl 0 rfl rfl ?_
    refine hd_iload_n 10 C dX3_turn_9 rfl 2 rfl rfl ?_
    refine hd_callVI (rest := []) 13 C hK hZ hA ⟨Nat.zero_le _, Nat.zero_le _⟩ dX3_turn_10 rfl kc_X3_145 (m_noRoom r0 hI) ⟨rfl, rfl⟩ ⟨by decide, by decide⟩ 0 3 rfl rfl rfl rfl rfl (Nat.le_of_ble_eq_true rfl) (fun r10 u10 h10 => ?_)
    obtain ⟨rfl, rfl⟩ := h10
    refine hd_if_eqB 16 18 C dX3_turn_13 rfl (by decide) (fun h13 => ?_) (fun h13 => ?_)
    · skip
      simp only [Bool.not_eq_true', Bool.not_eq_false'] at h13
      obtain ⟨k, hj_k, rfl⟩ := inB_t h13 (by omega)
      have hc_k : (nI k).toNatClampNeg = k := nI_clamp (by omega)
      refine hd_aload_n 19 C dX3_turn_18 rfl 0 rfl rfl ?_
      refine gm_toOf 22 C hK dX3_turn_19 rfl ?_
      refine hd_iload_n 23 C dX3_turn_22 rfl 1 rfl rfl ?_
      refine alm_toOf 24 C hK dX3_turn_23 rfl (by omega) (nI (N 3 j)) rfl ?_
      refine hd_istore_n 25 C dX3_turn_24 rfl [(3, .int (nI (N 3 j))), (0, .ref (a 0)), (1, .int (nI j)), (2, .int (nI k))] rfl (by decide) rfl ?_
      refine hd_aload_n 26 C dX3_turn_25 rfl 1 rfl rfl ?_
      refine gm_toOf 29 C hK dX3_turn_26 rfl ?_
      refine hd_iload_n 30 C dX3_turn_29 rfl 2 rfl rfl ?_
      refine hd_iload_n 31 C dX3_turn_30 rfl 3 rfl rfl ?_
      refine asm_toOf 32 C hK dX3_turn_31 rfl (by omega) ?_
      refine hd_iload_n 33 C dX3_turn_32 rfl 0 rfl rfl ?_
      exact hd_iret C hK dX3_turn_33 ⟨by simp [spTurn, nxTurn, h5, hc_j, h13, hc_k], by simp [spTurn, nxTurn, h5, hc_j, h13, hc_k]⟩
    · skip
      simp only [Bool.not_eq_true', Bool.not_eq_false'] at h13
      refine hd_iconst 17 C dX3_turn_16 rfl (-1) (by decide) ?_
      exact hd_iret C hK dX3_turn_17 ⟨by simp [spTurn, nxTurn, h5, hc_j, h13], by simp [spTurn, nxTurn, h5, hc_j, h13]⟩

set_option maxHeartbeats 4000000 in
set_option maxRecDepth 100000 in
theorem x_reading {l : Launch} {D : va_G} {cI cJ cD cS : ClassId} {a : Nat → Nat} {N : Nat → Nat → Nat} {Z : Nat → Nat → Int32} {E : Nat → Nat → Int32} {G : Nat → Nat → Int64} {T : Nat → Nat} {t : Option Nat} (d h r0 : Int32) (hI : inv N)  : ctI l D (ty4 cI cJ cD cS) t (wX cI cJ cD cS a) yX2_reading cX2_reading 4 (some .int) (rmk 1 21) [.ref (a 0), .int d, .int h, .int r0] (N, Z, E, G, T) (fun (r : Int32) (u : sT) => u = (nxReading N d h r0, nzReading N Z d h r0, E, G, T) ∧ r = spReading N d h r0) := by
  refine ctI_of [(0, .ref (a 0)), (1, .int d), (2, .int h), (3, .int r0)] (by decide) (Nat.le_of_ble_eq_true rfl) rfl ?_
  intro p e s m args below meth c A C hK hZ hA
  have hR := hI.R
  have hDn := hI.D
  have hQn := hI.Q
  refine hd_aload_n 1 C dX2_reading_0 rfl 0 rfl rfl ?_
  refine hd_iload_n 2 C dX2_reading_1 rfl 1 rfl rfl ?_
  refine hd_callVI (rest := []) 5 C hK hZ hA ⟨Nat.zero_le _, Nat.zero_le _⟩ dX2_reading_2 rfl kc_X2_79 (x_isDoor d hI) ⟨rfl, rfl⟩ ⟨by decide, by decide⟩ 0 2 rfl rfl rfl rfl rfl (Nat.le_of_ble_eq_true rfl) (fun r2 u2 h2 => ?_)
  obtain ⟨rfl, rfl⟩ := h2
  refine hd_if_eqB 8 22 C dX2_reading_5 rfl (by decide) (fun h5 => ?_) (fun h5 => ?_)
  · skip
    refine hd_iconst 23 C dX2_reading_22 rfl (-1) (by decide) ?_
    exact hd_iret C hK dX2_reading_23 ⟨by simp [spReading, nxReading, nzReading, h5], by simp [spReading, nxReading, nzReading, h5]⟩
  · skip
    obtain ⟨j, hj_j, rfl⟩ := inB_t h5 (by omega)
    have hc_j : (nI j).toNatClampNeg = j := nI_clamp (by omega)
    refine hd_aload_n 9 C dX2_reading_8 rfl 0 rfl rfl ?_
    refine hd_iload_n 10 C dX2_reading_9 rfl 3 rfl rfl ?_
    refine hd_callVI (rest := []) 13 C hK hZ hA ⟨Nat.zero_le _, Nat.zero_le _⟩ dX2_reading_10 rfl kc_X2_104 (x_isRoom r0 hI) ⟨rfl, rfl⟩ ⟨by decide, by decide⟩ 0 2 rfl rfl rfl rfl rfl (Nat.le_of_ble_eq_true rfl) (fun r10 u10 h10 => ?_)
    obtain ⟨rfl, rfl⟩ := h10
    refine hd_if_neB 16 24 C dX2_reading_13 rfl (by decide) (fun h13 => ?_) (fun h13 => ?_)
    · skip
      refine hd_iload_n 25 C dX2_reading_24 rfl 2 rfl rfl ?_
      refine hd_callSI (rest := []) 28 C hK hZ hA ⟨Nat.zero_le _, Nat.zero_le _⟩ dX2_reading_25 rfl kc_X2_94 (x_isHour h) ⟨rfl, rfl⟩ ⟨by decide, by decide⟩ rfl rfl (Nat.le_of_ble_eq_true rfl) (fun r25 u25 h25 => ?_)
      obtain ⟨rfl, rfl⟩ := h25
      refine hd_if_neB 31 34 C dX2_reading_28 rfl (by decide) (fun h28 => ?_) (fun h28 => ?_)
      · skip
        obtain ⟨k, hj_k, rfl⟩ := inB_t h28 (by omega)
        have hc_k : (nI k).toNatClampNeg = k := nI_clamp (by omega)
        refine hd_aload_n 35 C dX2_reading_34 rfl 0 rfl rfl ?_
        refine gx_readingCount 38 C hK dX2_reading_35 rfl (nI (N 0 2)) rfl ?_
        refine hd_bipush 40 C dX2_reading_38 rfl (nI 8) (by decide) ?_
        refine hd_icmp_ltN 43 46 C dX2_reading_40 rfl (by decide) (by omega) (by omega) (fun h40 => ?_) (fun h40 => ?_)
        · skip
          refine hd_aload_n 47 C dX2_reading_46 rfl 0 rfl rfl ?_
          refine gx_readDoor 50 C hK dX2_reading_47 rfl ?_
          refine hd_aload_n 51 C dX2_reading_50 rfl 0 rfl rfl ?_
          refine gx_readingCount 54 C hK dX2_reading_51 rfl (nI (N 0 2)) rfl ?_
          refine hd_iload_n 55 C dX2_reading_54 rfl 1 rfl rfl ?_
          refine asx_readDoor 56 C hK dX2_reading_55 rfl (by omega) ?_
          refine hd_aload_n 57 C dX2_reading_56 rfl 0 rfl rfl ?_
          refine gx_readHour 60 C hK dX2_reading_57 rfl ?_
          refine hd_aload_n 61 C dX2_reading_60 rfl 0 rfl rfl ?_
          refine gx_readingCount 64 C hK dX2_reading_61 rfl (nI (N 0 2)) rfl ?_
          refine hd_iload_n 65 C dX2_reading_64 rfl 2 rfl rfl ?_
          refine asx_readHour 66 C hK dX2_reading_65 rfl (by omega) ?_
          refine hd_aload_n 67 C dX2_reading_66 rfl 0 rfl rfl ?_
          refine gx_readRoom 70 C hK dX2_reading_67 rfl ?_
          refine hd_aload_n 71 C dX2_reading_70 rfl 0 rfl rfl ?_
          refine gx_readingCount 74 C hK dX2_reading_71 rfl (nI (N 0 2)) rfl ?_
          refine hd_iload_n 75 C dX2_reading_74 rfl 3 rfl rfl ?_
          refine asx_readRoom 76 C hK dX2_reading_75 rfl (by omega) ?_
          refine hd_aload_n 77 C dX2_reading_76 rfl 0 rfl rfl ?_
          refine hd_dup 78 C dX2_reading_77 rfl rfl ?_
          refine gx_readingCount 81 C hK dX2_reading_78 rfl (nI (N 0 2)) rfl ?_
          refine hd_iconst 82 C dX2_reading_81 rfl (nI 1) (by decide) ?_
          refine hd_iadd 83 C dX2_reading_82 rfl (nI ((N 0 2) + 1)) (nI_add _ _) ?_
          refine px_readingCount 86 C hK dX2_reading_83 rfl ?_
          refine hd_aload_n 87 C dX2_reading_86 rfl 0 rfl rfl ?_
          refine gx_readingCount 90 C hK dX2_reading_87 rfl (nI ((N 0 2) + 1)) rfl ?_
          refine hd_iconst 91 C dX2_reading_90 rfl (nI 1) (by decide) ?_
          refine hd_isub 92 C dX2_reading_91 rfl (nI (((N 0 2) + 1) - 1)) (pk_sub (by omega)) ?_
          exact hd_iret C hK dX2_reading_92 ⟨by simp [spReading, nxReading, nzReading, h5, hc_j, h13, h28, hc_k, h40], by simp [spReading, nxReading, nzReading, h5, hc_j, h13, h28, hc_k, h40]⟩
        · skip
          have hlt : ¬ N 0 2 < 8 := by omega
          refine hd_bipush 45 C dX2_reading_43 rfl (-4) (by decide) ?_
          exact hd_iret C hK dX2_reading_45 ⟨by simp [spReading, nxReading, nzReading, h5, hc_j, h13, h28, hc_k, h40, hlt], by simp [spReading, nxReading, nzReading, h5, hc_j, h13, h28, hc_k, h40, hlt]⟩
      · skip
        refine hd_bipush 33 C dX2_reading_31 rfl (-2) (by decide) ?_
        exact hd_iret C hK dX2_reading_33 ⟨by simp [spReading, nxReading, nzReading, h5, hc_j, h13, h28], by simp [spReading, nxReading, nzReading, h5, hc_j, h13, h28]⟩
    · skip
      refine hd_iload_n 17 C dX2_reading_16 rfl 3 rfl rfl ?_
      refine hd_bipush 19 C dX2_reading_17 rfl (-9) (by decide) ?_
      refine hd_icmp_eq 22 24 C dX2_reading_19 rfl (by decide) (fun h19 => ?_) (fun h19 => ?_)
      · skip
        refine hd_iload_n 25 C dX2_reading_24 rfl 2 rfl rfl ?_
        refine hd_callSI (rest := []) 28 C hK hZ hA ⟨Nat.zero_le _, Nat.zero_le _⟩ dX2_reading_25 rfl kc_X2_94 (x_isHour h) ⟨rfl, rfl⟩ ⟨by decide, by decide⟩ rfl rfl (Nat.le_of_ble_eq_true rfl) (fun r25 u25 h25 => ?_)
        obtain ⟨rfl, rfl⟩ := h25
        refine hd_if_neB 31 34 C dX2_reading_28 rfl (by decide) (fun h28 => ?_) (fun h28 => ?_)
        · skip
          obtain ⟨k, hj_k, rfl⟩ := inB_t h28 (by omega)
          have hc_k : (nI k).toNatClampNeg = k := nI_clamp (by omega)
          refine hd_aload_n 35 C dX2_reading_34 rfl 0 rfl rfl ?_
          refine gx_readingCount 38 C hK dX2_reading_35 rfl (nI (N 0 2)) rfl ?_
          refine hd_bipush 40 C dX2_reading_38 rfl (nI 8) (by decide) ?_
          refine hd_icmp_ltN 43 46 C dX2_reading_40 rfl (by decide) (by omega) (by omega) (fun h40 => ?_) (fun h40 => ?_)
          · skip
            refine hd_aload_n 47 C dX2_reading_46 rfl 0 rfl rfl ?_
            refine gx_readDoor 50 C hK dX2_reading_47 rfl ?_
            refine hd_aload_n 51 C dX2_reading_50 rfl 0 rfl rfl ?_
            refine gx_readingCount 54 C hK dX2_reading_51 rfl (nI (N 0 2)) rfl ?_
            refine hd_iload_n 55 C dX2_reading_54 rfl 1 rfl rfl ?_
            refine asx_readDoor 56 C hK dX2_reading_55 rfl (by omega) ?_
            refine hd_aload_n 57 C dX2_reading_56 rfl 0 rfl rfl ?_
            refine gx_readHour 60 C hK dX2_reading_57 rfl ?_
            refine hd_aload_n 61 C dX2_reading_60 rfl 0 rfl rfl ?_
            refine gx_readingCount 64 C hK dX2_reading_61 rfl (nI (N 0 2)) rfl ?_
            refine hd_iload_n 65 C dX2_reading_64 rfl 2 rfl rfl ?_
            refine asx_readHour 66 C hK dX2_reading_65 rfl (by omega) ?_
            refine hd_aload_n 67 C dX2_reading_66 rfl 0 rfl rfl ?_
            refine gx_readRoom 70 C hK dX2_reading_67 rfl ?_
            refine hd_aload_n 71 C dX2_reading_70 rfl 0 rfl rfl ?_
            refine gx_readingCount 74 C hK dX2_reading_71 rfl (nI (N 0 2)) rfl ?_
            refine hd_iload_n 75 C dX2_reading_74 rfl 3 rfl rfl ?_
            refine asx_readRoom 76 C hK dX2_reading_75 rfl (by omega) ?_
            refine hd_aload_n 77 C dX2_reading_76 rfl 0 rfl rfl ?_
            refine hd_dup 78 C dX2_reading_77 rfl rfl ?_
            refine gx_readingCount 81 C hK dX2_reading_78 rfl (nI (N 0 2)) rfl ?_
            refine hd_iconst 82 C dX2_reading_81 rfl (nI 1) (by decide) ?_
            refine hd_iadd 83 C dX2_reading_82 rfl (nI ((N 0 2) + 1)) (nI_add _ _) ?_
            refine px_readingCount 86 C hK dX2_reading_83 rfl ?_
            refine hd_aload_n 87 C dX2_reading_86 rfl 0 rfl rfl ?_
            refine gx_readingCount 90 C hK dX2_reading_87 rfl (nI ((N 0 2) + 1)) rfl ?_
            refine hd_iconst 91 C dX2_reading_90 rfl (nI 1) (by decide) ?_
            refine hd_isub 92 C dX2_reading_91 rfl (nI (((N 0 2) + 1) - 1)) (pk_sub (by omega)) ?_
            exact hd_iret C hK dX2_reading_92 ⟨by simp [spReading, nxReading, nzReading, h5, hc_j, h13, h19, h28, hc_k, h40], by simp [spReading, nxReading, nzReading, h5, hc_j, h13, h19, h28, hc_k, h40]⟩
          · skip
            have hlt : ¬ N 0 2 < 8 := by omega
            refine hd_bipush 45 C dX2_reading_43 rfl (-4) (by decide) ?_
            exact hd_iret C hK dX2_reading_45 ⟨by simp [spReading, nxReading, nzReading, h5, hc_j, h13, h19, h28, hc_k, h40, hlt], by simp [spReading, nxReading, nzReading, h5, hc_j, h13, h19, h28, hc_k, h40, hlt]⟩
        · skip
          refine hd_bipush 33 C dX2_reading_31 rfl (-2) (by decide) ?_
          exact hd_iret C hK dX2_reading_33 ⟨by simp [spReading, nxReading, nzReading, h5, hc_j, h13, h19, h28], by simp [spReading, nxReading, nzReading, h5, hc_j, h13, h19, h28]⟩
      · skip
        refine hd_iconst 23 C dX2_reading_22 rfl (-1) (by decide) ?_
        exact hd_iret C hK dX2_reading_23 ⟨by simp [spReading, nxReading, nzReading, h5, hc_j, h13, h19], by simp [spReading, nxReading, nzReading, h5, hc_j, h13, h19]⟩

set_option maxHeartbeats 4000000 in
set_option maxRecDepth 100000 in
theorem m_reading {l : Launch} {D : va_G} {cI cJ cD cS : ClassId} {a : Nat → Nat} {N : Nat → Nat → Nat} {Z : Nat → Nat → Int32} {E : Nat → Nat → Int32} {G : Nat → Nat → Int64} {T : Nat → Nat} (d h r0 : Int32) (hI : inv N)  : ctI l D (ty4 cI cJ cD cS) none (wM cI a) yX3_reading cX3_reading 4 (some .int) (rmk 2 46) [.ref (a 0), .int d, .int h, .int r0] (N, Z, E, G, T) (fun (r : Int32) (u : sT) => u = (nxReading N d h r0, nzReading N Z d h r0, E, G, T) ∧ r = spReading N d h r0) := by
  refine ctI_of [(0, .ref (a 0)), (1, .int d), (2, .int h), (3, .int r0)] (by decide) (Nat.le_of_ble_eq_true rfl) rfl ?_
  intro p e s m args below meth c A C hK hZ hA
  have hR := hI.R
  have hDn := hI.D
  have hQn := hI.Q
  refine hd_aload_n 1 C dX3_reading_0 rfl 0 rfl rfl ?_
  refine hd_iload_n 2 C dX3_reading_1 rfl 1 rfl rfl ?_
  refine hd_callVI (rest := []) 5 C hK hZ hA ⟨Nat.zero_le _, Nat.zero_le _⟩ dX3_reading_2 rfl kc_X3_134 (m_noDoor d hI) ⟨rfl, rfl⟩ ⟨by decide, by decide⟩ 0 3 rfl rfl rfl rfl rfl (Nat.le_of_ble_eq_true rfl) (fun r2 u2 h2 => ?_)
  obtain ⟨rfl, rfl⟩ := h2
  refine hd_if_neB 8 22 C dX3_reading_5 rfl (by decide) (fun h5 => ?_) (fun h5 => ?_)
  · skip
    simp only [Bool.not_eq_true', Bool.not_eq_false'] at h5
    refine hd_iconst 23 C dX3_reading_22 rfl (-1) (by decide) ?_
    exact hd_iret C hK dX3_reading_23 ⟨by simp [spReading, nxReading, nzReading, h5], by simp [spReading, nxReading, nzReading, h5]⟩
  · skip
    simp only [Bool.not_eq_true', Bool.not_eq_false'] at h5
    obtain ⟨j, hj_j, rfl⟩ := inB_t h5 (by omega)
    have hc_j : (nI j).toNatClampNeg = j := nI_clamp (by omega)
    refine hd_iload_n 9 C dX3_reading_8 rfl 3 rfl rfl ?_
    refine hd_bipush 11 C dX3_reading_9 rfl (-9) (by decide) ?_
    refine hd_icmp_eq 14 24 C dX3_reading_11 rfl (by decide) (fun h11 => ?_) (fun h11 => ?_)
    · skip
      refine hd_iload_n 25 C dX3_reading_24 rfl 2 rfl rfl ?_
      refine hd_callSI (rest := []) 28 C hK hZ hA ⟨Nat.zero_le _, Nat.zero_le _⟩ dX3_reading_25 rfl kc_X3_137 (m_noHour h) ⟨rfl, rfl⟩ ⟨by decide, by decide⟩ rfl rfl (Nat.le_of_ble_eq_true rfl) (fun r25 u25 h25 => ?_)
      obtain ⟨rfl, rfl⟩ := h25
      refine hd_if_eqB 31 34 C dX3_reading_28 rfl (by decide) (fun h28 => ?_) (fun h28 => ?_)
      · skip
        simp only [Bool.not_eq_true', Bool.not_eq_false'] at h28
        obtain ⟨k, hj_k, rfl⟩ := inB_t h28 (by omega)
        have hc_k : (nI k).toNatClampNeg = k := nI_clamp (by omega)
        refine hd_aload_n 35 C dX3_reading_34 rfl 0 rfl rfl ?_
        refine gm_readings 38 C hK dX3_reading_35 rfl (nI (N 0 2)) rfl ?_
        refine hd_bipush 40 C dX3_reading_38 rfl (nI 8) (by decide) ?_
        refine hd_icmp_neN 43 46 C dX3_reading_40 rfl (by decide) (by omega) (by omega) (fun h40 => ?_) (fun h40 => ?_)
        · skip
          have hlt : N 0 2 < 8 := by omega
          refine hd_aload_n 47 C dX3_reading_46 rfl 0 rfl rfl ?_
          refine gm_readingOf 50 C hK dX3_reading_47 rfl ?_
          refine hd_aload_n 51 C dX3_reading_50 rfl 0 rfl rfl ?_
          refine gm_readings 54 C hK dX3_reading_51 rfl (nI (N 0 2)) rfl ?_
          refine hd_iload_n 55 C dX3_reading_54 rfl 1 rfl rfl ?_
          refine asm_readingOf 56 C hK dX3_reading_55 rfl (by omega) ?_
          refine hd_aload_n 57 C dX3_reading_56 rfl 0 rfl rfl ?_
          refine gm_readingBy 60 C hK dX3_reading_57 rfl ?_
          refine hd_aload_n 61 C dX3_reading_60 rfl 0 rfl rfl ?_
          refine gm_readings 64 C hK dX3_reading_61 rfl (nI (N 0 2)) rfl ?_
          refine hd_iload_n 65 C dX3_reading_64 rfl 2 rfl rfl ?_
          refine asm_readingBy 66 C hK dX3_reading_65 rfl (by omega) ?_
          refine hd_aload_n 67 C dX3_reading_66 rfl 0 rfl rfl ?_
          refine gm_readingAt 70 C hK dX3_reading_67 rfl ?_
          refine hd_aload_n 71 C dX3_reading_70 rfl 0 rfl rfl ?_
          refine gm_readings 74 C hK dX3_reading_71 rfl (nI (N 0 2)) rfl ?_
          refine hd_iload_n 75 C dX3_reading_74 rfl 3 rfl rfl ?_
          refine asm_readingAt 76 C hK dX3_reading_75 rfl (by omega) ?_
          refine hd_aload_n 77 C dX3_reading_76 rfl 0 rfl rfl ?_
          refine hd_dup 78 C dX3_reading_77 rfl rfl ?_
          refine gm_readings 81 C hK dX3_reading_78 rfl (nI (N 0 2)) rfl ?_
          refine hd_iconst 82 C dX3_reading_81 rfl (nI 1) (by decide) ?_
          refine hd_iadd 83 C dX3_reading_82 rfl (nI ((N 0 2) + 1)) (nI_add _ _) ?_
          refine pm_readings 86 C hK dX3_reading_83 rfl ?_
          refine hd_aload_n 87 C dX3_reading_86 rfl 0 rfl rfl ?_
          refine gm_readings 90 C hK dX3_reading_87 rfl (nI ((N 0 2) + 1)) rfl ?_
          refine hd_iconst 91 C dX3_reading_90 rfl (nI 1) (by decide) ?_
          refine hd_isub 92 C dX3_reading_91 rfl (nI (((N 0 2) + 1) - 1)) (pk_sub (by omega)) ?_
          exact hd_iret C hK dX3_reading_92 ⟨by simp [spReading, nxReading, nzReading, h5, hc_j, h11, h28, hc_k, h40, hlt], by simp [spReading, nxReading, nzReading, h5, hc_j, h11, h28, hc_k, h40, hlt]⟩
        · skip
          have hlt : ¬ N 0 2 < 8 := by omega
          refine hd_bipush 45 C dX3_reading_43 rfl (-4) (by decide) ?_
          exact hd_iret C hK dX3_reading_45 ⟨by simp [spReading, nxReading, nzReading, h5, hc_j, h11, h28, hc_k, h40, hlt], by simp [spReading, nxReading, nzReading, h5, hc_j, h11, h28, hc_k, h40, hlt]⟩
      · skip
        simp only [Bool.not_eq_true', Bool.not_eq_false'] at h28
        refine hd_bipush 33 C dX3_reading_31 rfl (-2) (by decide) ?_
        exact hd_iret C hK dX3_reading_33 ⟨by simp [spReading, nxReading, nzReading, h5, hc_j, h11, h28], by simp [spReading, nxReading, nzReading, h5, hc_j, h11, h28]⟩
    · skip
      refine hd_aload_n 15 C dX3_reading_14 rfl 0 rfl rfl ?_
      refine hd_iload_n 16 C dX3_reading_15 rfl 3 rfl rfl ?_
      refine hd_callVI (rest := []) 19 C hK hZ hA ⟨Nat.zero_le _, Nat.zero_le _⟩ dX3_reading_16 rfl kc_X3_145 (m_noRoom r0 hI) ⟨rfl, rfl⟩ ⟨by decide, by decide⟩ 0 3 rfl rfl rfl rfl rfl (Nat.le_of_ble_eq_true rfl) (fun r16 u16 h16 => ?_)
      obtain ⟨rfl, rfl⟩ := h16
      refine hd_if_eqB 22 24 C dX3_reading_19 rfl (by decide) (fun h19 => ?_) (fun h19 => ?_)
      · skip
        simp only [Bool.not_eq_true', Bool.not_eq_false'] at h19
        refine hd_iload_n 25 C dX3_reading_24 rfl 2 rfl rfl ?_
        refine hd_callSI (rest := []) 28 C hK hZ hA ⟨Nat.zero_le _, Nat.zero_le _⟩ dX3_reading_25 rfl kc_X3_137 (m_noHour h) ⟨rfl, rfl⟩ ⟨by decide, by decide⟩ rfl rfl (Nat.le_of_ble_eq_true rfl) (fun r25 u25 h25 => ?_)
        obtain ⟨rfl, rfl⟩ := h25
        refine hd_if_eqB 31 34 C dX3_reading_28 rfl (by decide) (fun h28 => ?_) (fun h28 => ?_)
        · skip
          simp only [Bool.not_eq_true', Bool.not_eq_false'] at h28
          obtain ⟨k, hj_k, rfl⟩ := inB_t h28 (by omega)
          have hc_k : (nI k).toNatClampNeg = k := nI_clamp (by omega)
          refine hd_aload_n 35 C dX3_reading_34 rfl 0 rfl rfl ?_
          refine gm_readings 38 C hK dX3_reading_35 rfl (nI (N 0 2)) rfl ?_
          refine hd_bipush 40 C dX3_reading_38 rfl (nI 8) (by decide) ?_
          refine hd_icmp_neN 43 46 C dX3_reading_40 rfl (by decide) (by omega) (by omega) (fun h40 => ?_) (fun h40 => ?_)
          · skip
            have hlt : N 0 2 < 8 := by omega
            refine hd_aload_n 47 C dX3_reading_46 rfl 0 rfl rfl ?_
            refine gm_readingOf 50 C hK dX3_reading_47 rfl ?_
            refine hd_aload_n 51 C dX3_reading_50 rfl 0 rfl rfl ?_
            refine gm_readings 54 C hK dX3_reading_51 rfl (nI (N 0 2)) rfl ?_
            refine hd_iload_n 55 C dX3_reading_54 rfl 1 rfl rfl ?_
            refine asm_readingOf 56 C hK dX3_reading_55 rfl (by omega) ?_
            refine hd_aload_n 57 C dX3_reading_56 rfl 0 rfl rfl ?_
            refine gm_readingBy 60 C hK dX3_reading_57 rfl ?_
            refine hd_aload_n 61 C dX3_reading_60 rfl 0 rfl rfl ?_
            refine gm_readings 64 C hK dX3_reading_61 rfl (nI (N 0 2)) rfl ?_
            refine hd_iload_n 65 C dX3_reading_64 rfl 2 rfl rfl ?_
            refine asm_readingBy 66 C hK dX3_reading_65 rfl (by omega) ?_
            refine hd_aload_n 67 C dX3_reading_66 rfl 0 rfl rfl ?_
            refine gm_readingAt 70 C hK dX3_reading_67 rfl ?_
            refine hd_aload_n 71 C dX3_reading_70 rfl 0 rfl rfl ?_
            refine gm_readings 74 C hK dX3_reading_71 rfl (nI (N 0 2)) rfl ?_
            refine hd_iload_n 75 C dX3_reading_74 rfl 3 rfl rfl ?_
            refine asm_readingAt 76 C hK dX3_reading_75 rfl (by omega) ?_
            refine hd_aload_n 77 C dX3_reading_76 rfl 0 rfl rfl ?_
            refine hd_dup 78 C dX3_reading_77 rfl rfl ?_
            refine gm_readings 81 C hK dX3_reading_78 rfl (nI (N 0 2)) rfl ?_
            refine hd_iconst 82 C dX3_reading_81 rfl (nI 1) (by decide) ?_
            refine hd_iadd 83 C dX3_reading_82 rfl (nI ((N 0 2) + 1)) (nI_add _ _) ?_
            refine pm_readings 86 C hK dX3_reading_83 rfl ?_
            refine hd_aload_n 87 C dX3_reading_86 rfl 0 rfl rfl ?_
            refine gm_readings 90 C hK dX3_reading_87 rfl (nI ((N 0 2) + 1)) rfl ?_
            refine hd_iconst 91 C dX3_reading_90 rfl (nI 1) (by decide) ?_
            refine hd_isub 92 C dX3_reading_91 rfl (nI (((N 0 2) + 1) - 1)) (pk_sub (by omega)) ?_
            exact hd_iret C hK dX3_reading_92 ⟨by simp [spReading, nxReading, nzReading, h5, hc_j, h11, h19, h28, hc_k, h40, hlt], by simp [spReading, nxReading, nzReading, h5, hc_j, h11, h19, h28, hc_k, h40, hlt]⟩
          · skip
            have hlt : ¬ N 0 2 < 8 := by omega
            refine hd_bipush 45 C dX3_reading_43 rfl (-4) (by decide) ?_
            exact hd_iret C hK dX3_reading_45 ⟨by simp [spReading, nxReading, nzReading, h5, hc_j, h11, h19, h28, hc_k, h40, hlt], by simp [spReading, nxReading, nzReading, h5, hc_j, h11, h19, h28, hc_k, h40, hlt]⟩
        · skip
          simp only [Bool.not_eq_true', Bool.not_eq_false'] at h28
          refine hd_bipush 33 C dX3_reading_31 rfl (-2) (by decide) ?_
          exact hd_iret C hK dX3_reading_33 ⟨by simp [spReading, nxReading, nzReading, h5, hc_j, h11, h19, h28], by simp [spReading, nxReading, nzReading, h5, hc_j, h11, h19, h28]⟩
      · skip
        simp only [Bool.not_eq_true', Bool.not_eq_false'] at h19
        refine hd_iconst 23 C dX3_reading_22 rfl (-1) (by decide) ?_
        exact hd_iret C hK dX3_reading_23 ⟨by simp [spReading, nxReading, nzReading, h5, hc_j, h11, h19], by simp [spReading, nxReading, nzReading, h5, hc_j, h11, h19]⟩

set_option maxHeartbeats 4000000 in
set_option maxRecDepth 100000 in
theorem x_back {l : Launch} {D : va_G} {cI cJ cD cS : ClassId} {a : Nat → Nat} {N : Nat → Nat → Nat} {Z : Nat → Nat → Int32} {E : Nat → Nat → Int32} {G : Nat → Nat → Int64} {T : Nat → Nat} {t : Option Nat} (k : Int32) (hI : inv N)  : ctI l D (ty4 cI cJ cD cS) t (wX cI cJ cD cS a) yX2_back cX2_back 2 (some .int) (rmk 0 0) [.ref (a 0), .int k] (N, Z, E, G, T) (fun (r : Int32) (u : sT) => u = (nxBack N k, Z, E, G, T) ∧ r = spBack N k) := by
  refine ctI_of [(0, .ref (a 0)), (1, .int k)] (by decide) (Nat.le_of_ble_eq_true rfl) rfl ?_
  intro p e s m args below meth c A C hK hZ hA
  have hR := hI.R
  have hDn := hI.D
  have hQn := hI.Q
  refine hd_iload_n 1 C dX2_back_0 rfl 1 rfl rfl ?_
  refine hd_if_lt 4 12 C dX2_back_1 rfl (by decide) (fun h1 => ?_) (fun h1 => ?_)
  · skip
    have hb : inB k (N 0 2 + 1) = false := inB_neg h1
    refine hd_bipush 14 C dX2_back_12 rfl (-2) (by decide) ?_
    exact hd_iret C hK dX2_back_14 ⟨by simp [spBack, nxBack, h1, hb], by simp [spBack, nxBack, h1, hb]⟩
  · skip
    refine hd_iload_n 5 C dX2_back_4 rfl 1 rfl rfl ?_
    refine hd_aload_n 6 C dX2_back_5 rfl 0 rfl rfl ?_
    refine gx_readingCount 9 C hK dX2_back_6 rfl (nI (N 0 2)) rfl ?_
    refine hd_icmp_le 12 15 C dX2_back_9 rfl (by decide) (fun h9 => ?_) (fun h9 => ?_)
    · skip
      have hb := inB_le (n := N 0 2) (by omega) h1 h9
      obtain ⟨j, hj_j, rfl⟩ := inB_t hb (by omega)
      have hc_j : (nI j).toNatClampNeg = j := nI_clamp (by omega)
      refine hd_aload_n 16 C dX2_back_15 rfl 0 rfl rfl ?_
      refine hd_dup 17 C dX2_back_16 rfl rfl ?_
      refine gx_readingCount 20 C hK dX2_back_17 rfl (nI (N 0 2)) rfl ?_
      refine hd_iload_n 21 C dX2_back_20 rfl 1 rfl rfl ?_
      refine hd_isub 22 C dX2_back_21 rfl (nI ((N 0 2) - j)) (pk_sub (by omega)) ?_
      refine px_readingCount 25 C hK dX2_back_22 rfl ?_
      refine hd_aload_n 26 C dX2_back_25 rfl 0 rfl rfl ?_
      refine gx_readingCount 29 C hK dX2_back_26 rfl (nI ((N 0 2) - j)) rfl ?_
      exact hd_iret C hK dX2_back_29 ⟨by simp [spBack, nxBack, hb, hc_j], by simp [spBack, nxBack, hb, hc_j]⟩
    · skip
      have hb : inB k (N 0 2 + 1) = false := inB_gt (n := N 0 2) (by omega) h9
      refine hd_bipush 14 C dX2_back_12 rfl (-2) (by decide) ?_
      exact hd_iret C hK dX2_back_14 ⟨by simp [spBack, nxBack, hb], by simp [spBack, nxBack, hb]⟩

set_option maxHeartbeats 4000000 in
set_option maxRecDepth 100000 in
theorem m_back {l : Launch} {D : va_G} {cI cJ cD cS : ClassId} {a : Nat → Nat} {N : Nat → Nat → Nat} {Z : Nat → Nat → Int32} {E : Nat → Nat → Int32} {G : Nat → Nat → Int64} {T : Nat → Nat} (k : Int32) (hI : inv N)  : ctI l D (ty4 cI cJ cD cS) none (wM cI a) yX3_back cX3_back 2 (some .int) (rmk 1 25) [.ref (a 0), .int k] (N, Z, E, G, T) (fun (r : Int32) (u : sT) => u = (nxBack N k, Z, E, G, T) ∧ r = spBack N k) := by
  refine ctI_of [(0, .ref (a 0)), (1, .int k)] (by decide) (Nat.le_of_ble_eq_true rfl) rfl ?_
  intro p e s m args below meth c A C hK hZ hA
  have hR := hI.R
  have hDn := hI.D
  have hQn := hI.Q
  have hin := inL_k k ((nI (N 0 2)).toInt64) (N 0 2 + 1) (by rw [Int32.toInt_toInt64, nI_toInt (by omega)]; rfl)
  refine hd_iload_n 1 C dX3_back_0 rfl 1 rfl rfl ?_
  refine hd_i2l 2 C dX3_back_1 rfl k.toInt64 rfl ?_
  refine hd_lconst 3 C dX3_back_2 rfl 0 (by decide) ?_
  refine hd_aload_n 4 C dX3_back_3 rfl 0 rfl rfl ?_
  refine gm_readings 7 C hK dX3_back_4 rfl (nI (N 0 2)) rfl ?_
  refine hd_i2l 8 C dX3_back_7 rfl ((nI (N 0 2)).toInt64) rfl ?_
  refine hd_callSI (rest := []) 11 C hK hZ hA ⟨Nat.zero_le _, Nat.zero_le _⟩ dX3_back_8 rfl kc_X3_77 (m_in k.toInt64 0 ((nI (N 0 2)).toInt64)) ⟨rfl, rfl⟩ ⟨by decide, by decide⟩ rfl rfl (Nat.le_of_ble_eq_true rfl) (fun r8 u8 h8 => ?_)
  obtain ⟨rfl, rfl⟩ := h8
  refine hd_if_neB 14 17 C dX3_back_11 rfl (by decide) (fun h11 => ?_) (fun h11 => ?_)
  · skip
    rw [hin] at h11
    obtain ⟨j, hj_j, rfl⟩ := inB_t h11 (by omega)
    have hc_j : (nI j).toNatClampNeg = j := nI_clamp (by omega)
    refine hd_aload_n 18 C dX3_back_17 rfl 0 rfl rfl ?_
    refine hd_dup 19 C dX3_back_18 rfl rfl ?_
    refine gm_readings 22 C hK dX3_back_19 rfl (nI (N 0 2)) rfl ?_
    refine hd_iload_n 23 C dX3_back_22 rfl 1 rfl rfl ?_
    refine hd_isub 24 C dX3_back_23 rfl (nI ((N 0 2) - j)) (pk_sub (by omega)) ?_
    refine pm_readings 27 C hK dX3_back_24 rfl ?_
    refine hd_aload_n 28 C dX3_back_27 rfl 0 rfl rfl ?_
    refine gm_readings 31 C hK dX3_back_28 rfl (nI ((N 0 2) - j)) rfl ?_
    exact hd_iret C hK dX3_back_31 ⟨by simp [spBack, nxBack, h11, hc_j], by simp [spBack, nxBack, h11, hc_j]⟩
  · skip
    rw [hin] at h11
    refine hd_bipush 16 C dX3_back_14 rfl (-2) (by decide) ?_
    exact hd_iret C hK dX3_back_16 ⟨by simp [spBack, nxBack, h11], by simp [spBack, nxBack, h11]⟩

set_option maxHeartbeats 4000000 in
set_option maxRecDepth 100000 in
theorem m_traced {l : Launch} {D : va_G} {cI cJ cD cS : ClassId} {a : Nat → Nat} {N : Nat → Nat → Nat} {Z : Nat → Nat → Int32} {E : Nat → Nat → Int32} {G : Nat → Nat → Int64} {T : Nat → Nat} (b : Int32)  : ctV l D (ty4 cI cJ cD cS) none (wM cI a) yX3_traced cX3_traced 2 none (rmk 0 0) [.ref (a 0), .int b] (N, Z, E, G, T) (fun (u : sT) => u = (N, uZ Z 0 0 (trc (Z 0 0) b), E, G, T)) := by
  refine ctV_of [(0, .ref (a 0)), (1, .int b)] (by decide) (Nat.le_of_ble_eq_true rfl) rfl ?_
  intro p e s m args below meth c A C hK hZ hA
  refine hd_aload_n 1 C dX3_traced_0 rfl 0 rfl rfl ?_
  refine hd_bipush 3 C dX3_traced_1 rfl (nI 31) (by decide) ?_
  refine hd_aload_n 4 C dX3_traced_3 rfl 0 rfl rfl ?_
  refine gm_traceNow 7 C hK dX3_traced_4 rfl (Z 0 0) rfl ?_
  refine hd_imul 8 C dX3_traced_7 rfl (31 * Z 0 0) rfl ?_
  refine hd_iload_n 9 C dX3_traced_8 rfl 1 rfl rfl ?_
  refine hd_iadd 10 C dX3_traced_9 rfl ((31 * Z 0 0) + b) rfl ?_
  refine pm_traceNow 13 C hK dX3_traced_10 rfl ?_
  exact hd_vret C hK dX3_traced_13 rfl

set_option maxHeartbeats 4000000 in
set_option maxRecDepth 100000 in
theorem x_plainTelling {l : Launch} {D : va_G} {cI cJ cD cS : ClassId} {a : Nat → Nat} {N : Nat → Nat → Nat} {Z : Nat → Nat → Int32} {E : Nat → Nat → Int32} {G : Nat → Nat → Int64} {T : Nat → Nat} {t : Option Nat} (d : Nat) (hd : d < 8)  : ctI l D (ty4 cI cJ cD cS) t (wX cI cJ cD cS a) yX2_plainTelling cX2_plainTelling 2 (some .int) (rmk 1 21) [.ref (a 0), .ref (a (20 + d))] (N, Z, E, G, T) (fun (r : Int32) (u : sT) => u = (N, uZ Z 0 0 (trc (Z 0 0) 1), E, G, T) ∧ r = nI (N 4 d)) := by
  refine ctI_of [(0, .ref (a 0)), (1, .ref (a (20 + d)))] (by decide) (Nat.le_of_ble_eq_true rfl) rfl ?_
  intro p e s m args below meth c A C hK hZ hA
  refine hd_aload_n 1 C dX2_plainTelling_0 rfl 0 rfl rfl ?_
  refine hd_iconst 2 C dX2_plainTelling_1 rfl (nI 1) (by decide) ?_
  refine hd_callVV (rest := []) 5 C hK hZ hA ⟨Nat.zero_le _, Nat.zero_le _⟩ dX2_plainTelling_2 rfl kc_X2_191 (x_leaveNumber (nI 1)) ⟨rfl, rfl⟩ ⟨by decide, by decide⟩ 0 2 rfl rfl rfl rfl rfl (Nat.le_of_ble_eq_true rfl) (fun u2 h2 => ?_)
  subst h2
  refine hd_aload_n 6 C dX2_plainTelling_5 rfl 1 rfl rfl ?_
  refine gd2_step (by omega) 9 C hK dX2_plainTelling_6 rfl (nI (N 4 d)) rfl ?_
  exact hd_iret C hK dX2_plainTelling_9 ⟨rfl, rfl⟩

set_option maxHeartbeats 4000000 in
set_option maxRecDepth 100000 in
theorem x_lateTelling {l : Launch} {D : va_G} {cI cJ cD cS : ClassId} {a : Nat → Nat} {N : Nat → Nat → Nat} {Z : Nat → Nat → Int32} {E : Nat → Nat → Int32} {G : Nat → Nat → Int64} {T : Nat → Nat} {t : Option Nat} (d : Nat) (hd : d < 8)  : ctI l D (ty4 cI cJ cD cS) t (wX cI cJ cD cS a) yX2_lateTelling cX2_lateTelling 2 (some .int) (rmk 2 42) [.ref (a 0), .ref (a (20 + d))] (N, Z, E, G, T) (fun (r : Int32) (u : sT) => u = (N, uZ (uZ Z 0 0 (trc (Z 0 0) 2)) 0 0 (trc (trc (Z 0 0) 2) 1), E, G, T) ∧ r = nI (N 4 d + 100)) := by
  refine ctI_of [(0, .ref (a 0)), (1, .ref (a (20 + d)))] (by decide) (Nat.le_of_ble_eq_true rfl) rfl ?_
  intro p e s m args below meth c A C hK hZ hA
  refine hd_aload_n 1 C dX2_lateTelling_0 rfl 0 rfl rfl ?_
  refine hd_iconst 2 C dX2_lateTelling_1 rfl (nI 2) (by decide) ?_
  refine hd_callVV (rest := []) 5 C hK hZ hA ⟨Nat.zero_le _, Nat.zero_le _⟩ dX2_lateTelling_2 rfl kc_X2_191 (x_leaveNumber (nI 2)) ⟨rfl, rfl⟩ ⟨by decide, by decide⟩ 0 2 rfl rfl rfl rfl rfl (Nat.le_of_ble_eq_true rfl) (fun u2 h2 => ?_)
  subst h2
  refine hd_aload_n 6 C dX2_lateTelling_5 rfl 0 rfl rfl ?_
  refine hd_aload_n 7 C dX2_lateTelling_6 rfl 1 rfl rfl ?_
  refine hd_callVI (rest := []) 10 C hK hZ hA ⟨Nat.zero_le _, Nat.zero_le _⟩ dX2_lateTelling_7 rfl kc_X2_188 (x_plainTelling d (by omega)) ⟨rfl, rfl⟩ ⟨by decide, by decide⟩ 0 2 rfl rfl rfl rfl rfl (Nat.le_of_ble_eq_true rfl) (fun r7 u7 h7 => ?_)
  obtain ⟨rfl, rfl⟩ := h7
  refine hd_bipush 12 C dX2_lateTelling_10 rfl (nI 100) (by decide) ?_
  refine hd_iadd 13 C dX2_lateTelling_12 rfl (nI ((N 4 d) + 100)) (nI_add _ _) ?_
  exact hd_iret C hK dX2_lateTelling_13 ⟨rfl, rfl⟩

set_option maxHeartbeats 4000000 in
set_option maxRecDepth 100000 in
theorem x_cupboardTelling {l : Launch} {D : va_G} {cI cJ cD cS : ClassId} {a : Nat → Nat} {N : Nat → Nat → Nat} {Z : Nat → Nat → Int32} {E : Nat → Nat → Int32} {G : Nat → Nat → Int64} {T : Nat → Nat} {t : Option Nat} (d : Nat) (hd : d < 8)  : ctI l D (ty4 cI cJ cD cS) t (wX cI cJ cD cS a) yX2_cupboardTelling cX2_cupboardTelling 3 (some .int) (rmk 3 63) [.ref (a 0), .ref (a (20 + d))] (N, Z, E, G, T) (fun (r : Int32) (u : sT) => u = (N, uZ (uZ (uZ (uZ Z 0 0 (trc (Z 0 0) 3)) 0 0 (trc (trc (Z 0 0) 3) 2)) 0 0 (trc (trc (trc (Z 0 0) 3) 2) 1)) 0 0 (trc (trc (trc (trc (Z 0 0) 3) 2) 1) 1), E, G, T) ∧ r = nI (N 4 d + 100 + N 4 d)) := by
  refine ctI_of [(0, .ref (a 0)), (1, .ref (a (20 + d)))] (by decide) (Nat.le_of_ble_eq_true rfl) rfl ?_
  intro p e s m args below meth c A C hK hZ hA
  refine hd_aload_n 1 C dX2_cupboardTelling_0 rfl 0 rfl rfl ?_
  refine hd_iconst 2 C dX2_cupboardTelling_1 rfl (nI 3) (by decide) ?_
  refine hd_callVV (rest := []) 5 C hK hZ hA ⟨Nat.zero_le _, Nat.zero_le _⟩ dX2_cupboardTelling_2 rfl kc_X2_191 (x_leaveNumber (nI 3)) ⟨rfl, rfl⟩ ⟨by decide, by decide⟩ 0 2 rfl rfl rfl rfl rfl (Nat.le_of_ble_eq_true rfl) (fun u2 h2 => ?_)
  subst h2
  refine hd_aload_n 6 C dX2_cupboardTelling_5 rfl 0 rfl rfl ?_
  refine hd_aload_n 7 C dX2_cupboardTelling_6 rfl 1 rfl rfl ?_
  refine hd_callVI (rest := []) 10 C hK hZ hA ⟨Nat.zero_le _, Nat.zero_le _⟩ dX2_cupboardTelling_7 rfl kc_X2_181 (x_lateTelling d (by omega)) ⟨rfl, rfl⟩ ⟨by decide, by decide⟩ 0 2 rfl rfl rfl rfl rfl (Nat.le_of_ble_eq_true rfl) (fun r7 u7 h7 => ?_)
  obtain ⟨rfl, rfl⟩ := h7
  refine hd_istore_n 11 C dX2_cupboardTelling_10 rfl [(2, .int (nI (N 4 d + 100))), (0, .ref (a 0)), (1, .ref (a (20 + d)))] rfl (by decide) rfl ?_
  refine hd_iload_n 12 C dX2_cupboardTelling_11 rfl 0 rfl rfl ?_
  refine hd_aload_n 13 C dX2_cupboardTelling_12 rfl 1 rfl rfl ?_
  refine hd_aload_n 14 C dX2_cupboardTelling_13 rfl 2 rfl rfl ?_
  refine hd_callVI (rest := [.int (nI (N 4 d + 100))]) 17 C hK hZ hA ⟨Nat.zero_le _, Nat.zero_le _⟩ dX2_cupboardTelling_14 rfl kc_X2_188 (x_plainTelling d (by omega)) ⟨rfl, rfl⟩ ⟨by decide, by decide⟩ 0 2 rfl rfl rfl rfl rfl (Nat.le_of_ble_eq_true rfl) (fun r14 u14 h14 => ?_)
  obtain ⟨rfl, rfl⟩ := h14
  refine hd_iadd 18 C dX2_cupboardTelling_17 rfl (nI ((N 4 d + 100) + (N 4 d))) (nI_add _ _) ?_
  exact hd_iret C hK dX2_cupboardTelling_18 ⟨rfl, rfl⟩

set_option maxHeartbeats 4000000 in
set_option maxRecDepth 100000 in
theorem x_tell {l : Launch} {D : va_G} {cI cJ cD cS : ClassId} {a : Nat → Nat} {N : Nat → Nat → Nat} {Z : Nat → Nat → Int32} {E : Nat → Nat → Int32} {G : Nat → Nat → Int64} {T : Nat → Nat} {t : Option Nat} (d : Int32) (hI : inv N)  : ctI l D (ty4 cI cJ cD cS) t (wX cI cJ cD cS a) yX2_tell cX2_tell 2 (some .int) (rmk 4 85) [.ref (a 0), .int d] (N, Z, E, G, T) (fun (r : Int32) (u : sT) => u = (N, uZ Z 0 0 (nzTell N (Z 0 0) d), E, G, T) ∧ r = spTell N d) := by
  refine ctI_of [(0, .ref (a 0)), (1, .int d)] (by decide) (Nat.le_of_ble_eq_true rfl) rfl ?_
  intro p e s m args below meth c A C hK hZ hA
  have hR := hI.R
  have hDn := hI.D
  have hQn := hI.Q
  refine hd_aload_n 1 C dX2_tell_0 rfl 0 rfl rfl ?_
  refine hd_iload_n 2 C dX2_tell_1 rfl 1 rfl rfl ?_
  refine hd_callVI (rest := []) 5 C hK hZ hA ⟨Nat.zero_le _, Nat.zero_le _⟩ dX2_tell_2 rfl kc_X2_79 (x_isDoor d hI) ⟨rfl, rfl⟩ ⟨by decide, by decide⟩ 0 2 rfl rfl rfl rfl rfl (Nat.le_of_ble_eq_true rfl) (fun r2 u2 h2 => ?_)
  obtain ⟨rfl, rfl⟩ := h2
  refine hd_if_neB 8 10 C dX2_tell_5 rfl (by decide) (fun h5 => ?_) (fun h5 => ?_)
  · skip
    obtain ⟨j, hj_j, rfl⟩ := inB_t h5 (by omega)
    have hc_j : (nI j).toNatClampNeg = j := nI_clamp (by omega)
    have hdr := hI.door j
    refine hd_aload_n 11 C dX2_tell_10 rfl 0 rfl rfl ?_
    refine gx_doors 14 C hK dX2_tell_11 rfl ?_
    refine hd_iload_n 15 C dX2_tell_14 rfl 1 rfl rfl ?_
    refine alx_doors 16 C hK dX2_tell_15 rfl (by omega) ?_
    refine gd2_kind (by omega) 19 C hK dX2_tell_16 rfl (nI (N 1 j)) rfl ?_
    rcases (show N 1 j = 0 ∨ N 1 j = 1 ∨ N 1 j = 2 by have := (hI.door j).1; omega) with hk | hk | hk
    · skip
      rw [hk]
      refine hd_lookup (off := 47) 66 C dX2_tell_19 (by decide) (by decide) (by decide) ?_
      refine hd_aload_n 67 C dX2_tell_66 rfl 0 rfl rfl ?_
      refine hd_aload_n 68 C dX2_tell_67 rfl 0 rfl rfl ?_
      refine gx_doors 71 C hK dX2_tell_68 rfl ?_
      refine hd_iload_n 72 C dX2_tell_71 rfl 1 rfl rfl ?_
      refine alx_doors 73 C hK dX2_tell_72 rfl (by omega) ?_
      refine hd_callVI (rest := []) 76 C hK hZ hA ⟨Nat.zero_le _, Nat.zero_le _⟩ dX2_tell_73 rfl kc_X2_188 (x_plainTelling j (by omega)) ⟨rfl, rfl⟩ ⟨by decide, by decide⟩ 0 2 rfl rfl rfl rfl rfl (Nat.le_of_ble_eq_true rfl) (fun r73 u73 h73 => ?_)
      obtain ⟨rfl, rfl⟩ := h73
      exact hd_iret C hK dX2_tell_76 ⟨by simp [spTell, nzTell, uZ_uZ, uZ_self, uZ_at, h5, hc_j, hk]; try rfl, by simp [spTell, nzTell, h5, hc_j, hk]; try (congr 1; omega)⟩
    · skip
      rw [hk]
      refine hd_lookup (off := 25) 44 C dX2_tell_19 (by decide) (by decide) (by decide) ?_
      refine hd_aload_n 45 C dX2_tell_44 rfl 0 rfl rfl ?_
      refine hd_aload_n 46 C dX2_tell_45 rfl 0 rfl rfl ?_
      refine gx_doors 49 C hK dX2_tell_46 rfl ?_
      refine hd_iload_n 50 C dX2_tell_49 rfl 1 rfl rfl ?_
      refine alx_doors 51 C hK dX2_tell_50 rfl (by omega) ?_
      refine hd_callVI (rest := []) 54 C hK hZ hA ⟨Nat.zero_le _, Nat.zero_le _⟩ dX2_tell_51 rfl kc_X2_181 (x_lateTelling j (by omega)) ⟨rfl, rfl⟩ ⟨by decide, by decide⟩ 0 2 rfl rfl rfl rfl rfl (Nat.le_of_ble_eq_true rfl) (fun r51 u51 h51 => ?_)
      obtain ⟨rfl, rfl⟩ := h51
      exact hd_iret C hK dX2_tell_54 ⟨by simp [spTell, nzTell, uZ_uZ, uZ_self, uZ_at, h5, hc_j, hk]; try rfl, by simp [spTell, nzTell, h5, hc_j, hk]; try (congr 1; omega)⟩
    · skip
      rw [hk]
      refine hd_lookup (off := 36) 55 C dX2_tell_19 (by decide) (by decide) (by decide) ?_
      refine hd_aload_n 56 C dX2_tell_55 rfl 0 rfl rfl ?_
      refine hd_aload_n 57 C dX2_tell_56 rfl 0 rfl rfl ?_
      refine gx_doors 60 C hK dX2_tell_57 rfl ?_
      refine hd_iload_n 61 C dX2_tell_60 rfl 1 rfl rfl ?_
      refine alx_doors 62 C hK dX2_tell_61 rfl (by omega) ?_
      refine hd_callVI (rest := []) 65 C hK hZ hA ⟨Nat.zero_le _, Nat.zero_le _⟩ dX2_tell_62 rfl kc_X2_185 (x_cupboardTelling j (by omega)) ⟨rfl, rfl⟩ ⟨by decide, by decide⟩ 0 2 rfl rfl rfl rfl rfl (Nat.le_of_ble_eq_true rfl) (fun r62 u62 h62 => ?_)
      obtain ⟨rfl, rfl⟩ := h62
      exact hd_iret C hK dX2_tell_65 ⟨by simp [spTell, nzTell, uZ_uZ, uZ_self, uZ_at, h5, hc_j, hk]; try rfl, by simp [spTell, nzTell, h5, hc_j, hk]; try (congr 1; omega)⟩
  · skip
    refine hd_iconst 9 C dX2_tell_8 rfl (-1) (by decide) ?_
    exact hd_iret C hK dX2_tell_9 ⟨by simp [spTell, nzTell, uZ_uZ, uZ_self, uZ_at, h5]; try rfl, by simp [spTell, nzTell, h5]; try (congr 1; omega)⟩

set_option maxHeartbeats 4000000 in
set_option maxRecDepth 100000 in
theorem m_tell {l : Launch} {D : va_G} {cI cJ cD cS : ClassId} {a : Nat → Nat} {N : Nat → Nat → Nat} {Z : Nat → Nat → Int32} {E : Nat → Nat → Int32} {G : Nat → Nat → Int64} {T : Nat → Nat} (d : Int32) (hI : inv N)  : ctI l D (ty4 cI cJ cD cS) none (wM cI a) yX3_tell cX3_tell 4 (some .int) (rmk 2 46) [.ref (a 0), .int d] (N, Z, E, G, T) (fun (r : Int32) (u : sT) => u = (N, uZ Z 0 0 (nzTell N (Z 0 0) d), E, G, T) ∧ r = spTell N d) := by
  refine ctI_of [(0, .ref (a 0)), (1, .int d)] (by decide) (Nat.le_of_ble_eq_true rfl) rfl ?_
  intro p e s m args below meth c A C hK hZ hA
  have hR := hI.R
  have hDn := hI.D
  have hQn := hI.Q
  refine hd_aload_n 1 C dX3_tell_0 rfl 0 rfl rfl ?_
  refine hd_iload_n 2 C dX3_tell_1 rfl 1 rfl rfl ?_
  refine hd_callVI (rest := []) 5 C hK hZ hA ⟨Nat.zero_le _, Nat.zero_le _⟩ dX3_tell_2 rfl kc_X3_134 (m_noDoor d hI) ⟨rfl, rfl⟩ ⟨by decide, by decide⟩ 0 3 rfl rfl rfl rfl rfl (Nat.le_of_ble_eq_true rfl) (fun r2 u2 h2 => ?_)
  obtain ⟨rfl, rfl⟩ := h2
  refine hd_if_eqB 8 10 C dX3_tell_5 rfl (by decide) (fun h5 => ?_) (fun h5 => ?_)
  · skip
    simp only [Bool.not_eq_true', Bool.not_eq_false'] at h5
    obtain ⟨j, hj_j, rfl⟩ := inB_t h5 (by omega)
    have hc_j : (nI j).toNatClampNeg = j := nI_clamp (by omega)
    have hdr := hI.door j
    have hk3 := hdr.1
    refine hd_aload_n 11 C dX3_tell_10 rfl 0 rfl rfl ?_
    refine gm_kindOf 14 C hK dX3_tell_11 rfl ?_
    refine hd_iload_n 15 C dX3_tell_14 rfl 1 rfl rfl ?_
    refine alm_kindOf 16 C hK dX3_tell_15 rfl (by omega) (nI (N 1 j)) rfl ?_
    refine hd_istore_n 17 C dX3_tell_16 rfl [(2, .int (nI (N 1 j))), (0, .ref (a 0)), (1, .int (nI j))] rfl (by decide) rfl ?_
    refine hd_iload_n 18 C dX3_tell_17 rfl 0 rfl rfl ?_
    refine hd_iconst 19 C dX3_tell_18 rfl (nI 2) (by decide) ?_
    refine hd_icmp_neN 22 27 C dX3_tell_19 rfl (by decide) (by omega) (by omega) (fun h19 => ?_) (fun h19 => ?_)
    · skip
      refine hd_iload_n 28 C dX3_tell_27 rfl 0 rfl rfl ?_
      refine hd_if_leN 31 36 C dX3_tell_28 rfl (by decide) (by omega) (fun h28 => ?_) (fun h28 => ?_)
      · skip
        refine hd_aload_n 37 C dX3_tell_36 rfl 1 rfl rfl ?_
        refine hd_iconst 38 C dX3_tell_37 rfl (nI 1) (by decide) ?_
        refine hd_callVV (rest := []) 41 C hK hZ hA ⟨Nat.zero_le _, Nat.zero_le _⟩ dX3_tell_38 rfl kc_X3_220 (m_traced (nI 1)) ⟨rfl, rfl⟩ ⟨by decide, by decide⟩ 0 3 rfl rfl rfl rfl rfl (Nat.le_of_ble_eq_true rfl) (fun u38 h38 => ?_)
        subst h38
        refine hd_iload_n 42 C dX3_tell_41 rfl 0 rfl rfl ?_
        refine hd_iconst 43 C dX3_tell_42 rfl (nI 2) (by decide) ?_
        refine hd_icmp_neN 46 51 C dX3_tell_43 rfl (by decide) (by omega) (by omega) (fun h43 => ?_) (fun h43 => ?_)
        · skip
          refine hd_aload_n 52 C dX3_tell_51 rfl 1 rfl rfl ?_
          refine gm_stepOf 55 C hK dX3_tell_52 rfl ?_
          refine hd_iload_n 56 C dX3_tell_55 rfl 2 rfl rfl ?_
          refine alm_stepOf 57 C hK dX3_tell_56 rfl (by omega) (nI (N 4 j)) rfl ?_
          refine hd_istore_n 58 C dX3_tell_57 rfl [(3, .int (nI (N 4 j))), (2, .int (nI (N 1 j))), (0, .ref (a 0)), (1, .int (nI j))] rfl (by decide) rfl ?_
          refine hd_iload_n 59 C dX3_tell_58 rfl 1 rfl rfl ?_
          refine hd_if_neN 62 66 C dX3_tell_59 rfl (by decide) (by omega) (fun h59 => ?_) (fun h59 => ?_)
          · skip
            refine hd_iload_n 67 C dX3_tell_66 rfl 1 rfl rfl ?_
            refine hd_iconst 68 C dX3_tell_67 rfl (nI 1) (by decide) ?_
            refine hd_icmp_neN 71 78 C dX3_tell_68 rfl (by decide) (by omega) (by omega) (fun h68 => ?_) (fun h68 => ?_)
            · skip
              refine hd_iconst 79 C dX3_tell_78 rfl (nI 2) (by decide) ?_
              refine hd_iload_n 80 C dX3_tell_79 rfl 0 rfl rfl ?_
              refine hd_imul 81 C dX3_tell_80 rfl (nI (2 * (N 4 j))) (pk_mul _ _) ?_
              refine hd_bipush 83 C dX3_tell_81 rfl (nI 100) (by decide) ?_
              refine hd_iadd 84 C dX3_tell_83 rfl (nI ((2 * (N 4 j)) + 100)) (nI_add _ _) ?_
              exact hd_iret C hK dX3_tell_84 ⟨by first | (exfalso; omega) | (simp [spTell, nzTell, uZ_uZ, uZ_self, uZ_at, h5, hc_j, h19, h28, h43, h59, h68]; try rfl), by first | (exfalso; omega) | (simp [spTell, nzTell, h5, hc_j, h19, h28, h43, h59, h68]; try (congr 1; omega))⟩
            · skip
              refine hd_iload_n 72 C dX3_tell_71 rfl 0 rfl rfl ?_
              refine hd_bipush 74 C dX3_tell_72 rfl (nI 100) (by decide) ?_
              refine hd_iadd 75 C dX3_tell_74 rfl (nI ((N 4 j) + 100)) (nI_add _ _) ?_
              refine hd_goto 84 C dX3_tell_75 (by decide) ?_
              exact hd_iret C hK dX3_tell_84 ⟨by first | (exfalso; omega) | (simp [spTell, nzTell, uZ_uZ, uZ_self, uZ_at, h5, hc_j, h19, h28, h43, h59, h68]; try rfl), by first | (exfalso; omega) | (simp [spTell, nzTell, h5, hc_j, h19, h28, h43, h59, h68]; try (congr 1; omega))⟩
          · skip
            refine hd_iload_n 63 C dX3_tell_62 rfl 0 rfl rfl ?_
            refine hd_goto 84 C dX3_tell_63 (by decide) ?_
            exact hd_iret C hK dX3_tell_84 ⟨by first | (exfalso; omega) | (simp [spTell, nzTell, uZ_uZ, uZ_self, uZ_at, h5, hc_j, h19, h28, h43, h59]; try rfl), by first | (exfalso; omega) | (simp [spTell, nzTell, h5, hc_j, h19, h28, h43, h59]; try (congr 1; omega))⟩
        · skip
          refine hd_aload_n 47 C dX3_tell_46 rfl 1 rfl rfl ?_
          refine hd_iconst 48 C dX3_tell_47 rfl (nI 1) (by decide) ?_
          refine hd_callVV (rest := []) 51 C hK hZ hA ⟨Nat.zero_le _, Nat.zero_le _⟩ dX3_tell_48 rfl kc_X3_220 (m_traced (nI 1)) ⟨rfl, rfl⟩ ⟨by decide, by decide⟩ 0 3 rfl rfl rfl rfl rfl (Nat.le_of_ble_eq_true rfl) (fun u48 h48 => ?_)
          subst h48
          refine hd_aload_n 52 C dX3_tell_51 rfl 1 rfl rfl ?_
          refine gm_stepOf 55 C hK dX3_tell_52 rfl ?_
          refine hd_iload_n 56 C dX3_tell_55 rfl 2 rfl rfl ?_
          refine alm_stepOf 57 C hK dX3_tell_56 rfl (by omega) (nI (N 4 j)) rfl ?_
          refine hd_istore_n 58 C dX3_tell_57 rfl [(3, .int (nI (N 4 j))), (2, .int (nI (N 1 j))), (0, .ref (a 0)), (1, .int (nI j))] rfl (by decide) rfl ?_
          refine hd_iload_n 59 C dX3_tell_58 rfl 1 rfl rfl ?_
          refine hd_if_neN 62 66 C dX3_tell_59 rfl (by decide) (by omega) (fun h59 => ?_) (fun h59 => ?_)
          · skip
            refine hd_iload_n 67 C dX3_tell_66 rfl 1 rfl rfl ?_
            refine hd_iconst 68 C dX3_tell_67 rfl (nI 1) (by decide) ?_
            refine hd_icmp_neN 71 78 C dX3_tell_68 rfl (by decide) (by omega) (by omega) (fun h68 => ?_) (fun h68 => ?_)
            · skip
              refine hd_iconst 79 C dX3_tell_78 rfl (nI 2) (by decide) ?_
              refine hd_iload_n 80 C dX3_tell_79 rfl 0 rfl rfl ?_
              refine hd_imul 81 C dX3_tell_80 rfl (nI (2 * (N 4 j))) (pk_mul _ _) ?_
              refine hd_bipush 83 C dX3_tell_81 rfl (nI 100) (by decide) ?_
              refine hd_iadd 84 C dX3_tell_83 rfl (nI ((2 * (N 4 j)) + 100)) (nI_add _ _) ?_
              exact hd_iret C hK dX3_tell_84 ⟨by first | (exfalso; omega) | (simp [spTell, nzTell, uZ_uZ, uZ_self, uZ_at, h5, hc_j, h19, h28, h43, h59, h68]; try rfl), by first | (exfalso; omega) | (simp [spTell, nzTell, h5, hc_j, h19, h28, h43, h59, h68]; try (congr 1; omega))⟩
            · skip
              refine hd_iload_n 72 C dX3_tell_71 rfl 0 rfl rfl ?_
              refine hd_bipush 74 C dX3_tell_72 rfl (nI 100) (by decide) ?_
              refine hd_iadd 75 C dX3_tell_74 rfl (nI ((N 4 j) + 100)) (nI_add _ _) ?_
              refine hd_goto 84 C dX3_tell_75 (by decide) ?_
              exact hd_iret C hK dX3_tell_84 ⟨by first | (exfalso; omega) | (simp [spTell, nzTell, uZ_uZ, uZ_self, uZ_at, h5, hc_j, h19, h28, h43, h59, h68]; try rfl), by first | (exfalso; omega) | (simp [spTell, nzTell, h5, hc_j, h19, h28, h43, h59, h68]; try (congr 1; omega))⟩
          · skip
            refine hd_iload_n 63 C dX3_tell_62 rfl 0 rfl rfl ?_
            refine hd_goto 84 C dX3_tell_63 (by decide) ?_
            exact hd_iret C hK dX3_tell_84 ⟨by first | (exfalso; omega) | (simp [spTell, nzTell, uZ_uZ, uZ_self, uZ_at, h5, hc_j, h19, h28, h43, h59]; try rfl), by first | (exfalso; omega) | (simp [spTell, nzTell, h5, hc_j, h19, h28, h43, h59]; try (congr 1; omega))⟩
      · skip
        refine hd_aload_n 32 C dX3_tell_31 rfl 1 rfl rfl ?_
        refine hd_iconst 33 C dX3_tell_32 rfl (nI 2) (by decide) ?_
        refine hd_callVV (rest := []) 36 C hK hZ hA ⟨Nat.zero_le _, Nat.zero_le _⟩ dX3_tell_33 rfl kc_X3_220 (m_traced (nI 2)) ⟨rfl, rfl⟩ ⟨by decide, by decide⟩ 0 3 rfl rfl rfl rfl rfl (Nat.le_of_ble_eq_true rfl) (fun u33 h33 => ?_)
        subst h33
        refine hd_aload_n 37 C dX3_tell_36 rfl 1 rfl rfl ?_
        refine hd_iconst 38 C dX3_tell_37 rfl (nI 1) (by decide) ?_
        refine hd_callVV (rest := []) 41 C hK hZ hA ⟨Nat.zero_le _, Nat.zero_le _⟩ dX3_tell_38 rfl kc_X3_220 (m_traced (nI 1)) ⟨rfl, rfl⟩ ⟨by decide, by decide⟩ 0 3 rfl rfl rfl rfl rfl (Nat.le_of_ble_eq_true rfl) (fun u38 h38 => ?_)
        subst h38
        refine hd_iload_n 42 C dX3_tell_41 rfl 0 rfl rfl ?_
        refine hd_iconst 43 C dX3_tell_42 rfl (nI 2) (by decide) ?_
        refine hd_icmp_neN 46 51 C dX3_tell_43 rfl (by decide) (by omega) (by omega) (fun h43 => ?_) (fun h43 => ?_)
        · skip
          refine hd_aload_n 52 C dX3_tell_51 rfl 1 rfl rfl ?_
          refine gm_stepOf 55 C hK dX3_tell_52 rfl ?_
          refine hd_iload_n 56 C dX3_tell_55 rfl 2 rfl rfl ?_
          refine alm_stepOf 57 C hK dX3_tell_56 rfl (by omega) (nI (N 4 j)) rfl ?_
          refine hd_istore_n 58 C dX3_tell_57 rfl [(3, .int (nI (N 4 j))), (2, .int (nI (N 1 j))), (0, .ref (a 0)), (1, .int (nI j))] rfl (by decide) rfl ?_
          refine hd_iload_n 59 C dX3_tell_58 rfl 1 rfl rfl ?_
          refine hd_if_neN 62 66 C dX3_tell_59 rfl (by decide) (by omega) (fun h59 => ?_) (fun h59 => ?_)
          · skip
            refine hd_iload_n 67 C dX3_tell_66 rfl 1 rfl rfl ?_
            refine hd_iconst 68 C dX3_tell_67 rfl (nI 1) (by decide) ?_
            refine hd_icmp_neN 71 78 C dX3_tell_68 rfl (by decide) (by omega) (by omega) (fun h68 => ?_) (fun h68 => ?_)
            · skip
              refine hd_iconst 79 C dX3_tell_78 rfl (nI 2) (by decide) ?_
              refine hd_iload_n 80 C dX3_tell_79 rfl 0 rfl rfl ?_
              refine hd_imul 81 C dX3_tell_80 rfl (nI (2 * (N 4 j))) (pk_mul _ _) ?_
              refine hd_bipush 83 C dX3_tell_81 rfl (nI 100) (by decide) ?_
              refine hd_iadd 84 C dX3_tell_83 rfl (nI ((2 * (N 4 j)) + 100)) (nI_add _ _) ?_
              exact hd_iret C hK dX3_tell_84 ⟨by first | (exfalso; omega) | (simp [spTell, nzTell, uZ_uZ, uZ_self, uZ_at, h5, hc_j, h19, h28, h43, h59, h68]; try rfl), by first | (exfalso; omega) | (simp [spTell, nzTell, h5, hc_j, h19, h28, h43, h59, h68]; try (congr 1; omega))⟩
            · skip
              refine hd_iload_n 72 C dX3_tell_71 rfl 0 rfl rfl ?_
              refine hd_bipush 74 C dX3_tell_72 rfl (nI 100) (by decide) ?_
              refine hd_iadd 75 C dX3_tell_74 rfl (nI ((N 4 j) + 100)) (nI_add _ _) ?_
              refine hd_goto 84 C dX3_tell_75 (by decide) ?_
              exact hd_iret C hK dX3_tell_84 ⟨by first | (exfalso; omega) | (simp [spTell, nzTell, uZ_uZ, uZ_self, uZ_at, h5, hc_j, h19, h28, h43, h59, h68]; try rfl), by first | (exfalso; omega) | (simp [spTell, nzTell, h5, hc_j, h19, h28, h43, h59, h68]; try (congr 1; omega))⟩
          · skip
            refine hd_iload_n 63 C dX3_tell_62 rfl 0 rfl rfl ?_
            refine hd_goto 84 C dX3_tell_63 (by decide) ?_
            exact hd_iret C hK dX3_tell_84 ⟨by first | (exfalso; omega) | (simp [spTell, nzTell, uZ_uZ, uZ_self, uZ_at, h5, hc_j, h19, h28, h43, h59]; try rfl), by first | (exfalso; omega) | (simp [spTell, nzTell, h5, hc_j, h19, h28, h43, h59]; try (congr 1; omega))⟩
        · skip
          refine hd_aload_n 47 C dX3_tell_46 rfl 1 rfl rfl ?_
          refine hd_iconst 48 C dX3_tell_47 rfl (nI 1) (by decide) ?_
          refine hd_callVV (rest := []) 51 C hK hZ hA ⟨Nat.zero_le _, Nat.zero_le _⟩ dX3_tell_48 rfl kc_X3_220 (m_traced (nI 1)) ⟨rfl, rfl⟩ ⟨by decide, by decide⟩ 0 3 rfl rfl rfl rfl rfl (Nat.le_of_ble_eq_true rfl) (fun u48 h48 => ?_)
          subst h48
          refine hd_aload_n 52 C dX3_tell_51 rfl 1 rfl rfl ?_
          refine gm_stepOf 55 C hK dX3_tell_52 rfl ?_
          refine hd_iload_n 56 C dX3_tell_55 rfl 2 rfl rfl ?_
          refine alm_stepOf 57 C hK dX3_tell_56 rfl (by omega) (nI (N 4 j)) rfl ?_
          refine hd_istore_n 58 C dX3_tell_57 rfl [(3, .int (nI (N 4 j))), (2, .int (nI (N 1 j))), (0, .ref (a 0)), (1, .int (nI j))] rfl (by decide) rfl ?_
          refine hd_iload_n 59 C dX3_tell_58 rfl 1 rfl rfl ?_
          refine hd_if_neN 62 66 C dX3_tell_59 rfl (by decide) (by omega) (fun h59 => ?_) (fun h59 => ?_)
          · skip
            refine hd_iload_n 67 C dX3_tell_66 rfl 1 rfl rfl ?_
            refine hd_iconst 68 C dX3_tell_67 rfl (nI 1) (by decide) ?_
            refine hd_icmp_neN 71 78 C dX3_tell_68 rfl (by decide) (by omega) (by omega) (fun h68 => ?_) (fun h68 => ?_)
            · skip
              refine hd_iconst 79 C dX3_tell_78 rfl (nI 2) (by decide) ?_
              refine hd_iload_n 80 C dX3_tell_79 rfl 0 rfl rfl ?_
              refine hd_imul 81 C dX3_tell_80 rfl (nI (2 * (N 4 j))) (pk_mul _ _) ?_
              refine hd_bipush 83 C dX3_tell_81 rfl (nI 100) (by decide) ?_
              refine hd_iadd 84 C dX3_tell_83 rfl (nI ((2 * (N 4 j)) + 100)) (nI_add _ _) ?_
              exact hd_iret C hK dX3_tell_84 ⟨by first | (exfalso; omega) | (simp [spTell, nzTell, uZ_uZ, uZ_self, uZ_at, h5, hc_j, h19, h28, h43, h59, h68]; try rfl), by first | (exfalso; omega) | (simp [spTell, nzTell, h5, hc_j, h19, h28, h43, h59, h68]; try (congr 1; omega))⟩
            · skip
              refine hd_iload_n 72 C dX3_tell_71 rfl 0 rfl rfl ?_
              refine hd_bipush 74 C dX3_tell_72 rfl (nI 100) (by decide) ?_
              refine hd_iadd 75 C dX3_tell_74 rfl (nI ((N 4 j) + 100)) (nI_add _ _) ?_
              refine hd_goto 84 C dX3_tell_75 (by decide) ?_
              exact hd_iret C hK dX3_tell_84 ⟨by first | (exfalso; omega) | (simp [spTell, nzTell, uZ_uZ, uZ_self, uZ_at, h5, hc_j, h19, h28, h43, h59, h68]; try rfl), by first | (exfalso; omega) | (simp [spTell, nzTell, h5, hc_j, h19, h28, h43, h59, h68]; try (congr 1; omega))⟩
          · skip
            refine hd_iload_n 63 C dX3_tell_62 rfl 0 rfl rfl ?_
            refine hd_goto 84 C dX3_tell_63 (by decide) ?_
            exact hd_iret C hK dX3_tell_84 ⟨by first | (exfalso; omega) | (simp [spTell, nzTell, uZ_uZ, uZ_self, uZ_at, h5, hc_j, h19, h28, h43, h59]; try rfl), by first | (exfalso; omega) | (simp [spTell, nzTell, h5, hc_j, h19, h28, h43, h59]; try (congr 1; omega))⟩
    · skip
      refine hd_aload_n 23 C dX3_tell_22 rfl 1 rfl rfl ?_
      refine hd_iconst 24 C dX3_tell_23 rfl (nI 3) (by decide) ?_
      refine hd_callVV (rest := []) 27 C hK hZ hA ⟨Nat.zero_le _, Nat.zero_le _⟩ dX3_tell_24 rfl kc_X3_220 (m_traced (nI 3)) ⟨rfl, rfl⟩ ⟨by decide, by decide⟩ 0 3 rfl rfl rfl rfl rfl (Nat.le_of_ble_eq_true rfl) (fun u24 h24 => ?_)
      subst h24
      refine hd_iload_n 28 C dX3_tell_27 rfl 0 rfl rfl ?_
      refine hd_if_leN 31 36 C dX3_tell_28 rfl (by decide) (by omega) (fun h28 => ?_) (fun h28 => ?_)
      · skip
        refine hd_aload_n 37 C dX3_tell_36 rfl 1 rfl rfl ?_
        refine hd_iconst 38 C dX3_tell_37 rfl (nI 1) (by decide) ?_
        refine hd_callVV (rest := []) 41 C hK hZ hA ⟨Nat.zero_le _, Nat.zero_le _⟩ dX3_tell_38 rfl kc_X3_220 (m_traced (nI 1)) ⟨rfl, rfl⟩ ⟨by decide, by decide⟩ 0 3 rfl rfl rfl rfl rfl (Nat.le_of_ble_eq_true rfl) (fun u38 h38 => ?_)
        subst h38
        refine hd_iload_n 42 C dX3_tell_41 rfl 0 rfl rfl ?_
        refine hd_iconst 43 C dX3_tell_42 rfl (nI 2) (by decide) ?_
        refine hd_icmp_neN 46 51 C dX3_tell_43 rfl (by decide) (by omega) (by omega) (fun h43 => ?_) (fun h43 => ?_)
        · skip
          refine hd_aload_n 52 C dX3_tell_51 rfl 1 rfl rfl ?_
          refine gm_stepOf 55 C hK dX3_tell_52 rfl ?_
          refine hd_iload_n 56 C dX3_tell_55 rfl 2 rfl rfl ?_
          refine alm_stepOf 57 C hK dX3_tell_56 rfl (by omega) (nI (N 4 j)) rfl ?_
          refine hd_istore_n 58 C dX3_tell_57 rfl [(3, .int (nI (N 4 j))), (2, .int (nI (N 1 j))), (0, .ref (a 0)), (1, .int (nI j))] rfl (by decide) rfl ?_
          refine hd_iload_n 59 C dX3_tell_58 rfl 1 rfl rfl ?_
          refine hd_if_neN 62 66 C dX3_tell_59 rfl (by decide) (by omega) (fun h59 => ?_) (fun h59 => ?_)
          · skip
            refine hd_iload_n 67 C dX3_tell_66 rfl 1 rfl rfl ?_
            refine hd_iconst 68 C dX3_tell_67 rfl (nI 1) (by decide) ?_
            refine hd_icmp_neN 71 78 C dX3_tell_68 rfl (by decide) (by omega) (by omega) (fun h68 => ?_) (fun h68 => ?_)
            · skip
              refine hd_iconst 79 C dX3_tell_78 rfl (nI 2) (by decide) ?_
              refine hd_iload_n 80 C dX3_tell_79 rfl 0 rfl rfl ?_
              refine hd_imul 81 C dX3_tell_80 rfl (nI (2 * (N 4 j))) (pk_mul _ _) ?_
              refine hd_bipush 83 C dX3_tell_81 rfl (nI 100) (by decide) ?_
              refine hd_iadd 84 C dX3_tell_83 rfl (nI ((2 * (N 4 j)) + 100)) (nI_add _ _) ?_
              exact hd_iret C hK dX3_tell_84 ⟨by first | (exfalso; omega) | (simp [spTell, nzTell, uZ_uZ, uZ_self, uZ_at, h5, hc_j, h19, h28, h43, h59, h68]; try rfl), by first | (exfalso; omega) | (simp [spTell, nzTell, h5, hc_j, h19, h28, h43, h59, h68]; try (congr 1; omega))⟩
            · skip
              refine hd_iload_n 72 C dX3_tell_71 rfl 0 rfl rfl ?_
              refine hd_bipush 74 C dX3_tell_72 rfl (nI 100) (by decide) ?_
              refine hd_iadd 75 C dX3_tell_74 rfl (nI ((N 4 j) + 100)) (nI_add _ _) ?_
              refine hd_goto 84 C dX3_tell_75 (by decide) ?_
              exact hd_iret C hK dX3_tell_84 ⟨by first | (exfalso; omega) | (simp [spTell, nzTell, uZ_uZ, uZ_self, uZ_at, h5, hc_j, h19, h28, h43, h59, h68]; try rfl), by first | (exfalso; omega) | (simp [spTell, nzTell, h5, hc_j, h19, h28, h43, h59, h68]; try (congr 1; omega))⟩
          · skip
            refine hd_iload_n 63 C dX3_tell_62 rfl 0 rfl rfl ?_
            refine hd_goto 84 C dX3_tell_63 (by decide) ?_
            exact hd_iret C hK dX3_tell_84 ⟨by first | (exfalso; omega) | (simp [spTell, nzTell, uZ_uZ, uZ_self, uZ_at, h5, hc_j, h19, h28, h43, h59]; try rfl), by first | (exfalso; omega) | (simp [spTell, nzTell, h5, hc_j, h19, h28, h43, h59]; try (congr 1; omega))⟩
        · skip
          refine hd_aload_n 47 C dX3_tell_46 rfl 1 rfl rfl ?_
          refine hd_iconst 48 C dX3_tell_47 rfl (nI 1) (by decide) ?_
          refine hd_callVV (rest := []) 51 C hK hZ hA ⟨Nat.zero_le _, Nat.zero_le _⟩ dX3_tell_48 rfl kc_X3_220 (m_traced (nI 1)) ⟨rfl, rfl⟩ ⟨by decide, by decide⟩ 0 3 rfl rfl rfl rfl rfl (Nat.le_of_ble_eq_true rfl) (fun u48 h48 => ?_)
          subst h48
          refine hd_aload_n 52 C dX3_tell_51 rfl 1 rfl rfl ?_
          refine gm_stepOf 55 C hK dX3_tell_52 rfl ?_
          refine hd_iload_n 56 C dX3_tell_55 rfl 2 rfl rfl ?_
          refine alm_stepOf 57 C hK dX3_tell_56 rfl (by omega) (nI (N 4 j)) rfl ?_
          refine hd_istore_n 58 C dX3_tell_57 rfl [(3, .int (nI (N 4 j))), (2, .int (nI (N 1 j))), (0, .ref (a 0)), (1, .int (nI j))] rfl (by decide) rfl ?_
          refine hd_iload_n 59 C dX3_tell_58 rfl 1 rfl rfl ?_
          refine hd_if_neN 62 66 C dX3_tell_59 rfl (by decide) (by omega) (fun h59 => ?_) (fun h59 => ?_)
          · skip
            refine hd_iload_n 67 C dX3_tell_66 rfl 1 rfl rfl ?_
            refine hd_iconst 68 C dX3_tell_67 rfl (nI 1) (by decide) ?_
            refine hd_icmp_neN 71 78 C dX3_tell_68 rfl (by decide) (by omega) (by omega) (fun h68 => ?_) (fun h68 => ?_)
            · skip
              refine hd_iconst 79 C dX3_tell_78 rfl (nI 2) (by decide) ?_
              refine hd_iload_n 80 C dX3_tell_79 rfl 0 rfl rfl ?_
              refine hd_imul 81 C dX3_tell_80 rfl (nI (2 * (N 4 j))) (pk_mul _ _) ?_
              refine hd_bipush 83 C dX3_tell_81 rfl (nI 100) (by decide) ?_
              refine hd_iadd 84 C dX3_tell_83 rfl (nI ((2 * (N 4 j)) + 100)) (nI_add _ _) ?_
              exact hd_iret C hK dX3_tell_84 ⟨by first | (exfalso; omega) | (simp [spTell, nzTell, uZ_uZ, uZ_self, uZ_at, h5, hc_j, h19, h28, h43, h59, h68]; try rfl), by first | (exfalso; omega) | (simp [spTell, nzTell, h5, hc_j, h19, h28, h43, h59, h68]; try (congr 1; omega))⟩
            · skip
              refine hd_iload_n 72 C dX3_tell_71 rfl 0 rfl rfl ?_
              refine hd_bipush 74 C dX3_tell_72 rfl (nI 100) (by decide) ?_
              refine hd_iadd 75 C dX3_tell_74 rfl (nI ((N 4 j) + 100)) (nI_add _ _) ?_
              refine hd_goto 84 C dX3_tell_75 (by decide) ?_
              exact hd_iret C hK dX3_tell_84 ⟨by first | (exfalso; omega) | (simp [spTell, nzTell, uZ_uZ, uZ_self, uZ_at, h5, hc_j, h19, h28, h43, h59, h68]; try rfl), by first | (exfalso; omega) | (simp [spTell, nzTell, h5, hc_j, h19, h28, h43, h59, h68]; try (congr 1; omega))⟩
          · skip
            refine hd_iload_n 63 C dX3_tell_62 rfl 0 rfl rfl ?_
            refine hd_goto 84 C dX3_tell_63 (by decide) ?_
            exact hd_iret C hK dX3_tell_84 ⟨by first | (exfalso; omega) | (simp [spTell, nzTell, uZ_uZ, uZ_self, uZ_at, h5, hc_j, h19, h28, h43, h59]; try rfl), by first | (exfalso; omega) | (simp [spTell, nzTell, h5, hc_j, h19, h28, h43, h59]; try (congr 1; omega))⟩
      · skip
        refine hd_aload_n 32 C dX3_tell_31 rfl 1 rfl rfl ?_
        refine hd_iconst 33 C dX3_tell_32 rfl (nI 2) (by decide) ?_
        refine hd_callVV (rest := []) 36 C hK hZ hA ⟨Nat.zero_le _, Nat.zero_le _⟩ dX3_tell_33 rfl kc_X3_220 (m_traced (nI 2)) ⟨rfl, rfl⟩ ⟨by decide, by decide⟩ 0 3 rfl rfl rfl rfl rfl (Nat.le_of_ble_eq_true rfl) (fun u33 h33 => ?_)
        subst h33
        refine hd_aload_n 37 C dX3_tell_36 rfl 1 rfl rfl ?_
        refine hd_iconst 38 C dX3_tell_37 rfl (nI 1) (by decide) ?_
        refine hd_callVV (rest := []) 41 C hK hZ hA ⟨Nat.zero_le _, Nat.zero_le _⟩ dX3_tell_38 rfl kc_X3_220 (m_traced (nI 1)) ⟨rfl, rfl⟩ ⟨by decide, by decide⟩ 0 3 rfl rfl rfl rfl rfl (Nat.le_of_ble_eq_true rfl) (fun u38 h38 => ?_)
        subst h38
        refine hd_iload_n 42 C dX3_tell_41 rfl 0 rfl rfl ?_
        refine hd_iconst 43 C dX3_tell_42 rfl (nI 2) (by decide) ?_
        refine hd_icmp_neN 46 51 C dX3_tell_43 rfl (by decide) (by omega) (by omega) (fun h43 => ?_) (fun h43 => ?_)
        · skip
          refine hd_aload_n 52 C dX3_tell_51 rfl 1 rfl rfl ?_
          refine gm_stepOf 55 C hK dX3_tell_52 rfl ?_
          refine hd_iload_n 56 C dX3_tell_55 rfl 2 rfl rfl ?_
          refine alm_stepOf 57 C hK dX3_tell_56 rfl (by omega) (nI (N 4 j)) rfl ?_
          refine hd_istore_n 58 C dX3_tell_57 rfl [(3, .int (nI (N 4 j))), (2, .int (nI (N 1 j))), (0, .ref (a 0)), (1, .int (nI j))] rfl (by decide) rfl ?_
          refine hd_iload_n 59 C dX3_tell_58 rfl 1 rfl rfl ?_
          refine hd_if_neN 62 66 C dX3_tell_59 rfl (by decide) (by omega) (fun h59 => ?_) (fun h59 => ?_)
          · skip
            refine hd_iload_n 67 C dX3_tell_66 rfl 1 rfl rfl ?_
            refine hd_iconst 68 C dX3_tell_67 rfl (nI 1) (by decide) ?_
            refine hd_icmp_neN 71 78 C dX3_tell_68 rfl (by decide) (by omega) (by omega) (fun h68 => ?_) (fun h68 => ?_)
            · skip
              refine hd_iconst 79 C dX3_tell_78 rfl (nI 2) (by decide) ?_
              refine hd_iload_n 80 C dX3_tell_79 rfl 0 rfl rfl ?_
              refine hd_imul 81 C dX3_tell_80 rfl (nI (2 * (N 4 j))) (pk_mul _ _) ?_
              refine hd_bipush 83 C dX3_tell_81 rfl (nI 100) (by decide) ?_
              refine hd_iadd 84 C dX3_tell_83 rfl (nI ((2 * (N 4 j)) + 100)) (nI_add _ _) ?_
              exact hd_iret C hK dX3_tell_84 ⟨by first | (exfalso; omega) | (simp [spTell, nzTell, uZ_uZ, uZ_self, uZ_at, h5, hc_j, h19, h28, h43, h59, h68]; try rfl), by first | (exfalso; omega) | (simp [spTell, nzTell, h5, hc_j, h19, h28, h43, h59, h68]; try (congr 1; omega))⟩
            · skip
              refine hd_iload_n 72 C dX3_tell_71 rfl 0 rfl rfl ?_
              refine hd_bipush 74 C dX3_tell_72 rfl (nI 100) (by decide) ?_
              refine hd_iadd 75 C dX3_tell_74 rfl (nI ((N 4 j) + 100)) (nI_add _ _) ?_
              refine hd_goto 84 C dX3_tell_75 (by decide) ?_
              exact hd_iret C hK dX3_tell_84 ⟨by first | (exfalso; omega) | (simp [spTell, nzTell, uZ_uZ, uZ_self, uZ_at, h5, hc_j, h19, h28, h43, h59, h68]; try rfl), by first | (exfalso; omega) | (simp [spTell, nzTell, h5, hc_j, h19, h28, h43, h59, h68]; try (congr 1; omega))⟩
          · skip
            refine hd_iload_n 63 C dX3_tell_62 rfl 0 rfl rfl ?_
            refine hd_goto 84 C dX3_tell_63 (by decide) ?_
            exact hd_iret C hK dX3_tell_84 ⟨by first | (exfalso; omega) | (simp [spTell, nzTell, uZ_uZ, uZ_self, uZ_at, h5, hc_j, h19, h28, h43, h59]; try rfl), by first | (exfalso; omega) | (simp [spTell, nzTell, h5, hc_j, h19, h28, h43, h59]; try (congr 1; omega))⟩
        · skip
          refine hd_aload_n 47 C dX3_tell_46 rfl 1 rfl rfl ?_
          refine hd_iconst 48 C dX3_tell_47 rfl (nI 1) (by decide) ?_
          refine hd_callVV (rest := []) 51 C hK hZ hA ⟨Nat.zero_le _, Nat.zero_le _⟩ dX3_tell_48 rfl kc_X3_220 (m_traced (nI 1)) ⟨rfl, rfl⟩ ⟨by decide, by decide⟩ 0 3 rfl rfl rfl rfl rfl (Nat.le_of_ble_eq_true rfl) (fun u48 h48 => ?_)
          subst h48
          refine hd_aload_n 52 C dX3_tell_51 rfl 1 rfl rfl ?_
          refine gm_stepOf 55 C hK dX3_tell_52 rfl ?_
          refine hd_iload_n 56 C dX3_tell_55 rfl 2 rfl rfl ?_
          refine alm_stepOf 57 C hK dX3_tell_56 rfl (by omega) (nI (N 4 j)) rfl ?_
          refine hd_istore_n 58 C dX3_tell_57 rfl [(3, .int (nI (N 4 j))), (2, .int (nI (N 1 j))), (0, .ref (a 0)), (1, .int (nI j))] rfl (by decide) rfl ?_
          refine hd_iload_n 59 C dX3_tell_58 rfl 1 rfl rfl ?_
          refine hd_if_neN 62 66 C dX3_tell_59 rfl (by decide) (by omega) (fun h59 => ?_) (fun h59 => ?_)
          · skip
            refine hd_iload_n 67 C dX3_tell_66 rfl 1 rfl rfl ?_
            refine hd_iconst 68 C dX3_tell_67 rfl (nI 1) (by decide) ?_
            refine hd_icmp_neN 71 78 C dX3_tell_68 rfl (by decide) (by omega) (by omega) (fun h68 => ?_) (fun h68 => ?_)
            · skip
              refine hd_iconst 79 C dX3_tell_78 rfl (nI 2) (by decide) ?_
              refine hd_iload_n 80 C dX3_tell_79 rfl 0 rfl rfl ?_
              refine hd_imul 81 C dX3_tell_80 rfl (nI (2 * (N 4 j))) (pk_mul _ _) ?_
              refine hd_bipush 83 C dX3_tell_81 rfl (nI 100) (by decide) ?_
              refine hd_iadd 84 C dX3_tell_83 rfl (nI ((2 * (N 4 j)) + 100)) (nI_add _ _) ?_
              exact hd_iret C hK dX3_tell_84 ⟨by first | (exfalso; omega) | (simp [spTell, nzTell, uZ_uZ, uZ_self, uZ_at, h5, hc_j, h19, h28, h43, h59, h68]; try rfl), by first | (exfalso; omega) | (simp [spTell, nzTell, h5, hc_j, h19, h28, h43, h59, h68]; try (congr 1; omega))⟩
            · skip
              refine hd_iload_n 72 C dX3_tell_71 rfl 0 rfl rfl ?_
              refine hd_bipush 74 C dX3_tell_72 rfl (nI 100) (by decide) ?_
              refine hd_iadd 75 C dX3_tell_74 rfl (nI ((N 4 j) + 100)) (nI_add _ _) ?_
              refine hd_goto 84 C dX3_tell_75 (by decide) ?_
              exact hd_iret C hK dX3_tell_84 ⟨by first | (exfalso; omega) | (simp [spTell, nzTell, uZ_uZ, uZ_self, uZ_at, h5, hc_j, h19, h28, h43, h59, h68]; try rfl), by first | (exfalso; omega) | (simp [spTell, nzTell, h5, hc_j, h19, h28, h43, h59, h68]; try (congr 1; omega))⟩
          · skip
            refine hd_iload_n 63 C dX3_tell_62 rfl 0 rfl rfl ?_
            refine hd_goto 84 C dX3_tell_63 (by decide) ?_
            exact hd_iret C hK dX3_tell_84 ⟨by first | (exfalso; omega) | (simp [spTell, nzTell, uZ_uZ, uZ_self, uZ_at, h5, hc_j, h19, h28, h43, h59]; try rfl), by first | (exfalso; omega) | (simp [spTell, nzTell, h5, hc_j, h19, h28, h43, h59]; try (congr 1; omega))⟩
  · skip
    simp only [Bool.not_eq_true', Bool.not_eq_false'] at h5
    refine hd_iconst 9 C dX3_tell_8 rfl (-1) (by decide) ?_
    exact hd_iret C hK dX3_tell_9 ⟨by first | (exfalso; omega) | (simp [spTell, nzTell, uZ_uZ, uZ_self, uZ_at, h5]; try rfl), by first | (exfalso; omega) | (simp [spTell, nzTell, h5]; try (congr 1; omega))⟩

set_option maxHeartbeats 4000000 in
set_option maxRecDepth 100000 in
theorem x_knock {l : Launch} {D : va_G} {cI cJ cD cS : ClassId} {a : Nat → Nat} {N : Nat → Nat → Nat} {Z : Nat → Nat → Int32} {E : Nat → Nat → Int32} {G : Nat → Nat → Int64} {T : Nat → Nat} {t : Option Nat} (d : Int32) (hI : inv N)  : ctI l D (ty4 cI cJ cD cS) t (wX cI cJ cD cS a) yX2_knock cX2_knock 3 (some .int) (rmk 1 21) [.ref (a 0), .int d] (N, Z, E, G, T) (fun (r : Int32) (u : sT) => u = (N, uZ Z 0 0 (nzKnock N (Z 0 0) d), E, G, T) ∧ r = spKnock N d) := by
  refine ctI_of [(0, .ref (a 0)), (1, .int d)] (by decide) (Nat.le_of_ble_eq_true rfl) rfl ?_
  intro p e s m args below meth c A C hK hZ hA
  have hR := hI.R
  have hDn := hI.D
  have hQn := hI.Q
  refine hd_aload_n 1 C dX2_knock_0 rfl 0 rfl rfl ?_
  refine hd_iload_n 2 C dX2_knock_1 rfl 1 rfl rfl ?_
  refine hd_callVI (rest := []) 5 C hK hZ hA ⟨Nat.zero_le _, Nat.zero_le _⟩ dX2_knock_2 rfl kc_X2_79 (x_isDoor d hI) ⟨rfl, rfl⟩ ⟨by decide, by decide⟩ 0 2 rfl rfl rfl rfl rfl (Nat.le_of_ble_eq_true rfl) (fun r2 u2 h2 => ?_)
  obtain ⟨rfl, rfl⟩ := h2
  refine hd_if_neB 8 10 C dX2_knock_5 rfl (by decide) (fun h5 => ?_) (fun h5 => ?_)
  · skip
    obtain ⟨j, hj_j, rfl⟩ := inB_t h5 (by omega)
    have hc_j : (nI j).toNatClampNeg = j := nI_clamp (by omega)
    have hk3 := (hI.door j).1
    refine hd_aload_n 11 C dX2_knock_10 rfl 0 rfl rfl ?_
    refine gx_doors 14 C hK dX2_knock_11 rfl ?_
    refine hd_iload_n 15 C dX2_knock_14 rfl 1 rfl rfl ?_
    refine alx_doors 16 C hK dX2_knock_15 rfl (by omega) ?_
    refine gd2_kind (by omega) 19 C hK dX2_knock_16 rfl (nI (N 1 j)) rfl ?_
    refine hd_iconst 20 C dX2_knock_19 rfl (nI 2) (by decide) ?_
    refine hd_icmp_neN 23 27 C dX2_knock_20 rfl (by decide) (by omega) (by omega) (fun h20 => ?_) (fun h20 => ?_)
    · skip
      refine hd_iconst 28 C dX2_knock_27 rfl (nI 0) (by decide) ?_
      refine hd_istore_n 29 C dX2_knock_28 rfl [(2, .int (nI 0)), (0, .ref (a 0)), (1, .int (nI j))] rfl (by decide) rfl ?_
      refine hd_aload_n 30 C dX2_knock_29 rfl 1 rfl rfl ?_
      refine hd_iload_n 31 C dX2_knock_30 rfl 0 rfl rfl ?_
      refine hd_if_eq 34 38 C dX2_knock_31 rfl (by decide) (fun _ => ?_) (fun q => absurd (by decide) q)
      refine hd_iconst 39 C dX2_knock_38 rfl (nI 4) (by decide) ?_
      refine hd_callVV (rest := []) 42 C hK hZ hA ⟨Nat.zero_le _, Nat.zero_le _⟩ dX2_knock_39 rfl kc_X2_191 (x_leaveNumber (nI 4)) ⟨rfl, rfl⟩ ⟨by decide, by decide⟩ 0 2 rfl rfl rfl rfl rfl (Nat.le_of_ble_eq_true rfl) (fun u39 h39 => ?_)
      subst h39
      refine hd_iload_n 43 C dX2_knock_42 rfl 0 rfl rfl ?_
      refine hd_if_eq 46 51 C dX2_knock_43 rfl (by decide) (fun _ => ?_) (fun q => absurd (by decide) q)
      refine hd_iload_n 52 C dX2_knock_51 rfl 2 rfl rfl ?_
      exact hd_iret C hK dX2_knock_52 ⟨by simp [spKnock, nzKnock, uZ_self, h5, hc_j, h20]; try rfl, by simp [spKnock, nzKnock, h5, hc_j, h20]; try rfl⟩
    · skip
      refine hd_iconst 24 C dX2_knock_23 rfl (nI 1) (by decide) ?_
      refine hd_goto 28 C dX2_knock_24 (by decide) ?_
      refine hd_istore_n 29 C dX2_knock_28 rfl [(2, .int (nI 1)), (0, .ref (a 0)), (1, .int (nI j))] rfl (by decide) rfl ?_
      refine hd_aload_n 30 C dX2_knock_29 rfl 1 rfl rfl ?_
      refine hd_iload_n 31 C dX2_knock_30 rfl 0 rfl rfl ?_
      refine hd_if_eq 34 38 C dX2_knock_31 rfl (by decide) (fun q => absurd q (by decide)) (fun _ => ?_)
      refine hd_iconst 35 C dX2_knock_34 rfl (nI 5) (by decide) ?_
      refine hd_goto 39 C dX2_knock_35 (by decide) ?_
      refine hd_callVV (rest := []) 42 C hK hZ hA ⟨Nat.zero_le _, Nat.zero_le _⟩ dX2_knock_39 rfl kc_X2_191 (x_leaveNumber (nI 5)) ⟨rfl, rfl⟩ ⟨by decide, by decide⟩ 0 2 rfl rfl rfl rfl rfl (Nat.le_of_ble_eq_true rfl) (fun u39 h39 => ?_)
      subst h39
      refine hd_iload_n 43 C dX2_knock_42 rfl 0 rfl rfl ?_
      refine hd_if_eq 46 51 C dX2_knock_43 rfl (by decide) (fun q => absurd q (by decide)) (fun _ => ?_)
      refine hd_bipush 48 C dX2_knock_46 rfl (nI 60) (by decide) ?_
      refine hd_goto 52 C dX2_knock_48 (by decide) ?_
      exact hd_iret C hK dX2_knock_52 ⟨by simp [spKnock, nzKnock, uZ_self, h5, hc_j, h20]; try rfl, by simp [spKnock, nzKnock, h5, hc_j, h20]; try rfl⟩
  · skip
    refine hd_iconst 9 C dX2_knock_8 rfl (-1) (by decide) ?_
    exact hd_iret C hK dX2_knock_9 ⟨by simp [spKnock, nzKnock, uZ_self, h5]; try rfl, by simp [spKnock, nzKnock, h5]; try rfl⟩

set_option maxHeartbeats 4000000 in
set_option maxRecDepth 100000 in
theorem m_knock {l : Launch} {D : va_G} {cI cJ cD cS : ClassId} {a : Nat → Nat} {N : Nat → Nat → Nat} {Z : Nat → Nat → Int32} {E : Nat → Nat → Int32} {G : Nat → Nat → Int64} {T : Nat → Nat} (d : Int32) (hI : inv N)  : ctI l D (ty4 cI cJ cD cS) none (wM cI a) yX3_knock cX3_knock 2 (some .int) (rmk 2 46) [.ref (a 0), .int d] (N, Z, E, G, T) (fun (r : Int32) (u : sT) => u = (N, uZ Z 0 0 (nzKnock N (Z 0 0) d), E, G, T) ∧ r = spKnock N d) := by
  refine ctI_of [(0, .ref (a 0)), (1, .int d)] (by decide) (Nat.le_of_ble_eq_true rfl) rfl ?_
  intro p e s m args below meth c A C hK hZ hA
  have hR := hI.R
  have hDn := hI.D
  have hQn := hI.Q
  refine hd_aload_n 1 C dX3_knock_0 rfl 0 rfl rfl ?_
  refine hd_iload_n 2 C dX3_knock_1 rfl 1 rfl rfl ?_
  refine hd_callVI (rest := []) 5 C hK hZ hA ⟨Nat.zero_le _, Nat.zero_le _⟩ dX3_knock_2 rfl kc_X3_134 (m_noDoor d hI) ⟨rfl, rfl⟩ ⟨by decide, by decide⟩ 0 3 rfl rfl rfl rfl rfl (Nat.le_of_ble_eq_true rfl) (fun r2 u2 h2 => ?_)
  obtain ⟨rfl, rfl⟩ := h2
  refine hd_if_eqB 8 10 C dX3_knock_5 rfl (by decide) (fun h5 => ?_) (fun h5 => ?_)
  · skip
    simp only [Bool.not_eq_true', Bool.not_eq_false'] at h5
    obtain ⟨j, hj_j, rfl⟩ := inB_t h5 (by omega)
    have hc_j : (nI j).toNatClampNeg = j := nI_clamp (by omega)
    have hk3 := (hI.door j).1
    refine hd_aload_n 11 C dX3_knock_10 rfl 0 rfl rfl ?_
    refine hd_aload_n 12 C dX3_knock_11 rfl 0 rfl rfl ?_
    refine gm_kindOf 15 C hK dX3_knock_12 rfl ?_
    refine hd_iload_n 16 C dX3_knock_15 rfl 1 rfl rfl ?_
    refine alm_kindOf 17 C hK dX3_knock_16 rfl (by omega) (nI (N 1 j)) rfl ?_
    refine hd_iconst 18 C dX3_knock_17 rfl (nI 2) (by decide) ?_
    refine hd_icmp_neN 21 25 C dX3_knock_18 rfl (by decide) (by omega) (by omega) (fun h18 => ?_) (fun h18 => ?_)
    · skip
      refine hd_iconst 26 C dX3_knock_25 rfl (nI 4) (by decide) ?_
      refine hd_callVV (rest := []) 29 C hK hZ hA ⟨Nat.zero_le _, Nat.zero_le _⟩ dX3_knock_26 rfl kc_X3_220 (m_traced (nI 4)) ⟨rfl, rfl⟩ ⟨by decide, by decide⟩ 0 3 rfl rfl rfl rfl rfl (Nat.le_of_ble_eq_true rfl) (fun u26 h26 => ?_)
      subst h26
      refine hd_aload_n 30 C dX3_knock_29 rfl 0 rfl rfl ?_
      refine gm_kindOf 33 C hK dX3_knock_30 rfl ?_
      refine hd_iload_n 34 C dX3_knock_33 rfl 1 rfl rfl ?_
      refine alm_kindOf 35 C hK dX3_knock_34 rfl (by omega) (nI (N 1 j)) rfl ?_
      refine hd_iconst 36 C dX3_knock_35 rfl (nI 2) (by decide) ?_
      refine hd_icmp_neN 39 44 C dX3_knock_36 rfl (by decide) (by omega) (by omega) (fun h36 => ?_) (fun h36 => ?_)
      · skip
        refine hd_iload_n 45 C dX3_knock_44 rfl 1 rfl rfl ?_
        exact hd_iret C hK dX3_knock_45 ⟨by first | (exfalso; omega) | (simp [spKnock, nzKnock, uZ_self, h5, hc_j, h18, h36]; try rfl), by first | (exfalso; omega) | (simp [spKnock, nzKnock, h5, hc_j, h18, h36]; try rfl)⟩
      · skip
        refine hd_bipush 41 C dX3_knock_39 rfl (nI 60) (by decide) ?_
        refine hd_goto 45 C dX3_knock_41 (by decide) ?_
        exact hd_iret C hK dX3_knock_45 ⟨by first | (exfalso; omega) | (simp [spKnock, nzKnock, uZ_self, h5, hc_j, h18, h36]; try rfl), by first | (exfalso; omega) | (simp [spKnock, nzKnock, h5, hc_j, h18, h36]; try rfl)⟩
    · skip
      refine hd_iconst 22 C dX3_knock_21 rfl (nI 5) (by decide) ?_
      refine hd_goto 26 C dX3_knock_22 (by decide) ?_
      refine hd_callVV (rest := []) 29 C hK hZ hA ⟨Nat.zero_le _, Nat.zero_le _⟩ dX3_knock_26 rfl kc_X3_220 (m_traced (nI 5)) ⟨rfl, rfl⟩ ⟨by decide, by decide⟩ 0 3 rfl rfl rfl rfl rfl (Nat.le_of_ble_eq_true rfl) (fun u26 h26 => ?_)
      subst h26
      refine hd_aload_n 30 C dX3_knock_29 rfl 0 rfl rfl ?_
      refine gm_kindOf 33 C hK dX3_knock_30 rfl ?_
      refine hd_iload_n 34 C dX3_knock_33 rfl 1 rfl rfl ?_
      refine alm_kindOf 35 C hK dX3_knock_34 rfl (by omega) (nI (N 1 j)) rfl ?_
      refine hd_iconst 36 C dX3_knock_35 rfl (nI 2) (by decide) ?_
      refine hd_icmp_neN 39 44 C dX3_knock_36 rfl (by decide) (by omega) (by omega) (fun h36 => ?_) (fun h36 => ?_)
      · skip
        refine hd_iload_n 45 C dX3_knock_44 rfl 1 rfl rfl ?_
        exact hd_iret C hK dX3_knock_45 ⟨by first | (exfalso; omega) | (simp [spKnock, nzKnock, uZ_self, h5, hc_j, h18, h36]; try rfl), by first | (exfalso; omega) | (simp [spKnock, nzKnock, h5, hc_j, h18, h36]; try rfl)⟩
      · skip
        refine hd_bipush 41 C dX3_knock_39 rfl (nI 60) (by decide) ?_
        refine hd_goto 45 C dX3_knock_41 (by decide) ?_
        exact hd_iret C hK dX3_knock_45 ⟨by first | (exfalso; omega) | (simp [spKnock, nzKnock, uZ_self, h5, hc_j, h18, h36]; try rfl), by first | (exfalso; omega) | (simp [spKnock, nzKnock, h5, hc_j, h18, h36]; try rfl)⟩
  · skip
    simp only [Bool.not_eq_true', Bool.not_eq_false'] at h5
    refine hd_iconst 9 C dX3_knock_8 rfl (-1) (by decide) ?_
    exact hd_iret C hK dX3_knock_9 ⟨by first | (exfalso; omega) | (simp [spKnock, nzKnock, uZ_self, h5]; try rfl), by first | (exfalso; omega) | (simp [spKnock, nzKnock, h5]; try rfl)⟩

set_option maxHeartbeats 4000000 in
set_option maxRecDepth 100000 in
theorem x_as {l : Launch} {D : va_G} {cI cJ cD cS : ClassId} {a : Nat → Nat} {N : Nat → Nat → Nat} {Z : Nat → Nat → Int32} {E : Nat → Nat → Int32} {G : Nat → Nat → Int64} {T : Nat → Nat} {t : Option Nat} (d k : Int32) (hI : inv N)  : ctI l D (ty4 cI cJ cD cS) t (wX cI cJ cD cS a) yX2_as cX2_as 3 (some .int) (rmk 1 21) [.ref (a 0), .int d, .int k] (N, Z, E, G, T) (fun (r : Int32) (u : sT) => u = (N, uZ Z 0 1 (fzAs N d k), E, G, T) ∧ r = spAs N d k) := by
  refine ctI_of [(0, .ref (a 0)), (1, .int d), (2, .int k)] (by decide) (Nat.le_of_ble_eq_true rfl) rfl ?_
  intro p e s m args below meth c A C hK hZ hA
  have hR := hI.R
  have hDn := hI.D
  have hQn := hI.Q
  refine hd_aload_n 1 C dX2_as_0 rfl 0 rfl rfl ?_
  refine hd_iconst 2 C dX2_as_1 rfl (nI 0) (by decide) ?_
  refine px_latestFault 5 C hK dX2_as_2 rfl ?_
  refine hd_aload_n 6 C dX2_as_5 rfl 0 rfl rfl ?_
  refine hd_iload_n 7 C dX2_as_6 rfl 1 rfl rfl ?_
  refine hd_callVI (rest := []) 10 C hK hZ hA ⟨Nat.zero_le _, Nat.zero_le _⟩ dX2_as_7 rfl kc_X2_79 (x_isDoor d hI) ⟨rfl, rfl⟩ ⟨by decide, by decide⟩ 0 2 rfl rfl rfl rfl rfl (Nat.le_of_ble_eq_true rfl) (fun r7 u7 h7 => ?_)
  obtain ⟨rfl, rfl⟩ := h7
  refine hd_if_neB 13 15 C dX2_as_10 rfl (by decide) (fun h10 => ?_) (fun h10 => ?_)
  · skip
    obtain ⟨j, hj_j, rfl⟩ := inB_t h10 (by omega)
    have hc_j : (nI j).toNatClampNeg = j := nI_clamp (by omega)
    have hk3 := (hI.door j).1
    refine hd_iload_n 16 C dX2_as_15 rfl 2 rfl rfl ?_
    refine hd_if_lt 19 24 C dX2_as_16 rfl (by decide) (fun h16 => ?_) (fun h16 => ?_)
    · skip
      have hb : inB k 3 = false := inB_neg h16
      refine hd_bipush 26 C dX2_as_24 rfl (-2) (by decide) ?_
      exact hd_iret C hK dX2_as_26 ⟨by simp [spAs, fzAs, uZ_uZ, h10, hc_j, h16, hb]; try rfl, by simp [spAs, fzAs, h10, hc_j, h16, hb]; try rfl⟩
    · skip
      refine hd_iload_n 20 C dX2_as_19 rfl 2 rfl rfl ?_
      refine hd_iconst 21 C dX2_as_20 rfl (nI 3) (by decide) ?_
      refine hd_icmp_lt 24 27 C dX2_as_21 rfl (by decide) (fun h21 => ?_) (fun h21 => ?_)
      · skip
        have hb := inB_lt (n := 3) (by decide) h16 h21
        obtain ⟨k2, hj_k2, rfl⟩ := inB_t hb (by omega)
        have hc_k2 : (nI k2).toNatClampNeg = k2 := nI_clamp (by omega)
        refine hd_aload_n 28 C dX2_as_27 rfl 0 rfl rfl ?_
        refine gx_doors 31 C hK dX2_as_28 rfl ?_
        refine hd_iload_n 32 C dX2_as_31 rfl 1 rfl rfl ?_
        refine alx_doors 33 C hK dX2_as_32 rfl (by omega) ?_
        refine gd2_kind (by omega) 36 C hK dX2_as_33 rfl (nI (N 1 j)) rfl ?_
        refine hd_iload_n 37 C dX2_as_36 rfl 2 rfl rfl ?_
        refine hd_icmp_ltN 40 44 C dX2_as_37 rfl (by decide) (by omega) (by omega) (fun h37 => ?_) (fun h37 => ?_)
        · skip
          have hle : ¬ k2 ≤ N 1 j := by omega
          refine hd_aload_n 45 C dX2_as_44 rfl 0 rfl rfl ?_
          refine hd_iconst 46 C dX2_as_45 rfl (nI 2) (by decide) ?_
          refine hd_callVI (rest := []) 49 C hK hZ hA ⟨Nat.zero_le _, Nat.zero_le _⟩ dX2_as_46 rfl kc_X2_64 (x_faulted (nI 2)) ⟨rfl, rfl⟩ ⟨by decide, by decide⟩ 0 2 rfl rfl rfl rfl rfl (Nat.le_of_ble_eq_true rfl) (fun r46 u46 h46 => ?_)
          obtain ⟨rfl, rfl⟩ := h46
          exact hd_iret C hK dX2_as_49 ⟨by simp [spAs, fzAs, uZ_uZ, h10, hc_j, hb, hc_k2, h37, hle]; try rfl, by simp [spAs, fzAs, h10, hc_j, hb, hc_k2, h37, hle]; try rfl⟩
        · skip
          have hle : k2 ≤ N 1 j := by omega
          refine hd_iconst 41 C dX2_as_40 rfl (nI 1) (by decide) ?_
          refine hd_goto 49 C dX2_as_41 (by decide) ?_
          exact hd_iret C hK dX2_as_49 ⟨by simp [spAs, fzAs, uZ_uZ, h10, hc_j, hb, hc_k2, h37, hle]; try rfl, by simp [spAs, fzAs, h10, hc_j, hb, hc_k2, h37, hle]; try rfl⟩
      · skip
        have hb : inB k 3 = false := inB_nlt (n := 3) (by decide) h21
        refine hd_bipush 26 C dX2_as_24 rfl (-2) (by decide) ?_
        exact hd_iret C hK dX2_as_26 ⟨by simp [spAs, fzAs, uZ_uZ, h10, hc_j, hb]; try rfl, by simp [spAs, fzAs, h10, hc_j, hb]; try rfl⟩
  · skip
    refine hd_iconst 14 C dX2_as_13 rfl (-1) (by decide) ?_
    exact hd_iret C hK dX2_as_14 ⟨by simp [spAs, fzAs, uZ_uZ, h10]; try rfl, by simp [spAs, fzAs, h10]; try rfl⟩

set_option maxHeartbeats 4000000 in
set_option maxRecDepth 100000 in
theorem m_as {l : Launch} {D : va_G} {cI cJ cD cS : ClassId} {a : Nat → Nat} {N : Nat → Nat → Nat} {Z : Nat → Nat → Int32} {E : Nat → Nat → Int32} {G : Nat → Nat → Int64} {T : Nat → Nat} (d k : Int32) (hI : inv N)  : ctI l D (ty4 cI cJ cD cS) none (wM cI a) yX3_as cX3_as 3 (some .int) (rmk 2 46) [.ref (a 0), .int d, .int k] (N, Z, E, G, T) (fun (r : Int32) (u : sT) => u = (N, uZ Z 0 1 (fzAs N d k), E, G, T) ∧ r = spAs N d k) := by
  refine ctI_of [(0, .ref (a 0)), (1, .int d), (2, .int k)] (by decide) (Nat.le_of_ble_eq_true rfl) rfl ?_
  intro p e s m args below meth c A C hK hZ hA
  have hR := hI.R
  have hDn := hI.D
  have hQn := hI.Q
  refine hd_aload_n 1 C dX3_as_0 rfl 0 rfl rfl ?_
  refine hd_iload_n 2 C dX3_as_1 rfl 1 rfl rfl ?_
  refine hd_callVI (rest := []) 5 C hK hZ hA ⟨Nat.zero_le _, Nat.zero_le _⟩ dX3_as_2 rfl kc_X3_134 (m_noDoor d hI) ⟨rfl, rfl⟩ ⟨by decide, by decide⟩ 0 3 rfl rfl rfl rfl rfl (Nat.le_of_ble_eq_true rfl) (fun r2 u2 h2 => ?_)
  obtain ⟨rfl, rfl⟩ := h2
  refine hd_if_eqB 8 14 C dX3_as_5 rfl (by decide) (fun h5 => ?_) (fun h5 => ?_)
  · skip
    simp only [Bool.not_eq_true', Bool.not_eq_false'] at h5
    obtain ⟨j, hj_j, rfl⟩ := inB_t h5 (by omega)
    have hc_j : (nI j).toNatClampNeg = j := nI_clamp (by omega)
    have hk3 := (hI.door j).1
    refine hd_iload_n 15 C dX3_as_14 rfl 2 rfl rfl ?_
    refine hd_i2l 16 C dX3_as_15 rfl k.toInt64 rfl ?_
    refine hd_lconst 17 C dX3_as_16 rfl 0 (by decide) ?_
    refine hd_ldc2 20 C dX3_as_17 rfl kl_X3_122 ?_
    refine hd_callSI (rest := []) 23 C hK hZ hA ⟨Nat.zero_le _, Nat.zero_le _⟩ dX3_as_20 rfl kc_X3_77 (m_in k.toInt64 0 (2)) ⟨rfl, rfl⟩ ⟨by decide, by decide⟩ rfl rfl (Nat.le_of_ble_eq_true rfl) (fun r20 u20 h20 => ?_)
    obtain ⟨rfl, rfl⟩ := h20
    refine hd_if_neB 26 33 C dX3_as_23 rfl (by decide) (fun h23 => ?_) (fun h23 => ?_)
    · skip
      rw [inL_k k 2 3 (by decide)] at h23
      obtain ⟨k2, hj_k2, rfl⟩ := inB_t h23 (by omega)
      have hc_k2 : (nI k2).toNatClampNeg = k2 := nI_clamp (by omega)
      refine hd_aload_n 34 C dX3_as_33 rfl 0 rfl rfl ?_
      refine gm_kindOf 37 C hK dX3_as_34 rfl ?_
      refine hd_iload_n 38 C dX3_as_37 rfl 1 rfl rfl ?_
      refine alm_kindOf 39 C hK dX3_as_38 rfl (by omega) (nI (N 1 j)) rfl ?_
      refine hd_iload_n 40 C dX3_as_39 rfl 2 rfl rfl ?_
      refine hd_icmp_ltN 43 51 C dX3_as_40 rfl (by decide) (by omega) (by omega) (fun h40 => ?_) (fun h40 => ?_)
      · skip
        have hle : ¬ k2 ≤ N 1 j := by omega
        refine hd_aload_n 52 C dX3_as_51 rfl 0 rfl rfl ?_
        refine hd_iconst 53 C dX3_as_52 rfl (nI 2) (by decide) ?_
        refine hd_callVI (rest := []) 56 C hK hZ hA ⟨Nat.zero_le _, Nat.zero_le _⟩ dX3_as_53 rfl kc_X3_107 (m_failed (nI 2)) ⟨rfl, rfl⟩ ⟨by decide, by decide⟩ 0 3 rfl rfl rfl rfl rfl (Nat.le_of_ble_eq_true rfl) (fun r53 u53 h53 => ?_)
        obtain ⟨rfl, rfl⟩ := h53
        exact hd_iret C hK dX3_as_56 ⟨by simp [spAs, fzAs, uZ_uZ, h5, hc_j, h23, hc_k2, h40, hle]; try rfl, by simp [spAs, fzAs, h5, hc_j, h23, hc_k2, h40, hle]; try rfl⟩
      · skip
        have hle : k2 ≤ N 1 j := by omega
        refine hd_aload_n 44 C dX3_as_43 rfl 0 rfl rfl ?_
        refine hd_iconst 45 C dX3_as_44 rfl (nI 1) (by decide) ?_
        refine hd_callVI (rest := []) 48 C hK hZ hA ⟨Nat.zero_le _, Nat.zero_le _⟩ dX3_as_45 rfl kc_X3_119 (m_refused (nI 1)) ⟨rfl, rfl⟩ ⟨by decide, by decide⟩ 0 3 rfl rfl rfl rfl rfl (Nat.le_of_ble_eq_true rfl) (fun r45 u45 h45 => ?_)
        obtain ⟨rfl, rfl⟩ := h45
        refine hd_goto 56 C dX3_as_48 (by decide) ?_
        exact hd_iret C hK dX3_as_56 ⟨by simp [spAs, fzAs, uZ_uZ, h5, hc_j, h23, hc_k2, h40, hle]; try rfl, by simp [spAs, fzAs, h5, hc_j, h23, hc_k2, h40, hle]; try rfl⟩
    · skip
      rw [inL_k k 2 3 (by decide)] at h23
      refine hd_aload_n 27 C dX3_as_26 rfl 0 rfl rfl ?_
      refine hd_bipush 29 C dX3_as_27 rfl (-2) (by decide) ?_
      refine hd_callVI (rest := []) 32 C hK hZ hA ⟨Nat.zero_le _, Nat.zero_le _⟩ dX3_as_29 rfl kc_X3_119 (m_refused (-2)) ⟨rfl, rfl⟩ ⟨by decide, by decide⟩ 0 3 rfl rfl rfl rfl rfl (Nat.le_of_ble_eq_true rfl) (fun r29 u29 h29 => ?_)
      obtain ⟨rfl, rfl⟩ := h29
      exact hd_iret C hK dX3_as_32 ⟨by simp [spAs, fzAs, uZ_uZ, h5, hc_j, h23]; try rfl, by simp [spAs, fzAs, h5, hc_j, h23]; try rfl⟩
  · skip
    simp only [Bool.not_eq_true', Bool.not_eq_false'] at h5
    refine hd_aload_n 9 C dX3_as_8 rfl 0 rfl rfl ?_
    refine hd_iconst 10 C dX3_as_9 rfl (-1) (by decide) ?_
    refine hd_callVI (rest := []) 13 C hK hZ hA ⟨Nat.zero_le _, Nat.zero_le _⟩ dX3_as_10 rfl kc_X3_119 (m_refused (-1)) ⟨rfl, rfl⟩ ⟨by decide, by decide⟩ 0 3 rfl rfl rfl rfl rfl (Nat.le_of_ble_eq_true rfl) (fun r10 u10 h10 => ?_)
    obtain ⟨rfl, rfl⟩ := h10
    exact hd_iret C hK dX3_as_13 ⟨by simp [spAs, fzAs, uZ_uZ, h5]; try rfl, by simp [spAs, fzAs, h5]; try rfl⟩

theorem m_behindW {l : Launch} {D : va_G} {cI cJ cD cS : ClassId} {a : Nat → Nat} {N : Nat → Nat → Nat} {Z : Nat → Nat → Int32} {E : Nat → Nat → Int32} {G : Nat → Nat → Int64} {T : Nat → Nat} (room h act : Nat) (hI : inv N) (ha : act ≤ N 0 1) (hr : room < 6) (hh : h < 12) (wo : Int32) (hg : Z 0 2 = wo) : ctI l D (ty4 cI cJ cD cS) none (wM cI a) yX3_behind cX3_behind 4 (some .int) (rmk 1 23) [.ref (a 0), .int (nI room), .int (nI h), .int (nI act)] (N, Z, E, G, T) (fun (r : Int32) (u : sT) => u = (N, Z, E, G, T) ∧ r = oI (bh N wo room h act)) := by
  subst hg
  exact m_behind room h act hI ha hr hh

theorem m_setBehindW {l : Launch} {D : va_G} {cI cJ cD cS : ClassId} {a : Nat → Nat} {N : Nat → Nat → Nat} {Z : Nat → Nat → Int32} {E : Nat → Nat → Int32} {G : Nat → Nat → Int64} {T : Nat → Nat} (set h : Nat) (hI : inv N) (hs : set < 64) (hh : h < 12) (wo : Int32) (hg : Z 0 2 = wo) : ctI l D (ty4 cI cJ cD cS) none (wM cI a) yX3_setBehind cX3_setBehind 6 (some .int) (rmk 2 46) [.ref (a 0), .int (nI set), .int (nI h)] (N, Z, E, G, T) (fun (r : Int32) (u : sT) => u = (N, Z, E, G, T) ∧ r = nI (ah N wo h set)) := by
  subst hg
  exact m_setBehind set h hI hs hh

theorem m_soonestOfW {l : Launch} {D : va_G} {cI cJ cD cS : ClassId} {a : Nat → Nat} {N : Nat → Nat → Nat} {Z : Nat → Nat → Int32} {E : Nat → Nat → Int32} {G : Nat → Nat → Int64} {T : Nat → Nat} (fr to h most : Nat) (hI : inv N) (hf : fr < 6) (hto : to < 6) (hh : h < 12) (hm : most ≤ 24) (wo : Int32) (hg : Z 0 2 = wo) : ctI l D (ty4 cI cJ cD cS) none (wM cI a) yX3_soonestOf cX3_soonestOf 7 (some .int) (rmk 3 71) [.ref (a 0), .int (nI fr), .int (nI to), .int (nI h), .int (nI most)] (N, Z, E, G, T) (fun (r : Int32) (u : sT) => u = (N, Z, E, G, T) ∧ r = oI (sn N wo fr to h most)) := by
  subst hg
  exact m_soonestOf fr to h most hI hf hto hh hm

set_option maxHeartbeats 4000000 in
set_option maxRecDepth 100000 in
theorem x_meet {l : Launch} {D : va_G} {cI cJ cD cS : ClassId} {a : Nat → Nat} {N : Nat → Nat → Nat} {Z : Nat → Nat → Int32} {E : Nat → Nat → Int32} {G : Nat → Nat → Int64} {T : Nat → Nat} {t : Option Nat} (a0 b0 h0 : Int32) (hI : inv N)  : ctI l D (ty4 cI cJ cD cS) t (wX cI cJ cD cS a) yX2_meet cX2_meet 8 (some .int) (rmk 2 49) [.ref (a 0), .int a0, .int b0, .int h0] (N, Z, E, G, T) (fun (r : Int32) (u : sT) => u = (N, Z, E, G, T) ∧ r = spMeet N a0 b0 h0) := by
  refine ctI_of [(0, .ref (a 0)), (1, .int a0), (2, .int b0), (3, .int h0)] (by decide) (Nat.le_of_ble_eq_true rfl) rfl ?_
  intro p e s m args below meth c A C hK hZ hA
  have hR := hI.R
  have hDn := hI.D
  have hQn := hI.Q
  refine hd_aload_n 1 C dX2_meet_0 rfl 0 rfl rfl ?_
  refine hd_iload_n 2 C dX2_meet_1 rfl 1 rfl rfl ?_
  refine hd_callVI (rest := []) 5 C hK hZ hA ⟨Nat.zero_le _, Nat.zero_le _⟩ dX2_meet_2 rfl kc_X2_104 (x_isRoom a0 hI) ⟨rfl, rfl⟩ ⟨by decide, by decide⟩ 0 2 rfl rfl rfl rfl rfl (Nat.le_of_ble_eq_true rfl) (fun r2 u2 h2 => ?_)
  obtain ⟨rfl, rfl⟩ := h2
  refine hd_if_eqB 8 16 C dX2_meet_5 rfl (by decide) (fun h5 => ?_) (fun h5 => ?_)
  · skip
    refine hd_iconst 17 C dX2_meet_16 rfl (-1) (by decide) ?_
    exact hd_iret C hK dX2_meet_17 ⟨rfl, by simp [spMeet, h5]⟩
  · skip
    obtain ⟨j, hj_j, rfl⟩ := inB_t h5 (by omega)
    have hc_j : (nI j).toNatClampNeg = j := nI_clamp (by omega)
    refine hd_aload_n 9 C dX2_meet_8 rfl 0 rfl rfl ?_
    refine hd_iload_n 10 C dX2_meet_9 rfl 2 rfl rfl ?_
    refine hd_callVI (rest := []) 13 C hK hZ hA ⟨Nat.zero_le _, Nat.zero_le _⟩ dX2_meet_10 rfl kc_X2_104 (x_isRoom b0 hI) ⟨rfl, rfl⟩ ⟨by decide, by decide⟩ 0 2 rfl rfl rfl rfl rfl (Nat.le_of_ble_eq_true rfl) (fun r10 u10 h10 => ?_)
    obtain ⟨rfl, rfl⟩ := h10
    refine hd_if_neB 16 18 C dX2_meet_13 rfl (by decide) (fun h13 => ?_) (fun h13 => ?_)
    · skip
      obtain ⟨k, hj_k, rfl⟩ := inB_t h13 (by omega)
      have hc_k : (nI k).toNatClampNeg = k := nI_clamp (by omega)
      refine hd_iload_n 19 C dX2_meet_18 rfl 3 rfl rfl ?_
      refine hd_callSI (rest := []) 22 C hK hZ hA ⟨Nat.zero_le _, Nat.zero_le _⟩ dX2_meet_19 rfl kc_X2_94 (x_isHour h0) ⟨rfl, rfl⟩ ⟨by decide, by decide⟩ rfl rfl (Nat.le_of_ble_eq_true rfl) (fun r19 u19 h19 => ?_)
      obtain ⟨rfl, rfl⟩ := h19
      refine hd_if_neB 25 28 C dX2_meet_22 rfl (by decide) (fun h22 => ?_) (fun h22 => ?_)
      · skip
        obtain ⟨h, hj_h, rfl⟩ := inB_t h22 (by omega)
        have hc_h : (nI h).toNatClampNeg = h := nI_clamp (by omega)
        refine hd_iconst 29 C dX2_meet_28 rfl (nI 1) (by decide) ?_
        refine hd_iload_n 30 C dX2_meet_29 rfl 1 rfl rfl ?_
        refine hd_ishl 31 C dX2_meet_30 rfl (nI (2 ^ j)) (nI_shl1 (by omega)) ?_
        refine hd_istore 33 C dX2_meet_31 rfl [(4, .int (nI (2 ^ j))), (0, .ref (a 0)), (1, .int (nI j)), (2, .int (nI k)), (3, .int (nI h))] (by decide) rfl ?_
        refine hd_iconst 34 C dX2_meet_33 rfl (nI 1) (by decide) ?_
        refine hd_iload_n 35 C dX2_meet_34 rfl 3 rfl rfl ?_
        refine hd_ishl 36 C dX2_meet_35 rfl (nI (2 ^ k)) (nI_shl1 (by omega)) ?_
        refine hd_istore 38 C dX2_meet_36 rfl [(5, .int (nI (2 ^ k))), (4, .int (nI (2 ^ j))), (0, .ref (a 0)), (1, .int (nI j)), (2, .int (nI k)), (3, .int (nI h))] (by decide) rfl ?_
        refine hd_iconst 39 C dX2_meet_38 rfl (nI 0) (by decide) ?_
        refine hd_istore 41 C dX2_meet_39 rfl [(6, .int (nI 0)), (5, .int (nI (2 ^ k))), (4, .int (nI (2 ^ j))), (0, .ref (a 0)), (1, .int (nI j)), (2, .int (nI k)), (3, .int (nI h))] (by decide) rfl ?_
        have L : ∀ (fuel : Nat) (t x y : Nat) (hx : x < 64) (hy : y < 64) (ht : t ≤ 25) (hF : mt N h 25 0 (2 ^ j) (2 ^ k) = mt N h (25 - t) t x y), 25 - t < fuel → XW p l e (rmk 2 49) s m args below meth c 8 0 0 A D (MQ below (va_Qi (fun (r : Int32) (u : sT) => u = (N, Z, E, G, T) ∧ r = spMeet N (nI j) (nI k) (nI h)) (cB D (ty4 cI cJ cD cS) (wX cI cJ cD cS a) A) A) args s 0 0 A) (wX cI cJ cD cS a) (N, Z, E, G, T) 41 [(0, .ref (a 0)), (1, .int (nI j)), (2, .int (nI k)), (3, .int (nI h)), (4, .int (nI x)), (5, .int (nI y)), (6, .int (nI t))] [] := by
          intro fuel
          induction fuel with
          | zero => intro t x y hx hy ht hF hfu; exact absurd hfu (Nat.not_lt_zero _)
          | succ fuel ih_L =>
            intro t x y hx hy ht hF hfu_L
            refine hd_iload 43 C dX2_meet_41 rfl 6 rfl ?_
            refine hd_bipush 45 C dX2_meet_43 rfl (nI 24) (by decide) ?_
            refine hd_icmp_gtN 48 98 C dX2_meet_45 rfl (by decide) (by omega) (by omega) (fun h45 => ?_) (fun h45 => ?_)
            · skip
              refine hd_bipush 100 C dX2_meet_98 rfl (-9) (by decide) ?_
              have e9 : mt N h (25 - t) t x y = none := by rw [show 25 - t = 0 by omega]; rfl
              exact hd_iret C hK dX2_meet_100 ⟨rfl, by simp [spMeet, oI, hF, e9, h5, hc_j, h13, hc_k, h22, hc_h]⟩
            · skip
              refine hd_iload 50 C dX2_meet_48 rfl 4 rfl ?_
              refine hd_iload 52 C dX2_meet_50 rfl 5 rfl ?_
              refine hd_iand 53 C dX2_meet_52 rfl (nI (x &&& y)) (fa_and _ _) ?_
              have hand := and_lt64 (b := y) hx
              refine hd_if_eqN 56 59 C dX2_meet_53 rfl (by decide) (by omega) (fun h53 => ?_) (fun h53 => ?_)
              · skip
                refine hd_iload_n 60 C dX2_meet_59 rfl 3 rfl rfl ?_
                refine hd_iload 62 C dX2_meet_60 rfl 6 rfl ?_
                refine hd_iadd 63 C dX2_meet_62 rfl (nI (h + t)) (nI_add _ _) ?_
                refine hd_bipush 65 C dX2_meet_63 rfl (nI 12) (by decide) ?_
                refine hd_irem 66 C dX2_meet_65 rfl (nI ((h + t) % 12)) (nI_ne0 (by omega) (by omega)) (pk_rem (by omega) (by omega) (by omega)) ?_
                refine hd_istore 68 C dX2_meet_66 rfl [(7, .int (nI ((h + t) % 12))), (0, .ref (a 0)), (1, .int (nI j)), (2, .int (nI k)), (3, .int (nI h)), (4, .int (nI x)), (5, .int (nI y)), (6, .int (nI t))] (by decide) rfl ?_
                refine hd_aload_n 69 C dX2_meet_68 rfl 1 rfl rfl ?_
                refine hd_iload 71 C dX2_meet_69 rfl 5 rfl ?_
                refine hd_iload 73 C dX2_meet_71 rfl 0 rfl ?_
                refine hd_bipush 75 C dX2_meet_73 rfl (-9) (by decide) ?_
                refine hd_callVI (rest := []) 78 C hK hZ hA ⟨Nat.zero_le _, Nat.zero_le _⟩ dX2_meet_75 rfl kc_X2_130 (x_anHourOn x ((h + t) % 12) (-9) hI (by assumption) (by omega)) ⟨rfl, rfl⟩ ⟨by decide, by decide⟩ 0 2 rfl rfl rfl rfl rfl (Nat.le_of_ble_eq_true rfl) (fun r75 u75 h75 => ?_)
                obtain ⟨rfl, rfl⟩ := h75
                refine hd_istore 80 C dX2_meet_78 rfl [(4, .int (nI (ah N (-9) ((h + t) % 12) x))), (7, .int (nI ((h + t) % 12))), (0, .ref (a 0)), (1, .int (nI j)), (2, .int (nI k)), (3, .int (nI h)), (5, .int (nI y)), (6, .int (nI t))] (by decide) rfl ?_
                refine hd_aload_n 81 C dX2_meet_80 rfl 2 rfl rfl ?_
                refine hd_iload 83 C dX2_meet_81 rfl 6 rfl ?_
                refine hd_iload 85 C dX2_meet_83 rfl 1 rfl ?_
                refine hd_bipush 87 C dX2_meet_85 rfl (-9) (by decide) ?_
                refine hd_callVI (rest := []) 90 C hK hZ hA ⟨Nat.zero_le _, Nat.zero_le _⟩ dX2_meet_87 rfl kc_X2_130 (x_anHourOn y ((h + t) % 12) (-9) hI (by assumption) (by omega)) ⟨rfl, rfl⟩ ⟨by decide, by decide⟩ 0 2 rfl rfl rfl rfl rfl (Nat.le_of_ble_eq_true rfl) (fun r87 u87 h87 => ?_)
                obtain ⟨rfl, rfl⟩ := h87
                refine hd_istore 92 C dX2_meet_90 rfl [(5, .int (nI (ah N (-9) ((h + t) % 12) y))), (4, .int (nI (ah N (-9) ((h + t) % 12) x))), (7, .int (nI ((h + t) % 12))), (0, .ref (a 0)), (1, .int (nI j)), (2, .int (nI k)), (3, .int (nI h)), (6, .int (nI t))] (by decide) rfl ?_
                refine hd_iinc 95 C dX2_meet_92 rfl 7 (nI (t + 1)) [(6, .int (nI (t + 1))), (5, .int (nI (ah N (-9) ((h + t) % 12) y))), (4, .int (nI (ah N (-9) ((h + t) % 12) x))), (7, .int (nI ((h + t) % 12))), (0, .ref (a 0)), (1, .int (nI j)), (2, .int (nI k)), (3, .int (nI h))] rfl (nI_add _ _) (by decide) rfl ?_
                refine hd_goto 41 C dX2_meet_95 (by decide) ?_
                refine hd_sub [(0, .ref (a 0)), (1, .int (nI j)), (2, .int (nI k)), (3, .int (nI h)), (4, .int (nI (ah N (-9) ((h + t) % 12) x))), (5, .int (nI (ah N (-9) ((h + t) % 12) y))), (6, .int (nI (t + 1)))] [4, 5, 6, 7, 2, 1, 0] rfl ?_
                exact ih_L (t + 1) _ _ (ah_lt hI hx) (ah_lt hI hy) (by omega) (by rw [hF, show 25 - t = (24 - t) + 1 by omega, show 25 - (t + 1) = 24 - t by omega, mt_succ, if_neg (by simp [h53])]) (by omega)
              · skip
                refine hd_iload 58 C dX2_meet_56 rfl 6 rfl ?_
                have e9 : mt N h (25 - t) t x y = some t := by rw [show 25 - t = (24 - t) + 1 by omega, mt_succ, if_pos h53]
                exact hd_iret C hK dX2_meet_58 ⟨rfl, by simp [spMeet, oI, hF, e9, h5, hc_j, h13, hc_k, h22, hc_h]⟩
        refine hd_sub [(0, .ref (a 0)), (1, .int (nI j)), (2, .int (nI k)), (3, .int (nI h)), (4, .int (nI (2 ^ j))), (5, .int (nI (2 ^ k))), (6, .int (nI 0))] [3, 4, 5, 6, 2, 1, 0] rfl ?_
        exact L 26 0 _ _ (pow_lt6 (by omega)) (pow_lt6 (by omega)) (Nat.zero_le _) rfl (by omega)
      · skip
        refine hd_bipush 27 C dX2_meet_25 rfl (-2) (by decide) ?_
        exact hd_iret C hK dX2_meet_27 ⟨rfl, by simp [spMeet, h5, hc_j, h13, hc_k, h22]⟩
    · skip
      refine hd_iconst 17 C dX2_meet_16 rfl (-1) (by decide) ?_
      exact hd_iret C hK dX2_meet_17 ⟨rfl, by simp [spMeet, h5, hc_j, h13]⟩

set_option maxHeartbeats 4000000 in
set_option maxRecDepth 100000 in
theorem m_meet {l : Launch} {D : va_G} {cI cJ cD cS : ClassId} {a : Nat → Nat} {N : Nat → Nat → Nat} {Z : Nat → Nat → Int32} {E : Nat → Nat → Int32} {G : Nat → Nat → Int64} {T : Nat → Nat} (a0 b0 h0 : Int32) (hI : inv N) (hg : Z 0 2 = -9)  : ctI l D (ty4 cI cJ cD cS) none (wM cI a) yX3_meet cX3_meet 7 (some .int) (rmk 3 71) [.ref (a 0), .int a0, .int b0, .int h0] (N, Z, E, G, T) (fun (r : Int32) (u : sT) => u = (N, Z, E, G, T) ∧ r = spMeet N a0 b0 h0) := by
  refine ctI_of [(0, .ref (a 0)), (1, .int a0), (2, .int b0), (3, .int h0)] (by decide) (Nat.le_of_ble_eq_true rfl) rfl ?_
  intro p e s m args below meth c A C hK hZ hA
  have hR := hI.R
  have hDn := hI.D
  have hQn := hI.Q
  refine hd_aload_n 1 C dX3_meet_0 rfl 0 rfl rfl ?_
  refine hd_iload_n 2 C dX3_meet_1 rfl 1 rfl rfl ?_
  refine hd_callVI (rest := []) 5 C hK hZ hA ⟨Nat.zero_le _, Nat.zero_le _⟩ dX3_meet_2 rfl kc_X3_145 (m_noRoom a0 hI) ⟨rfl, rfl⟩ ⟨by decide, by decide⟩ 0 3 rfl rfl rfl rfl rfl (Nat.le_of_ble_eq_true rfl) (fun r2 u2 h2 => ?_)
  obtain ⟨rfl, rfl⟩ := h2
  refine hd_if_neB 8 16 C dX3_meet_5 rfl (by decide) (fun h5 => ?_) (fun h5 => ?_)
  · skip
    simp only [Bool.not_eq_true', Bool.not_eq_false'] at h5
    refine hd_iconst 17 C dX3_meet_16 rfl (-1) (by decide) ?_
    exact hd_iret C hK dX3_meet_17 ⟨rfl, by simp [spMeet, h5]⟩
  · skip
    simp only [Bool.not_eq_true', Bool.not_eq_false'] at h5
    obtain ⟨j, hj_j, rfl⟩ := inB_t h5 (by omega)
    have hc_j : (nI j).toNatClampNeg = j := nI_clamp (by omega)
    refine hd_aload_n 9 C dX3_meet_8 rfl 0 rfl rfl ?_
    refine hd_iload_n 10 C dX3_meet_9 rfl 2 rfl rfl ?_
    refine hd_callVI (rest := []) 13 C hK hZ hA ⟨Nat.zero_le _, Nat.zero_le _⟩ dX3_meet_10 rfl kc_X3_145 (m_noRoom b0 hI) ⟨rfl, rfl⟩ ⟨by decide, by decide⟩ 0 3 rfl rfl rfl rfl rfl (Nat.le_of_ble_eq_true rfl) (fun r10 u10 h10 => ?_)
    obtain ⟨rfl, rfl⟩ := h10
    refine hd_if_eqB 16 18 C dX3_meet_13 rfl (by decide) (fun h13 => ?_) (fun h13 => ?_)
    · skip
      simp only [Bool.not_eq_true', Bool.not_eq_false'] at h13
      obtain ⟨k, hj_k, rfl⟩ := inB_t h13 (by omega)
      have hc_k : (nI k).toNatClampNeg = k := nI_clamp (by omega)
      refine hd_iload_n 19 C dX3_meet_18 rfl 3 rfl rfl ?_
      refine hd_callSI (rest := []) 22 C hK hZ hA ⟨Nat.zero_le _, Nat.zero_le _⟩ dX3_meet_19 rfl kc_X3_137 (m_noHour h0) ⟨rfl, rfl⟩ ⟨by decide, by decide⟩ rfl rfl (Nat.le_of_ble_eq_true rfl) (fun r19 u19 h19 => ?_)
      obtain ⟨rfl, rfl⟩ := h19
      refine hd_if_eqB 25 28 C dX3_meet_22 rfl (by decide) (fun h22 => ?_) (fun h22 => ?_)
      · skip
        simp only [Bool.not_eq_true', Bool.not_eq_false'] at h22
        obtain ⟨h, hj_h, rfl⟩ := inB_t h22 (by omega)
        have hc_h : (nI h).toNatClampNeg = h := nI_clamp (by omega)
        refine hd_iconst 29 C dX3_meet_28 rfl (nI 1) (by decide) ?_
        refine hd_iload_n 30 C dX3_meet_29 rfl 1 rfl rfl ?_
        refine hd_ishl 31 C dX3_meet_30 rfl (nI (2 ^ j)) (nI_shl1 (by omega)) ?_
        refine hd_istore 33 C dX3_meet_31 rfl [(4, .int (nI (2 ^ j))), (0, .ref (a 0)), (1, .int (nI j)), (2, .int (nI k)), (3, .int (nI h))] (by decide) rfl ?_
        refine hd_iconst 34 C dX3_meet_33 rfl (nI 1) (by decide) ?_
        refine hd_iload_n 35 C dX3_meet_34 rfl 3 rfl rfl ?_
        refine hd_ishl 36 C dX3_meet_35 rfl (nI (2 ^ k)) (nI_shl1 (by omega)) ?_
        refine hd_istore 38 C dX3_meet_36 rfl [(5, .int (nI (2 ^ k))), (4, .int (nI (2 ^ j))), (0, .ref (a 0)), (1, .int (nI j)), (2, .int (nI k)), (3, .int (nI h))] (by decide) rfl ?_
        refine hd_iconst 39 C dX3_meet_38 rfl (nI 0) (by decide) ?_
        refine hd_istore 41 C dX3_meet_39 rfl [(6, .int (nI 0)), (5, .int (nI (2 ^ k))), (4, .int (nI (2 ^ j))), (0, .ref (a 0)), (1, .int (nI j)), (2, .int (nI k)), (3, .int (nI h))] (by decide) rfl ?_
        have L : ∀ (fuel : Nat) (t x y : Nat) (hx : x < 64) (hy : y < 64) (ht : t ≤ 25) (hF : mt N h 25 0 (2 ^ j) (2 ^ k) = mt N h (25 - t) t x y), 25 - t < fuel → XW p l e (rmk 3 71) s m args below meth c 7 0 0 A D (MQ below (va_Qi (fun (r : Int32) (u : sT) => u = (N, Z, E, G, T) ∧ r = spMeet N (nI j) (nI k) (nI h)) (cB D (ty4 cI cJ cD cS) (wM cI a) A) A) args s 0 0 A) (wM cI a) (N, Z, E, G, T) 41 [(0, .ref (a 0)), (1, .int (nI j)), (2, .int (nI k)), (3, .int (nI h)), (4, .int (nI x)), (5, .int (nI y)), (6, .int (nI t))] [] := by
          intro fuel
          induction fuel with
          | zero => intro t x y hx hy ht hF hfu; exact absurd hfu (Nat.not_lt_zero _)
          | succ fuel ih_L =>
            intro t x y hx hy ht hF hfu_L
            refine hd_iload 43 C dX3_meet_41 rfl 6 rfl ?_
            refine hd_bipush 45 C dX3_meet_43 rfl (nI 24) (by decide) ?_
            refine hd_icmp_gtN 48 95 C dX3_meet_45 rfl (by decide) (by omega) (by omega) (fun h45 => ?_) (fun h45 => ?_)
            · skip
              refine hd_bipush 97 C dX3_meet_95 rfl (-9) (by decide) ?_
              have e9 : mt N h (25 - t) t x y = none := by rw [show 25 - t = 0 by omega]; rfl
              exact hd_iret C hK dX3_meet_97 ⟨rfl, by simp [spMeet, oI, hF, e9, h5, hc_j, h13, hc_k, h22, hc_h]⟩
            · skip
              refine hd_iload 50 C dX3_meet_48 rfl 4 rfl ?_
              refine hd_iload 52 C dX3_meet_50 rfl 5 rfl ?_
              refine hd_iand 53 C dX3_meet_52 rfl (nI (x &&& y)) (fa_and _ _) ?_
              have hand := and_lt64 (b := y) hx
              refine hd_if_eqN 56 59 C dX3_meet_53 rfl (by decide) (by omega) (fun h53 => ?_) (fun h53 => ?_)
              · skip
                refine hd_aload_n 60 C dX3_meet_59 rfl 0 rfl rfl ?_
                refine hd_iload 62 C dX3_meet_60 rfl 4 rfl ?_
                refine hd_iload_n 63 C dX3_meet_62 rfl 3 rfl rfl ?_
                refine hd_iload 65 C dX3_meet_63 rfl 6 rfl ?_
                refine hd_iadd 66 C dX3_meet_65 rfl (nI (h + t)) (nI_add _ _) ?_
                refine hd_bipush 68 C dX3_meet_66 rfl (nI 12) (by decide) ?_
                refine hd_irem 69 C dX3_meet_68 rfl (nI ((h + t) % 12)) (nI_ne0 (by omega) (by omega)) (pk_rem (by omega) (by omega) (by omega)) ?_
                refine hd_callVI (rest := []) 72 C hK hZ hA ⟨Nat.zero_le _, Nat.zero_le _⟩ dX3_meet_69 rfl kc_X3_175 (m_setBehindW x ((h + t) % 12) hI (by assumption) (by omega) (-9) hg) ⟨rfl, rfl⟩ ⟨by decide, by decide⟩ 0 3 rfl rfl rfl rfl rfl (Nat.le_of_ble_eq_true rfl) (fun r69 u69 h69 => ?_)
                obtain ⟨rfl, rfl⟩ := h69
                refine hd_istore 74 C dX3_meet_72 rfl [(4, .int (nI (ah N (-9) ((h + t) % 12) x))), (0, .ref (a 0)), (1, .int (nI j)), (2, .int (nI k)), (3, .int (nI h)), (5, .int (nI y)), (6, .int (nI t))] (by decide) rfl ?_
                refine hd_aload_n 75 C dX3_meet_74 rfl 1 rfl rfl ?_
                refine hd_iload 77 C dX3_meet_75 rfl 5 rfl ?_
                refine hd_iload_n 78 C dX3_meet_77 rfl 4 rfl rfl ?_
                refine hd_iload 80 C dX3_meet_78 rfl 6 rfl ?_
                refine hd_iadd 81 C dX3_meet_80 rfl (nI (h + t)) (nI_add _ _) ?_
                refine hd_bipush 83 C dX3_meet_81 rfl (nI 12) (by decide) ?_
                refine hd_irem 84 C dX3_meet_83 rfl (nI ((h + t) % 12)) (nI_ne0 (by omega) (by omega)) (pk_rem (by omega) (by omega) (by omega)) ?_
                refine hd_callVI (rest := []) 87 C hK hZ hA ⟨Nat.zero_le _, Nat.zero_le _⟩ dX3_meet_84 rfl kc_X3_175 (m_setBehindW y ((h + t) % 12) hI (by assumption) (by omega) (-9) hg) ⟨rfl, rfl⟩ ⟨by decide, by decide⟩ 0 3 rfl rfl rfl rfl rfl (Nat.le_of_ble_eq_true rfl) (fun r84 u84 h84 => ?_)
                obtain ⟨rfl, rfl⟩ := h84
                refine hd_istore 89 C dX3_meet_87 rfl [(5, .int (nI (ah N (-9) ((h + t) % 12) y))), (4, .int (nI (ah N (-9) ((h + t) % 12) x))), (0, .ref (a 0)), (1, .int (nI j)), (2, .int (nI k)), (3, .int (nI h)), (6, .int (nI t))] (by decide) rfl ?_
                refine hd_iinc 92 C dX3_meet_89 rfl 6 (nI (t + 1)) [(6, .int (nI (t + 1))), (5, .int (nI (ah N (-9) ((h + t) % 12) y))), (4, .int (nI (ah N (-9) ((h + t) % 12) x))), (0, .ref (a 0)), (1, .int (nI j)), (2, .int (nI k)), (3, .int (nI h))] rfl (nI_add _ _) (by decide) rfl ?_
                refine hd_goto 41 C dX3_meet_92 (by decide) ?_
                refine hd_sub [(0, .ref (a 0)), (1, .int (nI j)), (2, .int (nI k)), (3, .int (nI h)), (4, .int (nI (ah N (-9) ((h + t) % 12) x))), (5, .int (nI (ah N (-9) ((h + t) % 12) y))), (6, .int (nI (t + 1)))] [3, 4, 5, 6, 2, 1, 0] rfl ?_
                exact ih_L (t + 1) _ _ (ah_lt hI hx) (ah_lt hI hy) (by omega) (by rw [hF, show 25 - t = (24 - t) + 1 by omega, show 25 - (t + 1) = 24 - t by omega, mt_succ, if_neg (by simp [h53])]) (by omega)
              · skip
                refine hd_iload 58 C dX3_meet_56 rfl 6 rfl ?_
                have e9 : mt N h (25 - t) t x y = some t := by rw [show 25 - t = (24 - t) + 1 by omega, mt_succ, if_pos h53]
                exact hd_iret C hK dX3_meet_58 ⟨rfl, by simp [spMeet, oI, hF, e9, h5, hc_j, h13, hc_k, h22, hc_h]⟩
        refine hd_sub [(0, .ref (a 0)), (1, .int (nI j)), (2, .int (nI k)), (3, .int (nI h)), (4, .int (nI (2 ^ j))), (5, .int (nI (2 ^ k))), (6, .int (nI 0))] [3, 4, 5, 6, 2, 1, 0] rfl ?_
        exact L 26 0 _ _ (pow_lt6 (by omega)) (pow_lt6 (by omega)) (Nat.zero_le _) rfl (by omega)
      · skip
        simp only [Bool.not_eq_true', Bool.not_eq_false'] at h22
        refine hd_bipush 27 C dX3_meet_25 rfl (-2) (by decide) ?_
        exact hd_iret C hK dX3_meet_27 ⟨rfl, by simp [spMeet, h5, hc_j, h13, hc_k, h22]⟩
    · skip
      simp only [Bool.not_eq_true', Bool.not_eq_false'] at h13
      refine hd_iconst 17 C dX3_meet_16 rfl (-1) (by decide) ?_
      exact hd_iret C hK dX3_meet_17 ⟨rfl, by simp [spMeet, h5, hc_j, h13]⟩

set_option maxHeartbeats 4000000 in
set_option maxRecDepth 100000 in
theorem x_cut {l : Launch} {D : va_G} {cI cJ cD cS : ClassId} {a : Nat → Nat} {N : Nat → Nat → Nat} {Z : Nat → Nat → Int32} {E : Nat → Nat → Int32} {G : Nat → Nat → Int64} {T : Nat → Nat} {t : Option Nat} (a0 b0 h0 : Int32) (hI : inv N)  : ctI l D (ty4 cI cJ cD cS) t (wX cI cJ cD cS a) yX2_cut cX2_cut 5 (some .int) (rmk 3 75) [.ref (a 0), .int a0, .int b0, .int h0] (N, Z, E, G, T) (fun (r : Int32) (u : sT) => u = (N, Z, E, G, T) ∧ r = spCut N a0 b0 h0) := by
  refine ctI_of [(0, .ref (a 0)), (1, .int a0), (2, .int b0), (3, .int h0)] (by decide) (Nat.le_of_ble_eq_true rfl) rfl ?_
  intro p e s m args below meth c A C hK hZ hA
  have hR := hI.R
  have hDn := hI.D
  have hQn := hI.Q
  refine hd_aload_n 1 C dX2_cut_0 rfl 0 rfl rfl ?_
  refine hd_iload_n 2 C dX2_cut_1 rfl 1 rfl rfl ?_
  refine hd_callVI (rest := []) 5 C hK hZ hA ⟨Nat.zero_le _, Nat.zero_le _⟩ dX2_cut_2 rfl kc_X2_104 (x_isRoom a0 hI) ⟨rfl, rfl⟩ ⟨by decide, by decide⟩ 0 2 rfl rfl rfl rfl rfl (Nat.le_of_ble_eq_true rfl) (fun r2 u2 h2 => ?_)
  obtain ⟨rfl, rfl⟩ := h2
  refine hd_if_eqB 8 16 C dX2_cut_5 rfl (by decide) (fun h5 => ?_) (fun h5 => ?_)
  · skip
    refine hd_iconst 17 C dX2_cut_16 rfl (-1) (by decide) ?_
    exact hd_iret C hK dX2_cut_17 ⟨rfl, by simp [spCut, h5]⟩
  · skip
    obtain ⟨j, hj_j, rfl⟩ := inB_t h5 (by omega)
    have hc_j : (nI j).toNatClampNeg = j := nI_clamp (by omega)
    refine hd_aload_n 9 C dX2_cut_8 rfl 0 rfl rfl ?_
    refine hd_iload_n 10 C dX2_cut_9 rfl 2 rfl rfl ?_
    refine hd_callVI (rest := []) 13 C hK hZ hA ⟨Nat.zero_le _, Nat.zero_le _⟩ dX2_cut_10 rfl kc_X2_104 (x_isRoom b0 hI) ⟨rfl, rfl⟩ ⟨by decide, by decide⟩ 0 2 rfl rfl rfl rfl rfl (Nat.le_of_ble_eq_true rfl) (fun r10 u10 h10 => ?_)
    obtain ⟨rfl, rfl⟩ := h10
    refine hd_if_neB 16 18 C dX2_cut_13 rfl (by decide) (fun h13 => ?_) (fun h13 => ?_)
    · skip
      obtain ⟨k, hj_k, rfl⟩ := inB_t h13 (by omega)
      have hc_k : (nI k).toNatClampNeg = k := nI_clamp (by omega)
      refine hd_iload_n 19 C dX2_cut_18 rfl 3 rfl rfl ?_
      refine hd_callSI (rest := []) 22 C hK hZ hA ⟨Nat.zero_le _, Nat.zero_le _⟩ dX2_cut_19 rfl kc_X2_94 (x_isHour h0) ⟨rfl, rfl⟩ ⟨by decide, by decide⟩ rfl rfl (Nat.le_of_ble_eq_true rfl) (fun r19 u19 h19 => ?_)
      obtain ⟨rfl, rfl⟩ := h19
      refine hd_if_neB 25 28 C dX2_cut_22 rfl (by decide) (fun h22 => ?_) (fun h22 => ?_)
      · skip
        obtain ⟨h, hj_h, rfl⟩ := inB_t h22 (by omega)
        have hc_h : (nI h).toNatClampNeg = h := nI_clamp (by omega)
        refine hd_aload_n 29 C dX2_cut_28 rfl 0 rfl rfl ?_
        refine hd_iload_n 30 C dX2_cut_29 rfl 1 rfl rfl ?_
        refine hd_iload_n 31 C dX2_cut_30 rfl 2 rfl rfl ?_
        refine hd_iload_n 32 C dX2_cut_31 rfl 3 rfl rfl ?_
        refine hd_bipush 34 C dX2_cut_32 rfl (-9) (by decide) ?_
        refine hd_callVI (rest := []) 37 C hK hZ hA ⟨Nat.zero_le _, Nat.zero_le _⟩ dX2_cut_34 rfl kc_X2_115 (x_fewestHours j k h (-9) hI (by omega) (by omega) (by omega)) ⟨rfl, rfl⟩ ⟨by decide, by decide⟩ 0 2 rfl rfl rfl rfl rfl (Nat.le_of_ble_eq_true rfl) (fun r34 u34 h34 => ?_)
        obtain ⟨rfl, rfl⟩ := h34
        rcases ho34 : sn N (-9) j k h 24 with _ | rv34
        · skip
          refine hd_bipush 39 C dX2_cut_37 rfl (-9) (by decide) ?_
          refine hd_icmp_ne 42 45 C dX2_cut_39 rfl (by decide) (fun q => absurd rfl q) (fun _ => ?_)
          refine hd_bipush 44 C dX2_cut_42 rfl (-9) (by decide) ?_
          exact hd_iret C hK dX2_cut_44 ⟨rfl, by simp [spCut, h5, hc_j, h13, hc_k, h22, hc_h, ho34]⟩
        · skip
          have hbrv34 := sn_lt _ ho34
          refine hd_bipush 39 C dX2_cut_37 rfl (-9) (by decide) ?_
          refine hd_icmp_ne 42 45 C dX2_cut_39 rfl (by decide) (fun _ => ?_) (fun q => absurd q (nI_ne9 (by omega)))
          refine hd_iconst 46 C dX2_cut_45 rfl (nI 0) (by decide) ?_
          refine hd_istore 48 C dX2_cut_46 rfl [(4, .int (nI 0)), (0, .ref (a 0)), (1, .int (nI j)), (2, .int (nI k)), (3, .int (nI h))] (by decide) rfl ?_
          have L : ∀ (fuel : Nat) (d : Nat) (hd : d ≤ N 0 1) (hF : ctf N j k h (N 0 1) 0 = ctf N j k h (N 0 1 - d) d), N 0 1 - d < fuel → XW p l e (rmk 3 75) s m args below meth c 5 0 0 A D (MQ below (va_Qi (fun (r : Int32) (u : sT) => u = (N, Z, E, G, T) ∧ r = spCut N (nI j) (nI k) (nI h)) (cB D (ty4 cI cJ cD cS) (wX cI cJ cD cS a) A) A) args s 0 0 A) (wX cI cJ cD cS a) (N, Z, E, G, T) 48 [(0, .ref (a 0)), (1, .int (nI j)), (2, .int (nI k)), (3, .int (nI h)), (4, .int (nI d))] [] := by
            intro fuel
            induction fuel with
            | zero => intro d hd hF hfu; exact absurd hfu (Nat.not_lt_zero _)
            | succ fuel ih_L =>
              intro d hd hF hfu_L
              refine hd_iload 50 C dX2_cut_48 rfl 4 rfl ?_
              refine hd_aload_n 51 C dX2_cut_50 rfl 0 rfl rfl ?_
              refine gx_doorCount 54 C hK dX2_cut_51 rfl (nI (N 0 1)) rfl ?_
              refine hd_icmp_geN 57 80 C dX2_cut_54 rfl (by decide) (by omega) (by omega) (fun h54 => ?_) (fun h54 => ?_)
              · skip
                refine hd_bipush 82 C dX2_cut_80 rfl (-9) (by decide) ?_
                have e9 : ctf N j k h (N 0 1 - d) d = none := by rw [show N 0 1 - d = 0 by omega]; rfl
                exact hd_iret C hK dX2_cut_82 ⟨rfl, by simp [spCut, oI, hF, e9, h5, hc_j, h13, hc_k, h22, hc_h, ho34]⟩
              · skip
                refine hd_aload_n 58 C dX2_cut_57 rfl 0 rfl rfl ?_
                refine hd_iload_n 59 C dX2_cut_58 rfl 1 rfl rfl ?_
                refine hd_iload_n 60 C dX2_cut_59 rfl 2 rfl rfl ?_
                refine hd_iload_n 61 C dX2_cut_60 rfl 3 rfl rfl ?_
                refine hd_iload 63 C dX2_cut_61 rfl 4 rfl ?_
                refine hd_callVI (rest := []) 66 C hK hZ hA ⟨Nat.zero_le _, Nat.zero_le _⟩ dX2_cut_63 rfl kc_X2_115 (x_fewestHours j k h (nI d) hI (by omega) (by omega) (by omega)) ⟨rfl, rfl⟩ ⟨by decide, by decide⟩ 0 2 rfl rfl rfl rfl rfl (Nat.le_of_ble_eq_true rfl) (fun r63 u63 h63 => ?_)
                obtain ⟨rfl, rfl⟩ := h63
                rcases ho63 : sn N (nI d) j k h 24 with _ | rv63
                · skip
                  refine hd_bipush 68 C dX2_cut_66 rfl (-9) (by decide) ?_
                  refine hd_icmp_ne 71 74 C dX2_cut_68 rfl (by decide) (fun q => absurd rfl q) (fun _ => ?_)
                  refine hd_iload 73 C dX2_cut_71 rfl 4 rfl ?_
                  have e9 : ctf N j k h (N 0 1 - d) d = some d := by rw [show N 0 1 - d = (N 0 1 - d - 1) + 1 by omega, ctf_succ, if_pos ho63]
                  exact hd_iret C hK dX2_cut_73 ⟨rfl, by simp [spCut, oI, hF, e9, h5, hc_j, h13, hc_k, h22, hc_h, ho34]⟩
                · skip
                  have hbrv63 := sn_lt _ ho63
                  refine hd_bipush 68 C dX2_cut_66 rfl (-9) (by decide) ?_
                  refine hd_icmp_ne 71 74 C dX2_cut_68 rfl (by decide) (fun _ => ?_) (fun q => absurd q (nI_ne9 (by omega)))
                  refine hd_iinc 77 C dX2_cut_74 rfl 4 (nI (d + 1)) [(4, .int (nI (d + 1))), (0, .ref (a 0)), (1, .int (nI j)), (2, .int (nI k)), (3, .int (nI h))] rfl (nI_add _ _) (by decide) rfl ?_
                  refine hd_goto 48 C dX2_cut_77 (by decide) ?_
                  refine hd_sub [(0, .ref (a 0)), (1, .int (nI j)), (2, .int (nI k)), (3, .int (nI h)), (4, .int (nI (d + 1)))] [1, 2, 3, 4, 0] rfl ?_
                  exact ih_L (d + 1) (by omega) (by rw [hF, show N 0 1 - d = (N 0 1 - d - 1) + 1 by omega, show N 0 1 - (d + 1) = N 0 1 - d - 1 by omega, ctf_succ, if_neg (by simp [ho63])]) (by omega)
          refine hd_sub [(0, .ref (a 0)), (1, .int (nI j)), (2, .int (nI k)), (3, .int (nI h)), (4, .int (nI 0))] [1, 2, 3, 4, 0] rfl ?_
          exact L (N 0 1 + 1) 0 (Nat.zero_le _) rfl (by omega)
      · skip
        refine hd_bipush 27 C dX2_cut_25 rfl (-2) (by decide) ?_
        exact hd_iret C hK dX2_cut_27 ⟨rfl, by simp [spCut, h5, hc_j, h13, hc_k, h22]⟩
    · skip
      refine hd_iconst 17 C dX2_cut_16 rfl (-1) (by decide) ?_
      exact hd_iret C hK dX2_cut_17 ⟨rfl, by simp [spCut, h5, hc_j, h13]⟩

set_option maxHeartbeats 4000000 in
set_option maxRecDepth 100000 in
theorem m_cut {l : Launch} {D : va_G} {cI cJ cD cS : ClassId} {a : Nat → Nat} {N : Nat → Nat → Nat} {Z : Nat → Nat → Int32} {E : Nat → Nat → Int32} {G : Nat → Nat → Int64} {T : Nat → Nat} (a0 b0 h0 : Int32) (hI : inv N) (hg : Z 0 2 = -9)  : ctI l D (ty4 cI cJ cD cS) none (wM cI a) yX3_cut cX3_cut 6 (some .int) (rmk 4 97) [.ref (a 0), .int a0, .int b0, .int h0] (N, Z, E, G, T) (fun (r : Int32) (u : sT) => u = (N, Z, E, G, T) ∧ r = spCut N a0 b0 h0) := by
  refine ctI_of [(0, .ref (a 0)), (1, .int a0), (2, .int b0), (3, .int h0)] (by decide) (Nat.le_of_ble_eq_true rfl) rfl ?_
  intro p e s m args below meth c A C hK hZ hA
  have hR := hI.R
  have hDn := hI.D
  have hQn := hI.Q
  refine hd_aload_n 1 C dX3_cut_0 rfl 0 rfl rfl ?_
  refine hd_iload_n 2 C dX3_cut_1 rfl 1 rfl rfl ?_
  refine hd_callVI (rest := []) 5 C hK hZ hA ⟨Nat.zero_le _, Nat.zero_le _⟩ dX3_cut_2 rfl kc_X3_145 (m_noRoom a0 hI) ⟨rfl, rfl⟩ ⟨by decide, by decide⟩ 0 3 rfl rfl rfl rfl rfl (Nat.le_of_ble_eq_true rfl) (fun r2 u2 h2 => ?_)
  obtain ⟨rfl, rfl⟩ := h2
  refine hd_if_neB 8 16 C dX3_cut_5 rfl (by decide) (fun h5 => ?_) (fun h5 => ?_)
  · skip
    simp only [Bool.not_eq_true', Bool.not_eq_false'] at h5
    refine hd_iconst 17 C dX3_cut_16 rfl (-1) (by decide) ?_
    exact hd_iret C hK dX3_cut_17 ⟨rfl, by simp [spCut, h5]⟩
  · skip
    simp only [Bool.not_eq_true', Bool.not_eq_false'] at h5
    obtain ⟨j, hj_j, rfl⟩ := inB_t h5 (by omega)
    have hc_j : (nI j).toNatClampNeg = j := nI_clamp (by omega)
    refine hd_aload_n 9 C dX3_cut_8 rfl 0 rfl rfl ?_
    refine hd_iload_n 10 C dX3_cut_9 rfl 2 rfl rfl ?_
    refine hd_callVI (rest := []) 13 C hK hZ hA ⟨Nat.zero_le _, Nat.zero_le _⟩ dX3_cut_10 rfl kc_X3_145 (m_noRoom b0 hI) ⟨rfl, rfl⟩ ⟨by decide, by decide⟩ 0 3 rfl rfl rfl rfl rfl (Nat.le_of_ble_eq_true rfl) (fun r10 u10 h10 => ?_)
    obtain ⟨rfl, rfl⟩ := h10
    refine hd_if_eqB 16 18 C dX3_cut_13 rfl (by decide) (fun h13 => ?_) (fun h13 => ?_)
    · skip
      simp only [Bool.not_eq_true', Bool.not_eq_false'] at h13
      obtain ⟨k, hj_k, rfl⟩ := inB_t h13 (by omega)
      have hc_k : (nI k).toNatClampNeg = k := nI_clamp (by omega)
      refine hd_iload_n 19 C dX3_cut_18 rfl 3 rfl rfl ?_
      refine hd_callSI (rest := []) 22 C hK hZ hA ⟨Nat.zero_le _, Nat.zero_le _⟩ dX3_cut_19 rfl kc_X3_137 (m_noHour h0) ⟨rfl, rfl⟩ ⟨by decide, by decide⟩ rfl rfl (Nat.le_of_ble_eq_true rfl) (fun r19 u19 h19 => ?_)
      obtain ⟨rfl, rfl⟩ := h19
      refine hd_if_eqB 25 28 C dX3_cut_22 rfl (by decide) (fun h22 => ?_) (fun h22 => ?_)
      · skip
        simp only [Bool.not_eq_true', Bool.not_eq_false'] at h22
        obtain ⟨h, hj_h, rfl⟩ := inB_t h22 (by omega)
        have hc_h : (nI h).toNatClampNeg = h := nI_clamp (by omega)
        refine hd_bipush 30 C dX3_cut_28 rfl (-9) (by decide) ?_
        refine hd_istore 32 C dX3_cut_30 rfl [(4, .int (-9)), (0, .ref (a 0)), (1, .int (nI j)), (2, .int (nI k)), (3, .int (nI h))] (by decide) rfl ?_
        refine hd_aload_n 33 C dX3_cut_32 rfl 1 rfl rfl ?_
        refine hd_iload_n 34 C dX3_cut_33 rfl 2 rfl rfl ?_
        refine hd_iload_n 35 C dX3_cut_34 rfl 3 rfl rfl ?_
        refine hd_iload_n 36 C dX3_cut_35 rfl 4 rfl rfl ?_
        refine hd_bipush 38 C dX3_cut_36 rfl (nI 24) (by decide) ?_
        refine hd_callVI (rest := []) 41 C hK hZ hA ⟨Nat.zero_le _, Nat.zero_le _⟩ dX3_cut_38 rfl kc_X3_182 (m_soonestOfW j k h 24 hI (by omega) (by omega) (by omega) (by omega) (-9) hg) ⟨rfl, rfl⟩ ⟨by decide, by decide⟩ 0 3 rfl rfl rfl rfl rfl (Nat.le_of_ble_eq_true rfl) (fun r38 u38 h38 => ?_)
        obtain ⟨rfl, rfl⟩ := h38
        rcases ho38 : sn N (-9) j k h 24 with _ | rv38
        · skip
          refine hd_if_lt 44 90 C dX3_cut_41 rfl (by decide) (fun _ => ?_) (fun q => absurd (by decide) q)
          refine hd_aload_n 91 C dX3_cut_90 rfl 1 rfl rfl ?_
          refine hd_bipush 93 C dX3_cut_91 rfl (-9) (by decide) ?_
          refine pm_gone 96 C hK dX3_cut_93 rfl ?_
          refine hd_iload 98 C dX3_cut_96 rfl 0 rfl ?_
          exact hd_iret C hK dX3_cut_98 ⟨by rw [← hg, uZ_self], by simp [spCut, h5, hc_j, h13, hc_k, h22, hc_h, ho38]⟩
        · skip
          have hbrv38 := sn_lt _ ho38
          refine hd_if_ltP 44 90 C dX3_cut_41 rfl (by decide) (by omega) ?_
          refine hd_aload_n 45 C dX3_cut_44 rfl 1 rfl rfl ?_
          refine gm_doors 48 C hK dX3_cut_45 rfl (nI (N 0 1)) rfl ?_
          refine hd_iconst 49 C dX3_cut_48 rfl (nI 1) (by decide) ?_
          refine hd_isub 50 C dX3_cut_49 rfl (nI (N 0 1) - 1) rfl ?_
          refine hd_eqS (show (N, Z, E, G, T) = (N, uZ Z 0 2 (-9), E, G, T) from by rw [← hg, uZ_self]) ?_
          refine hd_istore 52 C dX3_cut_50 rfl [(5, .int (nI (N 0 1) - 1)), (4, .int (-9)), (0, .ref (a 0)), (1, .int (nI j)), (2, .int (nI k)), (3, .int (nI h))] (by decide) rfl ?_
          have L : ∀ (fuel : Nat) (e0 : Nat) (v : Int32) (g : Int32) (he : e0 ≤ N 0 1) (hv : v = oI (ctf N j k h (N 0 1 - e0) e0)), e0 < fuel → XW p l e (rmk 4 97) s m args below meth c 6 0 0 A D (MQ below (va_Qi (fun (r : Int32) (u : sT) => u = (N, Z, E, G, T) ∧ r = spCut N (nI j) (nI k) (nI h)) (cB D (ty4 cI cJ cD cS) (wM cI a) A) A) args s 0 0 A) (wM cI a) (N, uZ Z 0 2 g, E, G, T) 52 [(0, .ref (a 0)), (1, .int (nI j)), (2, .int (nI k)), (3, .int (nI h)), (4, .int v), (5, .int (nI e0 - 1))] [] := by
            intro fuel
            induction fuel with
            | zero => intro e0 v g he hv hfu; exact absurd hfu (Nat.not_lt_zero _)
            | succ fuel ih_L =>
              intro e0 v g he hv hfu_L
              rcases e0 with _ | d
              · skip
                refine hd_iload 54 C dX3_cut_52 rfl 5 rfl ?_
                refine hd_if_lt 57 90 C dX3_cut_54 rfl (by decide) (fun _ => ?_) (fun q => absurd (by decide) q)
                refine hd_aload_n 91 C dX3_cut_90 rfl 0 rfl rfl ?_
                refine hd_bipush 93 C dX3_cut_91 rfl (-9) (by decide) ?_
                refine pm_gone 96 C hK dX3_cut_93 rfl ?_
                refine hd_iload 98 C dX3_cut_96 rfl 4 rfl ?_
                exact hd_iret C hK dX3_cut_98 ⟨by rw [uZ_uZ, ← hg, uZ_self], by simp [spCut, hv, h5, hc_j, h13, hc_k, h22, hc_h, ho38]⟩
              · skip
                rw [nI_pred]
                refine hd_iload 54 C dX3_cut_52 rfl 5 rfl ?_
                refine hd_if_ltP 57 90 C dX3_cut_54 rfl (by decide) (by omega) ?_
                refine hd_aload_n 58 C dX3_cut_57 rfl 0 rfl rfl ?_
                refine hd_iload 60 C dX3_cut_58 rfl 5 rfl ?_
                refine pm_gone 63 C hK dX3_cut_60 rfl ?_
                refine hd_eqS (show (N, uZ (uZ Z 0 2 g) 0 2 (nI d), E, G, T) = (N, uZ Z 0 2 (nI d), E, G, T) from by rw [uZ_uZ]) ?_
                refine hd_aload_n 64 C dX3_cut_63 rfl 0 rfl rfl ?_
                refine hd_iload_n 65 C dX3_cut_64 rfl 1 rfl rfl ?_
                refine hd_iload_n 66 C dX3_cut_65 rfl 2 rfl rfl ?_
                refine hd_iload_n 67 C dX3_cut_66 rfl 3 rfl rfl ?_
                refine hd_bipush 69 C dX3_cut_67 rfl (nI 24) (by decide) ?_
                refine hd_callVI (rest := []) 72 C hK hZ hA ⟨Nat.zero_le _, Nat.zero_le _⟩ dX3_cut_69 rfl kc_X3_182 (m_soonestOfW j k h 24 hI (by omega) (by omega) (by omega) (by omega) (nI d) rfl) ⟨rfl, rfl⟩ ⟨by decide, by decide⟩ 0 3 rfl rfl rfl rfl rfl (Nat.le_of_ble_eq_true rfl) (fun r69 u69 h69 => ?_)
                obtain ⟨rfl, rfl⟩ := h69
                rcases ho69 : sn N (nI d) j k h 24 with _ | rv69
                · skip
                  refine hd_if_ge 75 80 C dX3_cut_72 rfl (by decide) (fun q => absurd q (by decide)) (fun _ => ?_)
                  refine hd_iload 77 C dX3_cut_75 rfl 5 rfl ?_
                  refine hd_goto 82 C dX3_cut_77 (by decide) ?_
                  refine hd_istore 84 C dX3_cut_82 rfl [(4, .int (nI d)), (0, .ref (a 0)), (1, .int (nI j)), (2, .int (nI k)), (3, .int (nI h)), (5, .int (nI d))] (by decide) rfl ?_
                  refine hd_iinc 87 C dX3_cut_84 rfl 5 (nI d - 1) [(5, .int (nI d - 1)), (4, .int (nI d)), (0, .ref (a 0)), (1, .int (nI j)), (2, .int (nI k)), (3, .int (nI h))] rfl (i_dec _) (by decide) rfl ?_
                  refine hd_goto 52 C dX3_cut_87 (by decide) ?_
                  refine hd_sub [(0, .ref (a 0)), (1, .int (nI j)), (2, .int (nI k)), (3, .int (nI h)), (4, .int (nI d)), (5, .int (nI d - 1))] [2, 3, 4, 5, 1, 0] rfl ?_
                  exact ih_L d _ _ (by omega) (by rw [show N 0 1 - d = (N 0 1 - (d + 1)) + 1 by omega, ctf_succ, if_pos ho69]; rfl) (by omega)
                · skip
                  have hbrv69 := sn_lt _ ho69
                  refine hd_if_geP 75 80 C dX3_cut_72 rfl (by decide) (by omega) ?_
                  refine hd_iload 82 C dX3_cut_80 rfl 4 rfl ?_
                  refine hd_istore 84 C dX3_cut_82 rfl [(4, .int v), (0, .ref (a 0)), (1, .int (nI j)), (2, .int (nI k)), (3, .int (nI h)), (5, .int (nI d))] (by decide) rfl ?_
                  refine hd_iinc 87 C dX3_cut_84 rfl 5 (nI d - 1) [(5, .int (nI d - 1)), (4, .int v), (0, .ref (a 0)), (1, .int (nI j)), (2, .int (nI k)), (3, .int (nI h))] rfl (i_dec _) (by decide) rfl ?_
                  refine hd_goto 52 C dX3_cut_87 (by decide) ?_
                  refine hd_sub [(0, .ref (a 0)), (1, .int (nI j)), (2, .int (nI k)), (3, .int (nI h)), (4, .int v), (5, .int (nI d - 1))] [2, 3, 4, 5, 1, 0] rfl ?_
                  exact ih_L d _ _ (by omega) (by rw [show N 0 1 - d = (N 0 1 - (d + 1)) + 1 by omega, ctf_succ, if_neg (by simp [ho69])]; exact hv) (by omega)
          refine hd_sub [(0, .ref (a 0)), (1, .int (nI j)), (2, .int (nI k)), (3, .int (nI h)), (4, .int (-9)), (5, .int (nI (N 0 1) - 1))] [2, 3, 4, 5, 1, 0] rfl ?_
          exact L (N 0 1 + 1) (N 0 1) _ _ (Nat.le_refl _) (by rw [Nat.sub_self]; rfl) (by omega)
      · skip
        simp only [Bool.not_eq_true', Bool.not_eq_false'] at h22
        refine hd_bipush 27 C dX3_cut_25 rfl (-2) (by decide) ?_
        exact hd_iret C hK dX3_cut_27 ⟨rfl, by simp [spCut, h5, hc_j, h13, hc_k, h22]⟩
    · skip
      simp only [Bool.not_eq_true', Bool.not_eq_false'] at h13
      refine hd_iconst 17 C dX3_cut_16 rfl (-1) (by decide) ?_
      exact hd_iret C hK dX3_cut_17 ⟨rfl, by simp [spCut, h5, hc_j, h13]⟩

set_option maxHeartbeats 4000000 in
set_option maxRecDepth 100000 in
theorem x_roomsInTime {l : Launch} {D : va_G} {cI cJ cD cS : ClassId} {a : Nat → Nat} {N : Nat → Nat → Nat} {Z : Nat → Nat → Int32} {E : Nat → Nat → Int32} {G : Nat → Nat → Int64} {T : Nat → Nat} {t : Option Nat} (fr h : Nat) (hI : inv N) (hf : fr < 6) (hh : h < 12)  : ctI l D (ty4 cI cJ cD cS) t (wX cI cJ cD cS a) yX2_roomsInTime cX2_roomsInTime 5 (some .int) (rmk 2 49) [.ref (a 0), .int (nI fr), .int (nI h)] (N, Z, E, G, T) (fun (r : Int32) (u : sT) => u = (N, Z, E, G, T) ∧ r = nI (ahn N h (2 ^ fr) 24)) := by
  refine ctI_of [(0, .ref (a 0)), (1, .int (nI fr)), (2, .int (nI h))] (by decide) (Nat.le_of_ble_eq_true rfl) rfl ?_
  intro p e s m args below meth c A C hK hZ hA
  refine hd_iconst 1 C dX2_roomsInTime_0 rfl (nI 1) (by decide) ?_
  refine hd_iload_n 2 C dX2_roomsInTime_1 rfl 1 rfl rfl ?_
  refine hd_ishl 3 C dX2_roomsInTime_2 rfl (nI (2 ^ fr)) (nI_shl1 (by omega)) ?_
  refine hd_istore_n 4 C dX2_roomsInTime_3 rfl [(3, .int (nI (2 ^ fr))), (0, .ref (a 0)), (1, .int (nI fr)), (2, .int (nI h))] rfl (by decide) rfl ?_
  refine hd_iconst 5 C dX2_roomsInTime_4 rfl (nI 0) (by decide) ?_
  refine hd_istore 7 C dX2_roomsInTime_5 rfl [(4, .int (nI 0)), (3, .int (nI (2 ^ fr))), (0, .ref (a 0)), (1, .int (nI fr)), (2, .int (nI h))] (by decide) rfl ?_
  have L : ∀ (fuel : Nat) (t : Nat) (ht : t ≤ 24), 24 - t < fuel → XW p l e (rmk 2 49) s m args below meth c 5 0 0 A D (MQ below (va_Qi (fun (r : Int32) (u : sT) => u = (N, Z, E, G, T) ∧ r = nI (ahn N h (2 ^ fr) 24)) (cB D (ty4 cI cJ cD cS) (wX cI cJ cD cS a) A) A) args s 0 0 A) (wX cI cJ cD cS a) (N, Z, E, G, T) 7 [(0, .ref (a 0)), (1, .int (nI fr)), (2, .int (nI h)), (3, .int (nI (ahn N h (2 ^ fr) t))), (4, .int (nI t))] [] := by
    intro fuel
    induction fuel with
    | zero => intro t ht hfu; exact absurd hfu (Nat.not_lt_zero _)
    | succ fuel ih_L =>
      intro t ht hfu_L
      refine hd_iload 9 C dX2_roomsInTime_7 rfl 4 rfl ?_
      refine hd_bipush 11 C dX2_roomsInTime_9 rfl (nI 24) (by decide) ?_
      refine hd_icmp_geN 14 35 C dX2_roomsInTime_11 rfl (by decide) (by omega) (by omega) (fun h11 => ?_) (fun h11 => ?_)
      · skip
        refine hd_iload_n 36 C dX2_roomsInTime_35 rfl 3 rfl rfl ?_
        exact hd_iret C hK dX2_roomsInTime_36 ⟨rfl, by rw [show t = 24 by omega]⟩
      · skip
        refine hd_aload_n 15 C dX2_roomsInTime_14 rfl 0 rfl rfl ?_
        refine hd_iload_n 16 C dX2_roomsInTime_15 rfl 3 rfl rfl ?_
        refine hd_iload_n 17 C dX2_roomsInTime_16 rfl 2 rfl rfl ?_
        refine hd_iload 19 C dX2_roomsInTime_17 rfl 4 rfl ?_
        refine hd_iadd 20 C dX2_roomsInTime_19 rfl (nI (h + t)) (nI_add _ _) ?_
        refine hd_bipush 22 C dX2_roomsInTime_20 rfl (nI 12) (by decide) ?_
        refine hd_irem 23 C dX2_roomsInTime_22 rfl (nI ((h + t) % 12)) (nI_ne0 (by omega) (by omega)) (pk_rem (by omega) (by omega) (by omega)) ?_
        refine hd_bipush 25 C dX2_roomsInTime_23 rfl (-9) (by decide) ?_
        refine hd_callVI (rest := []) 28 C hK hZ hA ⟨Nat.zero_le _, Nat.zero_le _⟩ dX2_roomsInTime_25 rfl kc_X2_130 (x_anHourOn (ahn N h (2 ^ fr) t) ((h + t) % 12) (-9) hI (ahn_lt hI (pow_lt6 hf) t) (by omega)) ⟨rfl, rfl⟩ ⟨by decide, by decide⟩ 0 2 rfl rfl rfl rfl rfl (Nat.le_of_ble_eq_true rfl) (fun r25 u25 h25 => ?_)
        obtain ⟨rfl, rfl⟩ := h25
        refine hd_istore_n 29 C dX2_roomsInTime_28 rfl [(3, .int (nI (ah N (-9) ((h + t) % 12) (ahn N h (2 ^ fr) t)))), (0, .ref (a 0)), (1, .int (nI fr)), (2, .int (nI h)), (4, .int (nI t))] rfl (by decide) rfl ?_
        refine hd_iinc 32 C dX2_roomsInTime_29 rfl 4 (nI (t + 1)) [(4, .int (nI (t + 1))), (3, .int (nI (ah N (-9) ((h + t) % 12) (ahn N h (2 ^ fr) t)))), (0, .ref (a 0)), (1, .int (nI fr)), (2, .int (nI h))] rfl (nI_add _ _) (by decide) rfl ?_
        refine hd_goto 7 C dX2_roomsInTime_32 (by decide) ?_
        refine hd_sub [(0, .ref (a 0)), (1, .int (nI fr)), (2, .int (nI h)), (3, .int (nI (ah N (-9) ((h + t) % 12) (ahn N h (2 ^ fr) t)))), (4, .int (nI (t + 1)))] [2, 3, 4, 1, 0] rfl ?_
        exact ih_L (t + 1) (by omega) (by omega)
  refine hd_sub [(0, .ref (a 0)), (1, .int (nI fr)), (2, .int (nI h)), (3, .int (nI (2 ^ fr))), (4, .int (nI 0))] [2, 3, 4, 1, 0] rfl ?_
  exact L 25 0 (Nat.zero_le _) (by omega)

set_option maxHeartbeats 4000000 in
set_option maxRecDepth 100000 in
theorem x_reach {l : Launch} {D : va_G} {cI cJ cD cS : ClassId} {a : Nat → Nat} {N : Nat → Nat → Nat} {Z : Nat → Nat → Int32} {E : Nat → Nat → Int32} {G : Nat → Nat → Int64} {T : Nat → Nat} {t : Option Nat} (h0 : Int32) (hI : inv N)  : ctI l D (ty4 cI cJ cD cS) t (wX cI cJ cD cS a) yX2_reach cX2_reach 4 (some .int) (rmk 3 73) [.ref (a 0), .int h0] (N, Z, E, G, T) (fun (r : Int32) (u : sT) => u = (N, Z, E, G, T) ∧ r = spReach N h0) := by
  refine ctI_of [(0, .ref (a 0)), (1, .int h0)] (by decide) (Nat.le_of_ble_eq_true rfl) rfl ?_
  intro p e s m args below meth c A C hK hZ hA
  have hR := hI.R
  have hDn := hI.D
  have hQn := hI.Q
  refine hd_aload_n 1 C dX2_reach_0 rfl 0 rfl rfl ?_
  refine gx_rooms 4 C hK dX2_reach_1 rfl (nI (N 0 0)) rfl ?_
  refine hd_if_neN 7 10 C dX2_reach_4 rfl (by decide) (by omega) (fun h4 => ?_) (fun h4 => ?_)
  · skip
    refine hd_iload_n 11 C dX2_reach_10 rfl 1 rfl rfl ?_
    refine hd_callSI (rest := []) 14 C hK hZ hA ⟨Nat.zero_le _, Nat.zero_le _⟩ dX2_reach_11 rfl kc_X2_94 (x_isHour h0) ⟨rfl, rfl⟩ ⟨by decide, by decide⟩ rfl rfl (Nat.le_of_ble_eq_true rfl) (fun r11 u11 h11 => ?_)
    obtain ⟨rfl, rfl⟩ := h11
    refine hd_if_neB 17 20 C dX2_reach_14 rfl (by decide) (fun h14 => ?_) (fun h14 => ?_)
    · skip
      obtain ⟨h, hj_h, rfl⟩ := inB_t h14 (by omega)
      have hc_h : (nI h).toNatClampNeg = h := nI_clamp (by omega)
      refine hd_iconst 21 C dX2_reach_20 rfl (nI 0) (by decide) ?_
      refine hd_istore_n 22 C dX2_reach_21 rfl [(2, .int (nI 0)), (0, .ref (a 0)), (1, .int (nI h))] rfl (by decide) rfl ?_
      refine hd_iconst 23 C dX2_reach_22 rfl (nI 0) (by decide) ?_
      refine hd_istore_n 24 C dX2_reach_23 rfl [(3, .int (nI 0)), (2, .int (nI 0)), (0, .ref (a 0)), (1, .int (nI h))] rfl (by decide) rfl ?_
      have L : ∀ (fuel : Nat) (f : Nat) (hf : f ≤ N 0 0), N 0 0 - f < fuel → XW p l e (rmk 3 73) s m args below meth c 4 0 0 A D (MQ below (va_Qi (fun (r : Int32) (u : sT) => u = (N, Z, E, G, T) ∧ r = spReach N (nI h)) (cB D (ty4 cI cJ cD cS) (wX cI cJ cD cS a) A) A) args s 0 0 A) (wX cI cJ cD cS a) (N, Z, E, G, T) 24 [(0, .ref (a 0)), (1, .int (nI h)), (2, .int (nI (rcf N h f))), (3, .int (nI f))] [] := by
        intro fuel
        induction fuel with
        | zero => intro f hf hfu; exact absurd hfu (Nat.not_lt_zero _)
        | succ fuel ih_L =>
          intro f hf hfu_L
          refine hd_iload_n 25 C dX2_reach_24 rfl 3 rfl rfl ?_
          refine hd_aload_n 26 C dX2_reach_25 rfl 0 rfl rfl ?_
          refine gx_rooms 29 C hK dX2_reach_26 rfl (nI (N 0 0)) rfl ?_
          refine hd_icmp_geN 32 57 C dX2_reach_29 rfl (by decide) (by omega) (by omega) (fun h29 => ?_) (fun h29 => ?_)
          · skip
            refine hd_iload_n 58 C dX2_reach_57 rfl 2 rfl rfl ?_
            exact hd_iret C hK dX2_reach_58 ⟨rfl, by rw [show f = N 0 0 by omega]; simp [spReach, h4, h14, hc_h]⟩
          · skip
            refine hd_aload_n 33 C dX2_reach_32 rfl 0 rfl rfl ?_
            refine hd_iload_n 34 C dX2_reach_33 rfl 3 rfl rfl ?_
            refine hd_iload_n 35 C dX2_reach_34 rfl 1 rfl rfl ?_
            refine hd_callVI (rest := []) 38 C hK hZ hA ⟨Nat.zero_le _, Nat.zero_le _⟩ dX2_reach_35 rfl kc_X2_133 (x_roomsInTime f h hI (by omega) (by omega)) ⟨rfl, rfl⟩ ⟨by decide, by decide⟩ 0 2 rfl rfl rfl rfl rfl (Nat.le_of_ble_eq_true rfl) (fun r35 u35 h35 => ?_)
            obtain ⟨rfl, rfl⟩ := h35
            refine hd_aload_n 39 C dX2_reach_38 rfl 0 rfl rfl ?_
            refine hd_callVI (rest := [.int (nI (ahn N h (2 ^ f) 24))]) 42 C hK hZ hA ⟨Nat.zero_le _, Nat.zero_le _⟩ dX2_reach_39 rfl kc_X2_123 (x_allRooms hI) ⟨rfl, rfl⟩ ⟨by decide, by decide⟩ 0 2 rfl rfl rfl rfl rfl (Nat.le_of_ble_eq_true rfl) (fun r39 u39 h39 => ?_)
            obtain ⟨rfl, rfl⟩ := h39
            have hl1 := ahn_lt hI (hr := h) (pow_lt6 (show f < 6 by omega)) 24
            have hl2 : 2 ^ N 0 0 - 1 < 2 ^ 31 := Nat.lt_of_le_of_lt (Nat.sub_le _ _) (Nat.pow_lt_pow_right (by decide) (by omega))
            refine hd_icmp_neN 45 51 C dX2_reach_42 rfl (by decide) (by omega) (by omega) (fun h42 => ?_) (fun h42 => ?_)
            · skip
              refine hd_iinc 54 C dX2_reach_51 rfl 3 (nI (f + 1)) [(3, .int (nI (f + 1))), (0, .ref (a 0)), (1, .int (nI h)), (2, .int (nI (rcf N h f)))] rfl (nI_add _ _) (by decide) rfl ?_
              refine hd_goto 24 C dX2_reach_54 (by decide) ?_
              rw [show rcf N h f = rcf N h (f + 1) from (by simp [rcf, h42])]
              refine hd_sub [(0, .ref (a 0)), (1, .int (nI h)), (2, .int (nI (rcf N h (f + 1)))), (3, .int (nI (f + 1)))] [1, 2, 3, 0] rfl ?_
              exact ih_L (f + 1) (by omega) (by omega)
            · skip
              refine hd_iload_n 46 C dX2_reach_45 rfl 2 rfl rfl ?_
              refine hd_iconst 47 C dX2_reach_46 rfl (nI 1) (by decide) ?_
              refine hd_iload_n 48 C dX2_reach_47 rfl 3 rfl rfl ?_
              refine hd_ishl 49 C dX2_reach_48 rfl (nI (2 ^ f)) (nI_shl1 (by omega)) ?_
              refine hd_ior 50 C dX2_reach_49 rfl (nI ((rcf N h f) ||| (2 ^ f))) (fa_or _ _) ?_
              refine hd_istore_n 51 C dX2_reach_50 rfl [(2, .int (nI ((rcf N h f) ||| (2 ^ f)))), (0, .ref (a 0)), (1, .int (nI h)), (3, .int (nI f))] rfl (by decide) rfl ?_
              refine hd_iinc 54 C dX2_reach_51 rfl 3 (nI (f + 1)) [(3, .int (nI (f + 1))), (2, .int (nI ((rcf N h f) ||| (2 ^ f)))), (0, .ref (a 0)), (1, .int (nI h))] rfl (nI_add _ _) (by decide) rfl ?_
              refine hd_goto 24 C dX2_reach_54 (by decide) ?_
              rw [show (rcf N h f) ||| (2 ^ f) = rcf N h (f + 1) from (by simp [rcf, h42])]
              refine hd_sub [(0, .ref (a 0)), (1, .int (nI h)), (2, .int (nI (rcf N h (f + 1)))), (3, .int (nI (f + 1)))] [2, 3, 1, 0] rfl ?_
              exact ih_L (f + 1) (by omega) (by omega)
      refine hd_sub [(0, .ref (a 0)), (1, .int (nI h)), (2, .int (nI 0)), (3, .int (nI 0))] [2, 3, 1, 0] rfl ?_
      exact L (N 0 0 + 1) 0 (Nat.zero_le _) (by omega)
    · skip
      refine hd_bipush 19 C dX2_reach_17 rfl (-2) (by decide) ?_
      exact hd_iret C hK dX2_reach_19 ⟨rfl, by simp [spReach, h4, h14]⟩
  · skip
    refine hd_bipush 9 C dX2_reach_7 rfl (-3) (by decide) ?_
    exact hd_iret C hK dX2_reach_9 ⟨rfl, by simp [spReach, h4]⟩

set_option maxHeartbeats 4000000 in
set_option maxRecDepth 100000 in
theorem x_becomeLike {l : Launch} {D : va_G} {cI cJ cD cS : ClassId} {a : Nat → Nat} {N : Nat → Nat → Nat} {Z : Nat → Nat → Int32} {E : Nat → Nat → Int32} {G : Nat → Nat → Int64} {T : Nat → Nat} {t : Option Nat} (d : Nat) (hd : d < 8)  : ctV l D (ty4 cI cJ cD cS) t (wX cI cJ cD cS a) yX0_becomeLike cX0_becomeLike 2 none (rmk 0 0) [.ref (a 2), .ref (a (20 + d))] (N, Z, E, G, T) (fun (u : sT) => ∃ T2 : Nat → Nat, u = (N, Z, E, G, T2) ∧ T2 0 = N 1 d ∧ T2 2 = N 3 d ∧ T2 3 = N 4 d) := by
  refine ctV_of [(0, .ref (a 2)), (1, .ref (a (20 + d)))] (by decide) (Nat.le_of_ble_eq_true rfl) rfl ?_
  intro p e s m args below meth c A C hK hZ hA
  refine hd_aload_n 1 C dX0_becomeLike_0 rfl 0 rfl rfl ?_
  refine hd_aload_n 2 C dX0_becomeLike_1 rfl 1 rfl rfl ?_
  refine gd0_kind (by omega) 5 C hK dX0_becomeLike_2 rfl (nI (N 1 d)) rfl ?_
  refine pt0_kind 8 C hK dX0_becomeLike_5 rfl ?_
  refine hd_aload_n 9 C dX0_becomeLike_8 rfl 0 rfl rfl ?_
  refine hd_aload_n 10 C dX0_becomeLike_9 rfl 1 rfl rfl ?_
  refine gd0_room (by omega) 13 C hK dX0_becomeLike_10 rfl (nI (N 2 d)) rfl ?_
  refine pt0_room 16 C hK dX0_becomeLike_13 rfl ?_
  refine hd_aload_n 17 C dX0_becomeLike_16 rfl 0 rfl rfl ?_
  refine hd_aload_n 18 C dX0_becomeLike_17 rfl 1 rfl rfl ?_
  refine gd0_to (by omega) 21 C hK dX0_becomeLike_18 rfl (nI (N 3 d)) rfl ?_
  refine pt0_to 24 C hK dX0_becomeLike_21 rfl ?_
  refine hd_aload_n 25 C dX0_becomeLike_24 rfl 0 rfl rfl ?_
  refine hd_aload_n 26 C dX0_becomeLike_25 rfl 1 rfl rfl ?_
  refine gd0_step (by omega) 29 C hK dX0_becomeLike_26 rfl (nI (N 4 d)) rfl ?_
  refine pt0_step 32 C hK dX0_becomeLike_29 rfl ?_
  exact hd_vret C hK dX0_becomeLike_32 ⟨_, rfl, rfl, rfl, rfl⟩

set_option maxHeartbeats 4000000 in
set_option maxRecDepth 100000 in
theorem x_readingsHold {l : Launch} {D : va_G} {cI cJ cD cS : ClassId} {a : Nat → Nat} {N : Nat → Nat → Nat} {Z : Nat → Nat → Int32} {E : Nat → Nat → Int32} {G : Nat → Nat → Int64} {T : Nat → Nat} {t : Option Nat} (d : Nat) (hI : inv N) (hT : T 0 < 3 ∧ T 2 < 6 ∧ T 3 < 6) (hd : d < N 0 1)  : ctI l D (ty4 cI cJ cD cS) t (wX cI cJ cD cS a) yX2_readingsHold cX2_readingsHold 4 (some .boolean) (rmk 1 23) [.ref (a 0), .int (nI d)] (N, Z, E, G, T) (fun (r : Int32) (u : sT) => u = (N, Z, E, G, T) ∧ r = bI (rdT N T (Z 1) d (N 0 2))) := by
  refine ctI_of [(0, .ref (a 0)), (1, .int (nI d))] (by decide) (Nat.le_of_ble_eq_true rfl) rfl ?_
  intro p e s m args below meth c A C hK hZ hA
  have hR := hI.R
  have hDn := hI.D
  have hQn := hI.Q
  have hpos := hI.pos hd
  refine hd_iconst 1 C dX2_readingsHold_0 rfl (nI 0) (by decide) ?_
  refine hd_istore_n 2 C dX2_readingsHold_1 rfl [(2, .int (nI 0)), (0, .ref (a 0)), (1, .int (nI d))] rfl (by decide) rfl ?_
  have L : ∀ (fuel : Nat) (k : Nat) (hk : k ≤ N 0 2) (hF : rdT N T (Z 1) d k = true), N 0 2 - k < fuel → XW p l e (rmk 1 23) s m args below meth c 4 0 0 A D (MQ below (va_Qi (fun (r : Int32) (u : sT) => u = (N, Z, E, G, T) ∧ r = bI (rdT N T (Z 1) d (N 0 2))) (cB D (ty4 cI cJ cD cS) (wX cI cJ cD cS a) A) A) args s 0 0 A) (wX cI cJ cD cS a) (N, Z, E, G, T) 2 [(0, .ref (a 0)), (1, .int (nI d)), (2, .int (nI k))] [] := by
    intro fuel
    induction fuel with
    | zero => intro k hk hF hfu; exact absurd hfu (Nat.not_lt_zero _)
    | succ fuel ih_L =>
      intro k hk hF hfu_L
      refine hd_iload_n 3 C dX2_readingsHold_2 rfl 2 rfl rfl ?_
      refine hd_aload_n 4 C dX2_readingsHold_3 rfl 0 rfl rfl ?_
      refine gx_readingCount 7 C hK dX2_readingsHold_4 rfl (nI (N 0 2)) rfl ?_
      refine hd_icmp_geN 10 70 C dX2_readingsHold_7 rfl (by decide) (by omega) (by omega) (fun h7 => ?_) (fun h7 => ?_)
      · skip
        refine hd_iconst 71 C dX2_readingsHold_70 rfl (nI 1) (by decide) ?_
        exact hd_zret C hK dX2_readingsHold_71 (by decide) ⟨rfl, bI_is1 (by rw [show N 0 2 = k by omega]; exact hF)⟩
      · skip
        have hrd := hI.rd k
        have hrdd := hI.rdd h7
        refine hd_aload_n 11 C dX2_readingsHold_10 rfl 0 rfl rfl ?_
        refine gx_readDoor 14 C hK dX2_readingsHold_11 rfl ?_
        refine hd_iload_n 15 C dX2_readingsHold_14 rfl 2 rfl rfl ?_
        refine alx_readDoor 16 C hK dX2_readingsHold_15 rfl (by omega) (nI (N 5 k)) rfl ?_
        refine hd_iload_n 17 C dX2_readingsHold_16 rfl 1 rfl rfl ?_
        refine hd_icmp_neN 20 27 C dX2_readingsHold_17 rfl (by decide) (by omega) (by omega) (fun h17 => ?_) (fun h17 => ?_)
        · skip
          refine hd_aload_n 28 C dX2_readingsHold_27 rfl 0 rfl rfl ?_
          refine gx_doors 31 C hK dX2_readingsHold_28 rfl ?_
          refine hd_aload_n 32 C dX2_readingsHold_31 rfl 0 rfl rfl ?_
          refine gx_readDoor 35 C hK dX2_readingsHold_32 rfl ?_
          refine hd_iload_n 36 C dX2_readingsHold_35 rfl 2 rfl rfl ?_
          refine alx_readDoor 37 C hK dX2_readingsHold_36 rfl (by omega) (nI (N 5 k)) rfl ?_
          refine alx_doors 38 C hK dX2_readingsHold_37 rfl (by omega) ?_
          refine hd_astore_n 39 C dX2_readingsHold_38 rfl [(3, .ref (a (20 + (N 5 k)))), (0, .ref (a 0)), (1, .int (nI d)), (2, .int (nI k))] rfl (by decide) rfl ?_
          refine hd_aload_n 40 C dX2_readingsHold_39 rfl 0 rfl rfl ?_
          refine hd_aload_n 41 C dX2_readingsHold_40 rfl 1 rfl rfl ?_
          refine gx_readHour 44 C hK dX2_readingsHold_41 rfl ?_
          refine hd_iload_n 45 C dX2_readingsHold_44 rfl 3 rfl rfl ?_
          refine alx_readHour 46 C hK dX2_readingsHold_45 rfl (by omega) (nI (N 6 k)) rfl ?_
          refine hd_aload_n 47 C dX2_readingsHold_46 rfl 1 rfl rfl ?_
          refine gx_rooms 50 C hK dX2_readingsHold_47 rfl (nI (N 0 0)) rfl ?_
          refine hd_callVI (rest := []) 53 C hK hZ hA ⟨Nat.zero_le _, Nat.zero_le _⟩ dX2_readingsHold_50 rfl kc_X2_100 (x_leadsTo (N 5 k) (N 6 k) hI (by omega) (by omega) (by omega)) ⟨rfl, rfl⟩ ⟨by decide, by decide⟩ (10 + (N 5 k)) 0 (wX_door _ (by omega)) rfl rfl rfl rfl (Nat.le_of_ble_eq_true rfl) (fun r50 u50 h50 => ?_)
          obtain ⟨rfl, rfl⟩ := h50
          refine hd_aload_n 54 C dX2_readingsHold_53 rfl 1 rfl rfl ?_
          refine gx_readRoom 57 C hK dX2_readingsHold_54 rfl ?_
          refine hd_iload_n 58 C dX2_readingsHold_57 rfl 3 rfl rfl ?_
          refine alx_readRoom 59 C hK dX2_readingsHold_58 rfl (by omega) (Z 1 k) rfl ?_
          refine hd_icmp_eq 62 64 C dX2_readingsHold_59 rfl (by decide) (fun h59 => ?_) (fun h59 => ?_)
          · skip
            refine hd_iinc 67 C dX2_readingsHold_64 rfl 3 (nI (k + 1)) [(2, .int (nI (k + 1))), (3, .ref (a (20 + (N 5 k)))), (0, .ref (a 0)), (1, .int (nI d))] rfl (nI_add _ _) (by decide) rfl ?_
            refine hd_goto 2 C dX2_readingsHold_67 (by decide) ?_
            refine hd_sub [(0, .ref (a 0)), (1, .int (nI d)), (2, .int (nI (k + 1)))] [2, 3, 0] rfl ?_
            exact ih_L (k + 1) (by omega) (by rw [rdT, hF, Bool.true_and]; exact decide_eq_true (by simp [h17] at *; exact h59)) (by omega)
          · skip
            refine hd_iconst 63 C dX2_readingsHold_62 rfl (nI 0) (by decide) ?_
            exact hd_zret C hK dX2_readingsHold_63 (by decide) ⟨rfl, bI_is0 (rdT_false _ h7 (by simp only [h17, if_true, if_false]; exact h59))⟩
        · skip
          refine hd_aload_n 21 C dX2_readingsHold_20 rfl 0 rfl rfl ?_
          refine gx_trial 24 C hK dX2_readingsHold_21 rfl ?_
          refine hd_goto 38 C dX2_readingsHold_24 (by decide) ?_
          refine hd_astore_n 39 C dX2_readingsHold_38 rfl [(3, .ref (a 2)), (0, .ref (a 0)), (1, .int (nI d)), (2, .int (nI k))] rfl (by decide) rfl ?_
          refine hd_aload_n 40 C dX2_readingsHold_39 rfl 0 rfl rfl ?_
          refine hd_aload_n 41 C dX2_readingsHold_40 rfl 1 rfl rfl ?_
          refine gx_readHour 44 C hK dX2_readingsHold_41 rfl ?_
          refine hd_iload_n 45 C dX2_readingsHold_44 rfl 3 rfl rfl ?_
          refine alx_readHour 46 C hK dX2_readingsHold_45 rfl (by omega) (nI (N 6 k)) rfl ?_
          refine hd_aload_n 47 C dX2_readingsHold_46 rfl 1 rfl rfl ?_
          refine gx_rooms 50 C hK dX2_readingsHold_47 rfl (nI (N 0 0)) rfl ?_
          refine hd_callVI (rest := []) 53 C hK hZ hA ⟨Nat.zero_le _, Nat.zero_le _⟩ dX2_readingsHold_50 rfl kc_X2_100 (x_leadsToT (N 6 k) hI hT (by omega) (by omega)) ⟨rfl, rfl⟩ ⟨by decide, by decide⟩ 2 0 rfl rfl rfl rfl rfl (Nat.le_of_ble_eq_true rfl) (fun r50 u50 h50 => ?_)
          obtain ⟨rfl, rfl⟩ := h50
          refine hd_aload_n 54 C dX2_readingsHold_53 rfl 1 rfl rfl ?_
          refine gx_readRoom 57 C hK dX2_readingsHold_54 rfl ?_
          refine hd_iload_n 58 C dX2_readingsHold_57 rfl 3 rfl rfl ?_
          refine alx_readRoom 59 C hK dX2_readingsHold_58 rfl (by omega) (Z 1 k) rfl ?_
          refine hd_icmp_eq 62 64 C dX2_readingsHold_59 rfl (by decide) (fun h59 => ?_) (fun h59 => ?_)
          · skip
            refine hd_iinc 67 C dX2_readingsHold_64 rfl 3 (nI (k + 1)) [(2, .int (nI (k + 1))), (3, .ref (a 2)), (0, .ref (a 0)), (1, .int (nI d))] rfl (nI_add _ _) (by decide) rfl ?_
            refine hd_goto 2 C dX2_readingsHold_67 (by decide) ?_
            refine hd_sub [(0, .ref (a 0)), (1, .int (nI d)), (2, .int (nI (k + 1)))] [2, 3, 0] rfl ?_
            exact ih_L (k + 1) (by omega) (by rw [rdT, hF, Bool.true_and]; exact decide_eq_true (by simp [h17] at *; exact h59)) (by omega)
          · skip
            refine hd_iconst 63 C dX2_readingsHold_62 rfl (nI 0) (by decide) ?_
            exact hd_zret C hK dX2_readingsHold_63 (by decide) ⟨rfl, bI_is0 (rdT_false _ h7 (by simp only [h17, if_true, if_false]; exact h59))⟩
  refine hd_sub [(0, .ref (a 0)), (1, .int (nI d)), (2, .int (nI 0))] [1, 2, 0] rfl ?_
  exact L (N 0 2 + 1) 0 (Nat.zero_le _) rfl (by omega)

set_option maxHeartbeats 4000000 in
set_option maxRecDepth 100000 in
theorem m_areSo {l : Launch} {D : va_G} {cI cJ cD cS : ClassId} {a : Nat → Nat} {N : Nat → Nat → Nat} {Z : Nat → Nat → Int32} {E : Nat → Nat → Int32} {G : Nat → Nat → Int64} {T : Nat → Nat} (hI : inv N)  : ctI l D (ty4 cI cJ cD cS) none (wM cI a) yX3_areSo cX3_areSo 3 (some .boolean) (rmk 1 23) [.ref (a 0)] (N, Z, E, G, T) (fun (r : Int32) (u : sT) => u = (N, Z, E, G, T) ∧ r = bI (rdo N (Z 1) (N 0 2))) := by
  refine ctI_of [(0, .ref (a 0))] (by decide) (Nat.le_of_ble_eq_true rfl) rfl ?_
  intro p e s m args below meth c A C hK hZ hA
  have hR := hI.R
  have hDn := hI.D
  have hQn := hI.Q
  refine hd_iconst 1 C dX3_areSo_0 rfl (nI 1) (by decide) ?_
  refine hd_istore_n 2 C dX3_areSo_1 rfl [(1, .int (nI 1)), (0, .ref (a 0))] rfl (by decide) rfl ?_
  refine hd_iconst 3 C dX3_areSo_2 rfl (nI 0) (by decide) ?_
  refine hd_istore_n 4 C dX3_areSo_3 rfl [(2, .int (nI 0)), (1, .int (nI 1)), (0, .ref (a 0))] rfl (by decide) rfl ?_
  have L : ∀ (fuel : Nat) (k : Nat) (v : Int32) (hk : k ≤ N 0 2) (hv : v = bI (rdo N (Z 1) k)), N 0 2 - k < fuel → XW p l e (rmk 1 23) s m args below meth c 3 0 0 A D (MQ below (va_Qi (fun (r : Int32) (u : sT) => u = (N, Z, E, G, T) ∧ r = bI (rdo N (Z 1) (N 0 2))) (cB D (ty4 cI cJ cD cS) (wM cI a) A) A) args s 0 0 A) (wM cI a) (N, Z, E, G, T) 4 [(0, .ref (a 0)), (1, .int v), (2, .int (nI k))] [] := by
    intro fuel
    induction fuel with
    | zero => intro k v hk hv hfu; exact absurd hfu (Nat.not_lt_zero _)
    | succ fuel ih_L =>
      intro k v hk hv hfu_L
      refine hd_iload_n 5 C dX3_areSo_4 rfl 2 rfl rfl ?_
      refine hd_aload_n 6 C dX3_areSo_5 rfl 0 rfl rfl ?_
      refine gm_readings 9 C hK dX3_areSo_6 rfl (nI (N 0 2)) rfl ?_
      refine hd_icmp_geN 12 53 C dX3_areSo_9 rfl (by decide) (by omega) (by omega) (fun h9 => ?_) (fun h9 => ?_)
      · skip
        refine hd_iload_n 54 C dX3_areSo_53 rfl 1 rfl rfl ?_
        exact hd_zret C hK dX3_areSo_54 (by rw [hv]; exact bI_01 _) ⟨rfl, by rw [hv, show k = N 0 2 by omega]⟩
      · skip
        have hrd := hI.rd k
        have hrdd := hI.rdd h9
        have hpos := hI.pos hrdd
        refine hd_iload_n 13 C dX3_areSo_12 rfl 1 rfl rfl ?_
        refine hd_if_eq 16 45 C dX3_areSo_13 rfl (by decide) (fun h13 => ?_) (fun h13 => ?_)
        · skip
          refine hd_iconst 46 C dX3_areSo_45 rfl (nI 0) (by decide) ?_
          refine hd_istore_n 47 C dX3_areSo_46 rfl [(1, .int (nI 0)), (0, .ref (a 0)), (2, .int (nI k))] rfl (by decide) rfl ?_
          refine hd_iinc 50 C dX3_areSo_47 rfl 2 (nI (k + 1)) [(2, .int (nI (k + 1))), (1, .int (nI 0)), (0, .ref (a 0))] rfl (nI_add _ _) (by decide) rfl ?_
          refine hd_goto 4 C dX3_areSo_50 (by decide) ?_
          refine hd_sub [(0, .ref (a 0)), (1, .int (nI 0)), (2, .int (nI (k + 1)))] [2, 1, 0] rfl ?_
          exact ih_L (k + 1) _ (by omega) (by rw [rdo, (bI_ne0 hv).1.mp h13]; rfl) (by omega)
        · skip
          refine hd_aload_n 17 C dX3_areSo_16 rfl 0 rfl rfl ?_
          refine hd_aload_n 18 C dX3_areSo_17 rfl 0 rfl rfl ?_
          refine gm_readingOf 21 C hK dX3_areSo_18 rfl ?_
          refine hd_iload_n 22 C dX3_areSo_21 rfl 2 rfl rfl ?_
          refine alm_readingOf 23 C hK dX3_areSo_22 rfl (by omega) (nI (N 5 k)) rfl ?_
          refine hd_aload_n 24 C dX3_areSo_23 rfl 0 rfl rfl ?_
          refine gm_readingBy 27 C hK dX3_areSo_24 rfl ?_
          refine hd_iload_n 28 C dX3_areSo_27 rfl 2 rfl rfl ?_
          refine alm_readingBy 29 C hK dX3_areSo_28 rfl (by omega) (nI (N 6 k)) rfl ?_
          refine hd_callVI (rest := []) 32 C hK hZ hA ⟨Nat.zero_le _, Nat.zero_le _⟩ dX3_areSo_29 rfl kc_X3_140 (m_leadsAt (N 5 k) (N 6 k) hI (by omega) (by omega) (by omega)) ⟨rfl, rfl⟩ ⟨by decide, by decide⟩ 0 3 rfl rfl rfl rfl rfl (Nat.le_of_ble_eq_true rfl) (fun r29 u29 h29 => ?_)
          obtain ⟨rfl, rfl⟩ := h29
          refine hd_aload_n 33 C dX3_areSo_32 rfl 0 rfl rfl ?_
          refine gm_readingAt 36 C hK dX3_areSo_33 rfl ?_
          refine hd_iload_n 37 C dX3_areSo_36 rfl 2 rfl rfl ?_
          refine alm_readingAt 38 C hK dX3_areSo_37 rfl (by omega) (Z 1 k) rfl ?_
          refine hd_icmp_ne 41 45 C dX3_areSo_38 rfl (by decide) (fun h38 => ?_) (fun h38 => ?_)
          · skip
            refine hd_iconst 46 C dX3_areSo_45 rfl (nI 0) (by decide) ?_
            refine hd_istore_n 47 C dX3_areSo_46 rfl [(1, .int (nI 0)), (0, .ref (a 0)), (2, .int (nI k))] rfl (by decide) rfl ?_
            refine hd_iinc 50 C dX3_areSo_47 rfl 2 (nI (k + 1)) [(2, .int (nI (k + 1))), (1, .int (nI 0)), (0, .ref (a 0))] rfl (nI_add _ _) (by decide) rfl ?_
            refine hd_goto 4 C dX3_areSo_50 (by decide) ?_
            refine hd_sub [(0, .ref (a 0)), (1, .int (nI 0)), (2, .int (nI (k + 1)))] [2, 1, 0] rfl ?_
            exact ih_L (k + 1) _ (by omega) (by rw [rdo, (bI_ne0 hv).2.mp h13, Bool.true_and]; exact bI_is0 (decide_eq_false h38)) (by omega)
          · skip
            refine hd_iconst 42 C dX3_areSo_41 rfl (nI 1) (by decide) ?_
            refine hd_goto 46 C dX3_areSo_42 (by decide) ?_
            refine hd_istore_n 47 C dX3_areSo_46 rfl [(1, .int (nI 1)), (0, .ref (a 0)), (2, .int (nI k))] rfl (by decide) rfl ?_
            refine hd_iinc 50 C dX3_areSo_47 rfl 2 (nI (k + 1)) [(2, .int (nI (k + 1))), (1, .int (nI 1)), (0, .ref (a 0))] rfl (nI_add _ _) (by decide) rfl ?_
            refine hd_goto 4 C dX3_areSo_50 (by decide) ?_
            refine hd_sub [(0, .ref (a 0)), (1, .int (nI 1)), (2, .int (nI (k + 1)))] [2, 1, 0] rfl ?_
            exact ih_L (k + 1) _ (by omega) (by rw [rdo, (bI_ne0 hv).2.mp h13, Bool.true_and]; exact bI_is1 (decide_eq_true h38)) (by omega)
  refine hd_sub [(0, .ref (a 0)), (1, .int (nI 1)), (2, .int (nI 0))] [2, 1, 0] rfl ?_
  exact L (N 0 2 + 1) 0 _ (Nat.zero_le _) rfl (by omega)

set_option maxHeartbeats 4000000 in
set_option maxRecDepth 100000 in
theorem x_steps {l : Launch} {D : va_G} {cI cJ cD cS : ClassId} {a : Nat → Nat} {N : Nat → Nat → Nat} {Z : Nat → Nat → Int32} {E : Nat → Nat → Int32} {G : Nat → Nat → Int64} {T : Nat → Nat} {t : Option Nat} (d : Int32) (hI : inv N)  : ctI l D (ty4 cI cJ cD cS) t (wX cI cJ cD cS a) yX2_steps cX2_steps 4 (some .int) (rmk 2 46) [.ref (a 0), .int d] (N, Z, E, G, T) (fun (r : Int32) (u : sT) => (∃ T2 : Nat → Nat, u = (N, Z, E, G, T2)) ∧ r = spSteps N (Z 1) d) := by
  refine ctI_of [(0, .ref (a 0)), (1, .int d)] (by decide) (Nat.le_of_ble_eq_true rfl) rfl ?_
  intro p e s m args below meth c A C hK hZ hA
  have hR := hI.R
  have hDn := hI.D
  have hQn := hI.Q
  refine hd_aload_n 1 C dX2_steps_0 rfl 0 rfl rfl ?_
  refine hd_iload_n 2 C dX2_steps_1 rfl 1 rfl rfl ?_
  refine hd_callVI (rest := []) 5 C hK hZ hA ⟨Nat.zero_le _, Nat.zero_le _⟩ dX2_steps_2 rfl kc_X2_79 (x_isDoor d hI) ⟨rfl, rfl⟩ ⟨by decide, by decide⟩ 0 2 rfl rfl rfl rfl rfl (Nat.le_of_ble_eq_true rfl) (fun r2 u2 h2 => ?_)
  obtain ⟨rfl, rfl⟩ := h2
  refine hd_if_neB 8 10 C dX2_steps_5 rfl (by decide) (fun h5 => ?_) (fun h5 => ?_)
  · skip
    obtain ⟨j, hj_j, rfl⟩ := inB_t h5 (by omega)
    have hc_j : (nI j).toNatClampNeg = j := nI_clamp (by omega)
    have hdr := hI.door j
    refine hd_iconst 11 C dX2_steps_10 rfl (nI 0) (by decide) ?_
    refine hd_istore_n 12 C dX2_steps_11 rfl [(2, .int (nI 0)), (0, .ref (a 0)), (1, .int (nI j))] rfl (by decide) rfl ?_
    refine hd_aload_n 13 C dX2_steps_12 rfl 1 rfl rfl ?_
    refine gx_trial 16 C hK dX2_steps_13 rfl ?_
    refine hd_aload_n 17 C dX2_steps_16 rfl 1 rfl rfl ?_
    refine gx_doors 20 C hK dX2_steps_17 rfl ?_
    refine hd_iload_n 21 C dX2_steps_20 rfl 2 rfl rfl ?_
    refine alx_doors 22 C hK dX2_steps_21 rfl (by omega) ?_
    refine hd_callVV (rest := []) 25 C hK hZ hA ⟨Nat.zero_le _, Nat.zero_le _⟩ dX2_steps_22 rfl kc_X2_139 (x_becomeLike j (by omega)) ⟨rfl, rfl⟩ ⟨by decide, by decide⟩ 2 0 rfl rfl rfl rfl rfl (Nat.le_of_ble_eq_true rfl) (fun u22 h22 => ?_)
    obtain ⟨T2, rfl, hT0, hT2, hT3⟩ := h22
    refine hd_iconst 26 C dX2_steps_25 rfl (nI 0) (by decide) ?_
    refine hd_istore_n 27 C dX2_steps_26 rfl [(3, .int (nI 0)), (2, .int (nI 0)), (0, .ref (a 0)), (1, .int (nI j))] rfl (by decide) rfl ?_
    have L : ∀ (fuel : Nat) (v : Nat) (T2 : Nat → Nat) (hv : v ≤ 6) (hT0 : T2 0 = N 1 j) (hT2 : T2 2 = N 3 j), 6 - v < fuel → XW p l e (rmk 2 46) s m args below meth c 4 0 0 A D (MQ below (va_Qi (fun (r : Int32) (u : sT) => (∃ T2 : Nat → Nat, u = (N, Z, E, G, T2)) ∧ r = spSteps N (Z 1) (nI j)) (cB D (ty4 cI cJ cD cS) (wX cI cJ cD cS a) A) A) args s 0 0 A) (wX cI cJ cD cS a) (N, Z, E, G, T2) 27 [(0, .ref (a 0)), (1, .int (nI j)), (2, .int (nI (trS (fun v => rdo (uN N 4 j v) (Z 1) (N 0 2)) v))), (3, .int (nI v))] [] := by
      intro fuel
      induction fuel with
      | zero => intro v T2 hv hT0 hT2 hfu; exact absurd hfu (Nat.not_lt_zero _)
      | succ fuel ih_L =>
        intro v T2 hv hT0 hT2 hfu_L
        refine hd_iload_n 28 C dX2_steps_27 rfl 3 rfl rfl ?_
        refine hd_iconst 29 C dX2_steps_28 rfl (nI 5) (by decide) ?_
        refine hd_icmp_gtN 32 60 C dX2_steps_29 rfl (by decide) (by omega) (by omega) (fun h29 => ?_) (fun h29 => ?_)
        · skip
          refine hd_iload_n 61 C dX2_steps_60 rfl 2 rfl rfl ?_
          exact hd_iret C hK dX2_steps_61 ⟨⟨_, rfl⟩, by rw [show v = 6 by omega]; simp [spSteps, h5, hc_j]⟩
        · skip
          refine hd_aload_n 33 C dX2_steps_32 rfl 0 rfl rfl ?_
          refine gx_trial 36 C hK dX2_steps_33 rfl ?_
          refine hd_iload_n 37 C dX2_steps_36 rfl 3 rfl rfl ?_
          refine pt2_step 40 C hK dX2_steps_37 rfl ?_
          refine hd_aload_n 41 C dX2_steps_40 rfl 0 rfl rfl ?_
          refine hd_iload_n 42 C dX2_steps_41 rfl 1 rfl rfl ?_
          refine hd_callVI (rest := []) 45 C hK hZ hA ⟨Nat.zero_le _, Nat.zero_le _⟩ dX2_steps_42 rfl kc_X2_143 (x_readingsHold j hI ⟨by show T2 0 < 3; omega, by show T2 2 < 6; omega, by show v < 6; omega⟩ (by omega)) ⟨rfl, rfl⟩ ⟨by decide, by decide⟩ 0 2 rfl rfl rfl rfl rfl (Nat.le_of_ble_eq_true rfl) (fun r42 u42 h42 => ?_)
          obtain ⟨rfl, rfl⟩ := h42
          refine hd_if_eqB 48 54 C dX2_steps_45 rfl (by decide) (fun h45 => ?_) (fun h45 => ?_)
          · skip
            refine hd_iinc 57 C dX2_steps_54 rfl 3 (nI (v + 1)) [(3, .int (nI (v + 1))), (0, .ref (a 0)), (1, .int (nI j)), (2, .int (nI (trS (fun v => rdo (uN N 4 j v) (Z 1) (N 0 2)) v)))] rfl (nI_add _ _) (by decide) rfl ?_
            refine hd_goto 27 C dX2_steps_57 (by decide) ?_
            rw [show trS (fun v => rdo (uN N 4 j v) (Z 1) (N 0 2)) v = trS (fun v => rdo (uN N 4 j v) (Z 1) (N 0 2)) (v + 1) from (trS_f (f := (fun v => rdo (uN N 4 j v) (Z 1) (N 0 2))) (v := v) ((rdT_step hT0 hT2 (N 0 2)).symm.trans h45))]
            refine hd_sub [(0, .ref (a 0)), (1, .int (nI j)), (2, .int (nI (trS (fun v => rdo (uN N 4 j v) (Z 1) (N 0 2)) (v + 1)))), (3, .int (nI (v + 1)))] [1, 2, 3, 0] rfl ?_
            exact ih_L (v + 1) _ (by omega) hT0 hT2 (by omega)
          · skip
            refine hd_iload_n 49 C dX2_steps_48 rfl 2 rfl rfl ?_
            refine hd_iconst 50 C dX2_steps_49 rfl (nI 1) (by decide) ?_
            refine hd_iload_n 51 C dX2_steps_50 rfl 3 rfl rfl ?_
            refine hd_ishl 52 C dX2_steps_51 rfl (nI (2 ^ v)) (nI_shl1 (by omega)) ?_
            refine hd_ior 53 C dX2_steps_52 rfl (nI ((trS (fun v => rdo (uN N 4 j v) (Z 1) (N 0 2)) v) ||| (2 ^ v))) (fa_or _ _) ?_
            refine hd_istore_n 54 C dX2_steps_53 rfl [(2, .int (nI ((trS (fun v => rdo (uN N 4 j v) (Z 1) (N 0 2)) v) ||| (2 ^ v)))), (0, .ref (a 0)), (1, .int (nI j)), (3, .int (nI v))] rfl (by decide) rfl ?_
            refine hd_iinc 57 C dX2_steps_54 rfl 3 (nI (v + 1)) [(3, .int (nI (v + 1))), (2, .int (nI ((trS (fun v => rdo (uN N 4 j v) (Z 1) (N 0 2)) v) ||| (2 ^ v)))), (0, .ref (a 0)), (1, .int (nI j))] rfl (nI_add _ _) (by decide) rfl ?_
            refine hd_goto 27 C dX2_steps_57 (by decide) ?_
            rw [show (trS (fun v => rdo (uN N 4 j v) (Z 1) (N 0 2)) v) ||| (2 ^ v) = trS (fun v => rdo (uN N 4 j v) (Z 1) (N 0 2)) (v + 1) from (trS_t (f := (fun v => rdo (uN N 4 j v) (Z 1) (N 0 2))) (v := v) ((rdT_step hT0 hT2 (N 0 2)).symm.trans h45))]
            refine hd_sub [(0, .ref (a 0)), (1, .int (nI j)), (2, .int (nI (trS (fun v => rdo (uN N 4 j v) (Z 1) (N 0 2)) (v + 1)))), (3, .int (nI (v + 1)))] [2, 3, 1, 0] rfl ?_
            exact ih_L (v + 1) _ (by omega) hT0 hT2 (by omega)
    refine hd_sub [(0, .ref (a 0)), (1, .int (nI j)), (2, .int (nI 0)), (3, .int (nI 0))] [2, 3, 1, 0] rfl ?_
    exact L (6 + 1) 0 _ (Nat.zero_le _) hT0 hT2 (by omega)
  · skip
    refine hd_iconst 9 C dX2_steps_8 rfl (-1) (by decide) ?_
    exact hd_iret C hK dX2_steps_9 ⟨⟨_, rfl⟩, by simp [spSteps, h5]⟩

set_option maxHeartbeats 4000000 in
set_option maxRecDepth 100000 in
theorem m_steps {l : Launch} {D : va_G} {cI cJ cD cS : ClassId} {a : Nat → Nat} {N : Nat → Nat → Nat} {Z : Nat → Nat → Int32} {E : Nat → Nat → Int32} {G : Nat → Nat → Int64} {T : Nat → Nat} (d : Int32) (hI : inv N)  : ctI l D (ty4 cI cJ cD cS) none (wM cI a) yX3_steps cX3_steps 5 (some .int) (rmk 2 46) [.ref (a 0), .int d] (N, Z, E, G, T) (fun (r : Int32) (u : sT) => u = (N, Z, E, G, T) ∧ r = spSteps N (Z 1) d) := by
  refine ctI_of [(0, .ref (a 0)), (1, .int d)] (by decide) (Nat.le_of_ble_eq_true rfl) rfl ?_
  intro p e s m args below meth c A C hK hZ hA
  have hR := hI.R
  have hDn := hI.D
  have hQn := hI.Q
  refine hd_aload_n 1 C dX3_steps_0 rfl 0 rfl rfl ?_
  refine hd_iload_n 2 C dX3_steps_1 rfl 1 rfl rfl ?_
  refine hd_callVI (rest := []) 5 C hK hZ hA ⟨Nat.zero_le _, Nat.zero_le _⟩ dX3_steps_2 rfl kc_X3_134 (m_noDoor d hI) ⟨rfl, rfl⟩ ⟨by decide, by decide⟩ 0 3 rfl rfl rfl rfl rfl (Nat.le_of_ble_eq_true rfl) (fun r2 u2 h2 => ?_)
  obtain ⟨rfl, rfl⟩ := h2
  refine hd_if_eqB 8 10 C dX3_steps_5 rfl (by decide) (fun h5 => ?_) (fun h5 => ?_)
  · skip
    simp only [Bool.not_eq_true', Bool.not_eq_false'] at h5
    obtain ⟨j, hj_j, rfl⟩ := inB_t h5 (by omega)
    have hc_j : (nI j).toNatClampNeg = j := nI_clamp (by omega)
    have hdr := hI.door j
    refine hd_aload_n 11 C dX3_steps_10 rfl 0 rfl rfl ?_
    refine gm_stepOf 14 C hK dX3_steps_11 rfl ?_
    refine hd_iload_n 15 C dX3_steps_14 rfl 1 rfl rfl ?_
    refine alm_stepOf 16 C hK dX3_steps_15 rfl (by omega) (nI (N 4 j)) rfl ?_
    refine hd_istore_n 17 C dX3_steps_16 rfl [(2, .int (nI (N 4 j))), (0, .ref (a 0)), (1, .int (nI j))] rfl (by decide) rfl ?_
    refine hd_iconst 18 C dX3_steps_17 rfl (nI 0) (by decide) ?_
    refine hd_istore_n 19 C dX3_steps_18 rfl [(3, .int (nI 0)), (2, .int (nI (N 4 j))), (0, .ref (a 0)), (1, .int (nI j))] rfl (by decide) rfl ?_
    refine hd_iconst 20 C dX3_steps_19 rfl (nI 0) (by decide) ?_
    refine hd_eqS (show (N, Z, E, G, T) = (uN N 4 j (N 4 j), Z, E, G, T) from by rw [uN_self]) ?_
    refine hd_istore 22 C dX3_steps_20 rfl [(4, .int (nI 0)), (3, .int (nI 0)), (2, .int (nI (N 4 j))), (0, .ref (a 0)), (1, .int (nI j))] (by decide) rfl ?_
    have L : ∀ (fuel : Nat) (v x : Nat) (hv : v ≤ 6), 6 - v < fuel → XW p l e (rmk 2 46) s m args below meth c 5 0 0 A D (MQ below (va_Qi (fun (r : Int32) (u : sT) => u = (N, Z, E, G, T) ∧ r = spSteps N (Z 1) (nI j)) (cB D (ty4 cI cJ cD cS) (wM cI a) A) A) args s 0 0 A) (wM cI a) (uN N 4 j x, Z, E, G, T) 22 [(0, .ref (a 0)), (1, .int (nI j)), (2, .int (nI (N 4 j))), (3, .int (nI (trS (fun v => rdo (uN N 4 j v) (Z 1) (N 0 2)) v))), (4, .int (nI v))] [] := by
      intro fuel
      induction fuel with
      | zero => intro v x hv hfu; exact absurd hfu (Nat.not_lt_zero _)
      | succ fuel ih_L =>
        intro v x hv hfu_L
        refine hd_iload 24 C dX3_steps_22 rfl 4 rfl ?_
        refine hd_bipush 26 C dX3_steps_24 rfl (nI 6) (by decide) ?_
        refine hd_icmp_geN 29 61 C dX3_steps_26 rfl (by decide) (by omega) (by omega) (fun h26 => ?_) (fun h26 => ?_)
        · skip
          refine hd_aload_n 62 C dX3_steps_61 rfl 0 rfl rfl ?_
          refine gm_stepOf 65 C hK dX3_steps_62 rfl ?_
          refine hd_iload_n 66 C dX3_steps_65 rfl 1 rfl rfl ?_
          refine hd_iload_n 67 C dX3_steps_66 rfl 2 rfl rfl ?_
          refine asm_stepOf 68 C hK dX3_steps_67 rfl (by omega) ?_
          refine hd_iload_n 69 C dX3_steps_68 rfl 3 rfl rfl ?_
          exact hd_iret C hK dX3_steps_69 ⟨by rw [uN_uN, uN_self], by rw [show v = 6 by omega]; simp [spSteps, h5, hc_j]⟩
        · skip
          refine hd_aload_n 30 C dX3_steps_29 rfl 0 rfl rfl ?_
          refine gm_stepOf 33 C hK dX3_steps_30 rfl ?_
          refine hd_iload_n 34 C dX3_steps_33 rfl 1 rfl rfl ?_
          refine hd_iload 36 C dX3_steps_34 rfl 4 rfl ?_
          refine asm_stepOf 37 C hK dX3_steps_36 rfl (by omega) ?_
          refine hd_eqS (show (uN (uN N 4 j x) 4 j v, Z, E, G, T) = (uN N 4 j v, Z, E, G, T) from by rw [uN_uN]) ?_
          refine hd_iload_n 38 C dX3_steps_37 rfl 3 rfl rfl ?_
          refine hd_aload_n 39 C dX3_steps_38 rfl 0 rfl rfl ?_
          refine hd_callVI (rest := [.int (nI (trS (fun v => rdo (uN N 4 j v) (Z 1) (N 0 2)) v))]) 42 C hK hZ hA ⟨Nat.zero_le _, Nat.zero_le _⟩ dX3_steps_39 rfl kc_X3_196 (m_areSo (inv_step hI (by omega))) ⟨rfl, rfl⟩ ⟨by decide, by decide⟩ 0 3 rfl rfl rfl rfl rfl (Nat.le_of_ble_eq_true rfl) (fun r39 u39 h39 => ?_)
          obtain ⟨rfl, rfl⟩ := h39
          refine hd_if_eqB 45 52 C dX3_steps_42 rfl (by decide) (fun h42 => ?_) (fun h42 => ?_)
          · skip
            refine hd_iconst 53 C dX3_steps_52 rfl (nI 0) (by decide) ?_
            refine hd_ior 54 C dX3_steps_53 rfl (nI ((trS (fun v => rdo (uN N 4 j v) (Z 1) (N 0 2)) v) ||| 0)) (fa_or _ _) ?_
            refine hd_istore_n 55 C dX3_steps_54 rfl [(3, .int (nI ((trS (fun v => rdo (uN N 4 j v) (Z 1) (N 0 2)) v) ||| 0))), (0, .ref (a 0)), (1, .int (nI j)), (2, .int (nI (N 4 j))), (4, .int (nI v))] rfl (by decide) rfl ?_
            refine hd_iinc 58 C dX3_steps_55 rfl 4 (nI (v + 1)) [(4, .int (nI (v + 1))), (3, .int (nI ((trS (fun v => rdo (uN N 4 j v) (Z 1) (N 0 2)) v) ||| 0))), (0, .ref (a 0)), (1, .int (nI j)), (2, .int (nI (N 4 j)))] rfl (nI_add _ _) (by decide) rfl ?_
            refine hd_goto 22 C dX3_steps_58 (by decide) ?_
            rw [show (trS (fun v => rdo (uN N 4 j v) (Z 1) (N 0 2)) v) ||| 0 = trS (fun v => rdo (uN N 4 j v) (Z 1) (N 0 2)) (v + 1) from (trS_z (f := (fun v => rdo (uN N 4 j v) (Z 1) (N 0 2))) (v := v) h42)]
            refine hd_sub [(0, .ref (a 0)), (1, .int (nI j)), (2, .int (nI (N 4 j))), (3, .int (nI (trS (fun v => rdo (uN N 4 j v) (Z 1) (N 0 2)) (v + 1)))), (4, .int (nI (v + 1)))] [2, 3, 4, 1, 0] rfl ?_
            exact ih_L (v + 1) _ (by omega) (by omega)
          · skip
            refine hd_iconst 46 C dX3_steps_45 rfl (nI 1) (by decide) ?_
            refine hd_iload 48 C dX3_steps_46 rfl 4 rfl ?_
            refine hd_ishl 49 C dX3_steps_48 rfl (nI (2 ^ v)) (nI_shl1 (by omega)) ?_
            refine hd_goto 53 C dX3_steps_49 (by decide) ?_
            refine hd_ior 54 C dX3_steps_53 rfl (nI ((trS (fun v => rdo (uN N 4 j v) (Z 1) (N 0 2)) v) ||| (2 ^ v))) (fa_or _ _) ?_
            refine hd_istore_n 55 C dX3_steps_54 rfl [(3, .int (nI ((trS (fun v => rdo (uN N 4 j v) (Z 1) (N 0 2)) v) ||| (2 ^ v)))), (0, .ref (a 0)), (1, .int (nI j)), (2, .int (nI (N 4 j))), (4, .int (nI v))] rfl (by decide) rfl ?_
            refine hd_iinc 58 C dX3_steps_55 rfl 4 (nI (v + 1)) [(4, .int (nI (v + 1))), (3, .int (nI ((trS (fun v => rdo (uN N 4 j v) (Z 1) (N 0 2)) v) ||| (2 ^ v)))), (0, .ref (a 0)), (1, .int (nI j)), (2, .int (nI (N 4 j)))] rfl (nI_add _ _) (by decide) rfl ?_
            refine hd_goto 22 C dX3_steps_58 (by decide) ?_
            rw [show (trS (fun v => rdo (uN N 4 j v) (Z 1) (N 0 2)) v) ||| (2 ^ v) = trS (fun v => rdo (uN N 4 j v) (Z 1) (N 0 2)) (v + 1) from (trS_t (f := (fun v => rdo (uN N 4 j v) (Z 1) (N 0 2))) (v := v) h42)]
            refine hd_sub [(0, .ref (a 0)), (1, .int (nI j)), (2, .int (nI (N 4 j))), (3, .int (nI (trS (fun v => rdo (uN N 4 j v) (Z 1) (N 0 2)) (v + 1)))), (4, .int (nI (v + 1)))] [2, 3, 4, 1, 0] rfl ?_
            exact ih_L (v + 1) _ (by omega) (by omega)
    refine hd_sub [(0, .ref (a 0)), (1, .int (nI j)), (2, .int (nI (N 4 j))), (3, .int (nI 0)), (4, .int (nI 0))] [3, 4, 2, 1, 0] rfl ?_
    exact L (6 + 1) 0 _ (Nat.zero_le _) (by omega)
  · skip
    simp only [Bool.not_eq_true', Bool.not_eq_false'] at h5
    refine hd_iconst 9 C dX3_steps_8 rfl (-1) (by decide) ?_
    exact hd_iret C hK dX3_steps_9 ⟨rfl, by simp [spSteps, h5]⟩

set_option maxHeartbeats 4000000 in
set_option maxRecDepth 100000 in
theorem x_targets {l : Launch} {D : va_G} {cI cJ cD cS : ClassId} {a : Nat → Nat} {N : Nat → Nat → Nat} {Z : Nat → Nat → Int32} {E : Nat → Nat → Int32} {G : Nat → Nat → Int64} {T : Nat → Nat} {t : Option Nat} (d : Int32) (hI : inv N)  : ctI l D (ty4 cI cJ cD cS) t (wX cI cJ cD cS a) yX2_targets cX2_targets 4 (some .int) (rmk 2 46) [.ref (a 0), .int d] (N, Z, E, G, T) (fun (r : Int32) (u : sT) => (∃ T2 : Nat → Nat, u = (N, Z, E, G, T2)) ∧ r = spTargets N (Z 1) d) := by
  refine ctI_of [(0, .ref (a 0)), (1, .int d)] (by decide) (Nat.le_of_ble_eq_true rfl) rfl ?_
  intro p e s m args below meth c A C hK hZ hA
  have hR := hI.R
  have hDn := hI.D
  have hQn := hI.Q
  refine hd_aload_n 1 C dX2_targets_0 rfl 0 rfl rfl ?_
  refine hd_iload_n 2 C dX2_targets_1 rfl 1 rfl rfl ?_
  refine hd_callVI (rest := []) 5 C hK hZ hA ⟨Nat.zero_le _, Nat.zero_le _⟩ dX2_targets_2 rfl kc_X2_79 (x_isDoor d hI) ⟨rfl, rfl⟩ ⟨by decide, by decide⟩ 0 2 rfl rfl rfl rfl rfl (Nat.le_of_ble_eq_true rfl) (fun r2 u2 h2 => ?_)
  obtain ⟨rfl, rfl⟩ := h2
  refine hd_if_neB 8 10 C dX2_targets_5 rfl (by decide) (fun h5 => ?_) (fun h5 => ?_)
  · skip
    obtain ⟨j, hj_j, rfl⟩ := inB_t h5 (by omega)
    have hc_j : (nI j).toNatClampNeg = j := nI_clamp (by omega)
    have hdr := hI.door j
    refine hd_iconst 11 C dX2_targets_10 rfl (nI 0) (by decide) ?_
    refine hd_istore_n 12 C dX2_targets_11 rfl [(2, .int (nI 0)), (0, .ref (a 0)), (1, .int (nI j))] rfl (by decide) rfl ?_
    refine hd_aload_n 13 C dX2_targets_12 rfl 1 rfl rfl ?_
    refine gx_trial 16 C hK dX2_targets_13 rfl ?_
    refine hd_aload_n 17 C dX2_targets_16 rfl 1 rfl rfl ?_
    refine gx_doors 20 C hK dX2_targets_17 rfl ?_
    refine hd_iload_n 21 C dX2_targets_20 rfl 2 rfl rfl ?_
    refine alx_doors 22 C hK dX2_targets_21 rfl (by omega) ?_
    refine hd_callVV (rest := []) 25 C hK hZ hA ⟨Nat.zero_le _, Nat.zero_le _⟩ dX2_targets_22 rfl kc_X2_139 (x_becomeLike j (by omega)) ⟨rfl, rfl⟩ ⟨by decide, by decide⟩ 2 0 rfl rfl rfl rfl rfl (Nat.le_of_ble_eq_true rfl) (fun u22 h22 => ?_)
    obtain ⟨T2, rfl, hT0, hT2, hT3⟩ := h22
    refine hd_iconst 26 C dX2_targets_25 rfl (nI 0) (by decide) ?_
    refine hd_istore_n 27 C dX2_targets_26 rfl [(3, .int (nI 0)), (2, .int (nI 0)), (0, .ref (a 0)), (1, .int (nI j))] rfl (by decide) rfl ?_
    have L : ∀ (fuel : Nat) (v : Nat) (T2 : Nat → Nat) (hv : v ≤ N 0 0) (hT0 : T2 0 = N 1 j) (hT3 : T2 3 = N 4 j), N 0 0 - v < fuel → XW p l e (rmk 2 46) s m args below meth c 4 0 0 A D (MQ below (va_Qi (fun (r : Int32) (u : sT) => (∃ T2 : Nat → Nat, u = (N, Z, E, G, T2)) ∧ r = spTargets N (Z 1) (nI j)) (cB D (ty4 cI cJ cD cS) (wX cI cJ cD cS a) A) A) args s 0 0 A) (wX cI cJ cD cS a) (N, Z, E, G, T2) 27 [(0, .ref (a 0)), (1, .int (nI j)), (2, .int (nI (trS (fun v => rdo (uN N 3 j v) (Z 1) (N 0 2)) v))), (3, .int (nI v))] [] := by
      intro fuel
      induction fuel with
      | zero => intro v T2 hv hT0 hT3 hfu; exact absurd hfu (Nat.not_lt_zero _)
      | succ fuel ih_L =>
        intro v T2 hv hT0 hT3 hfu_L
        refine hd_iload_n 28 C dX2_targets_27 rfl 3 rfl rfl ?_
        refine hd_aload_n 29 C dX2_targets_28 rfl 0 rfl rfl ?_
        refine gx_rooms 32 C hK dX2_targets_29 rfl (nI (N 0 0)) rfl ?_
        refine hd_icmp_geN 35 63 C dX2_targets_32 rfl (by decide) (by omega) (by omega) (fun h32 => ?_) (fun h32 => ?_)
        · skip
          refine hd_iload_n 64 C dX2_targets_63 rfl 2 rfl rfl ?_
          exact hd_iret C hK dX2_targets_64 ⟨⟨_, rfl⟩, by rw [show v = N 0 0 by omega]; simp [spTargets, h5, hc_j]⟩
        · skip
          refine hd_aload_n 36 C dX2_targets_35 rfl 0 rfl rfl ?_
          refine gx_trial 39 C hK dX2_targets_36 rfl ?_
          refine hd_iload_n 40 C dX2_targets_39 rfl 3 rfl rfl ?_
          refine pt2_to 43 C hK dX2_targets_40 rfl ?_
          refine hd_aload_n 44 C dX2_targets_43 rfl 0 rfl rfl ?_
          refine hd_iload_n 45 C dX2_targets_44 rfl 1 rfl rfl ?_
          refine hd_callVI (rest := []) 48 C hK hZ hA ⟨Nat.zero_le _, Nat.zero_le _⟩ dX2_targets_45 rfl kc_X2_143 (x_readingsHold j hI ⟨by show T2 0 < 3; omega, by show v < 6; omega, by show T2 3 < 6; omega⟩ (by omega)) ⟨rfl, rfl⟩ ⟨by decide, by decide⟩ 0 2 rfl rfl rfl rfl rfl (Nat.le_of_ble_eq_true rfl) (fun r45 u45 h45 => ?_)
          obtain ⟨rfl, rfl⟩ := h45
          refine hd_if_eqB 51 57 C dX2_targets_48 rfl (by decide) (fun h48 => ?_) (fun h48 => ?_)
          · skip
            refine hd_iinc 60 C dX2_targets_57 rfl 3 (nI (v + 1)) [(3, .int (nI (v + 1))), (0, .ref (a 0)), (1, .int (nI j)), (2, .int (nI (trS (fun v => rdo (uN N 3 j v) (Z 1) (N 0 2)) v)))] rfl (nI_add _ _) (by decide) rfl ?_
            refine hd_goto 27 C dX2_targets_60 (by decide) ?_
            rw [show trS (fun v => rdo (uN N 3 j v) (Z 1) (N 0 2)) v = trS (fun v => rdo (uN N 3 j v) (Z 1) (N 0 2)) (v + 1) from (trS_f (f := (fun v => rdo (uN N 3 j v) (Z 1) (N 0 2))) (v := v) ((rdT_to hT0 hT3 (N 0 2)).symm.trans h48))]
            refine hd_sub [(0, .ref (a 0)), (1, .int (nI j)), (2, .int (nI (trS (fun v => rdo (uN N 3 j v) (Z 1) (N 0 2)) (v + 1)))), (3, .int (nI (v + 1)))] [1, 2, 3, 0] rfl ?_
            exact ih_L (v + 1) _ (by omega) hT0 hT3 (by omega)
          · skip
            refine hd_iload_n 52 C dX2_targets_51 rfl 2 rfl rfl ?_
            refine hd_iconst 53 C dX2_targets_52 rfl (nI 1) (by decide) ?_
            refine hd_iload_n 54 C dX2_targets_53 rfl 3 rfl rfl ?_
            refine hd_ishl 55 C dX2_targets_54 rfl (nI (2 ^ v)) (nI_shl1 (by omega)) ?_
            refine hd_ior 56 C dX2_targets_55 rfl (nI ((trS (fun v => rdo (uN N 3 j v) (Z 1) (N 0 2)) v) ||| (2 ^ v))) (fa_or _ _) ?_
            refine hd_istore_n 57 C dX2_targets_56 rfl [(2, .int (nI ((trS (fun v => rdo (uN N 3 j v) (Z 1) (N 0 2)) v) ||| (2 ^ v)))), (0, .ref (a 0)), (1, .int (nI j)), (3, .int (nI v))] rfl (by decide) rfl ?_
            refine hd_iinc 60 C dX2_targets_57 rfl 3 (nI (v + 1)) [(3, .int (nI (v + 1))), (2, .int (nI ((trS (fun v => rdo (uN N 3 j v) (Z 1) (N 0 2)) v) ||| (2 ^ v)))), (0, .ref (a 0)), (1, .int (nI j))] rfl (nI_add _ _) (by decide) rfl ?_
            refine hd_goto 27 C dX2_targets_60 (by decide) ?_
            rw [show (trS (fun v => rdo (uN N 3 j v) (Z 1) (N 0 2)) v) ||| (2 ^ v) = trS (fun v => rdo (uN N 3 j v) (Z 1) (N 0 2)) (v + 1) from (trS_t (f := (fun v => rdo (uN N 3 j v) (Z 1) (N 0 2))) (v := v) ((rdT_to hT0 hT3 (N 0 2)).symm.trans h48))]
            refine hd_sub [(0, .ref (a 0)), (1, .int (nI j)), (2, .int (nI (trS (fun v => rdo (uN N 3 j v) (Z 1) (N 0 2)) (v + 1)))), (3, .int (nI (v + 1)))] [2, 3, 1, 0] rfl ?_
            exact ih_L (v + 1) _ (by omega) hT0 hT3 (by omega)
    refine hd_sub [(0, .ref (a 0)), (1, .int (nI j)), (2, .int (nI 0)), (3, .int (nI 0))] [2, 3, 1, 0] rfl ?_
    exact L (N 0 0 + 1) 0 _ (Nat.zero_le _) hT0 hT3 (by omega)
  · skip
    refine hd_iconst 9 C dX2_targets_8 rfl (-1) (by decide) ?_
    exact hd_iret C hK dX2_targets_9 ⟨⟨_, rfl⟩, by simp [spTargets, h5]⟩

set_option maxHeartbeats 4000000 in
set_option maxRecDepth 100000 in
theorem m_targets {l : Launch} {D : va_G} {cI cJ cD cS : ClassId} {a : Nat → Nat} {N : Nat → Nat → Nat} {Z : Nat → Nat → Int32} {E : Nat → Nat → Int32} {G : Nat → Nat → Int64} {T : Nat → Nat} (d : Int32) (hI : inv N)  : ctI l D (ty4 cI cJ cD cS) none (wM cI a) yX3_targets cX3_targets 5 (some .int) (rmk 2 46) [.ref (a 0), .int d] (N, Z, E, G, T) (fun (r : Int32) (u : sT) => u = (N, Z, E, G, T) ∧ r = spTargets N (Z 1) d) := by
  refine ctI_of [(0, .ref (a 0)), (1, .int d)] (by decide) (Nat.le_of_ble_eq_true rfl) rfl ?_
  intro p e s m args below meth c A C hK hZ hA
  have hR := hI.R
  have hDn := hI.D
  have hQn := hI.Q
  refine hd_aload_n 1 C dX3_targets_0 rfl 0 rfl rfl ?_
  refine hd_iload_n 2 C dX3_targets_1 rfl 1 rfl rfl ?_
  refine hd_callVI (rest := []) 5 C hK hZ hA ⟨Nat.zero_le _, Nat.zero_le _⟩ dX3_targets_2 rfl kc_X3_134 (m_noDoor d hI) ⟨rfl, rfl⟩ ⟨by decide, by decide⟩ 0 3 rfl rfl rfl rfl rfl (Nat.le_of_ble_eq_true rfl) (fun r2 u2 h2 => ?_)
  obtain ⟨rfl, rfl⟩ := h2
  refine hd_if_eqB 8 10 C dX3_targets_5 rfl (by decide) (fun h5 => ?_) (fun h5 => ?_)
  · skip
    simp only [Bool.not_eq_true', Bool.not_eq_false'] at h5
    obtain ⟨j, hj_j, rfl⟩ := inB_t h5 (by omega)
    have hc_j : (nI j).toNatClampNeg = j := nI_clamp (by omega)
    have hdr := hI.door j
    refine hd_aload_n 11 C dX3_targets_10 rfl 0 rfl rfl ?_
    refine gm_toOf 14 C hK dX3_targets_11 rfl ?_
    refine hd_iload_n 15 C dX3_targets_14 rfl 1 rfl rfl ?_
    refine alm_toOf 16 C hK dX3_targets_15 rfl (by omega) (nI (N 3 j)) rfl ?_
    refine hd_istore_n 17 C dX3_targets_16 rfl [(2, .int (nI (N 3 j))), (0, .ref (a 0)), (1, .int (nI j))] rfl (by decide) rfl ?_
    refine hd_iconst 18 C dX3_targets_17 rfl (nI 0) (by decide) ?_
    refine hd_istore_n 19 C dX3_targets_18 rfl [(3, .int (nI 0)), (2, .int (nI (N 3 j))), (0, .ref (a 0)), (1, .int (nI j))] rfl (by decide) rfl ?_
    refine hd_iconst 20 C dX3_targets_19 rfl (nI 0) (by decide) ?_
    refine hd_eqS (show (N, Z, E, G, T) = (uN N 3 j (N 3 j), Z, E, G, T) from by rw [uN_self]) ?_
    refine hd_istore 22 C dX3_targets_20 rfl [(4, .int (nI 0)), (3, .int (nI 0)), (2, .int (nI (N 3 j))), (0, .ref (a 0)), (1, .int (nI j))] (by decide) rfl ?_
    have L : ∀ (fuel : Nat) (v x : Nat) (hv : v ≤ N 0 0), N 0 0 - v < fuel → XW p l e (rmk 2 46) s m args below meth c 5 0 0 A D (MQ below (va_Qi (fun (r : Int32) (u : sT) => u = (N, Z, E, G, T) ∧ r = spTargets N (Z 1) (nI j)) (cB D (ty4 cI cJ cD cS) (wM cI a) A) A) args s 0 0 A) (wM cI a) (uN N 3 j x, Z, E, G, T) 22 [(0, .ref (a 0)), (1, .int (nI j)), (2, .int (nI (N 3 j))), (3, .int (nI (trS (fun v => rdo (uN N 3 j v) (Z 1) (N 0 2)) v))), (4, .int (nI v))] [] := by
      intro fuel
      induction fuel with
      | zero => intro v x hv hfu; exact absurd hfu (Nat.not_lt_zero _)
      | succ fuel ih_L =>
        intro v x hv hfu_L
        refine hd_iload 24 C dX3_targets_22 rfl 4 rfl ?_
        refine hd_aload_n 25 C dX3_targets_24 rfl 0 rfl rfl ?_
        refine gm_rooms 28 C hK dX3_targets_25 rfl (nI (N 0 0)) rfl ?_
        refine hd_icmp_geN 31 63 C dX3_targets_28 rfl (by decide) (by omega) (by omega) (fun h28 => ?_) (fun h28 => ?_)
        · skip
          refine hd_aload_n 64 C dX3_targets_63 rfl 0 rfl rfl ?_
          refine gm_toOf 67 C hK dX3_targets_64 rfl ?_
          refine hd_iload_n 68 C dX3_targets_67 rfl 1 rfl rfl ?_
          refine hd_iload_n 69 C dX3_targets_68 rfl 2 rfl rfl ?_
          refine asm_toOf 70 C hK dX3_targets_69 rfl (by omega) ?_
          refine hd_iload_n 71 C dX3_targets_70 rfl 3 rfl rfl ?_
          exact hd_iret C hK dX3_targets_71 ⟨by rw [uN_uN, uN_self], by rw [show v = N 0 0 by omega]; simp [spTargets, h5, hc_j]⟩
        · skip
          refine hd_aload_n 32 C dX3_targets_31 rfl 0 rfl rfl ?_
          refine gm_toOf 35 C hK dX3_targets_32 rfl ?_
          refine hd_iload_n 36 C dX3_targets_35 rfl 1 rfl rfl ?_
          refine hd_iload 38 C dX3_targets_36 rfl 4 rfl ?_
          refine asm_toOf 39 C hK dX3_targets_38 rfl (by omega) ?_
          refine hd_eqS (show (uN (uN N 3 j x) 3 j v, Z, E, G, T) = (uN N 3 j v, Z, E, G, T) from by rw [uN_uN]) ?_
          refine hd_iload_n 40 C dX3_targets_39 rfl 3 rfl rfl ?_
          refine hd_aload_n 41 C dX3_targets_40 rfl 0 rfl rfl ?_
          refine hd_callVI (rest := [.int (nI (trS (fun v => rdo (uN N 3 j v) (Z 1) (N 0 2)) v))]) 44 C hK hZ hA ⟨Nat.zero_le _, Nat.zero_le _⟩ dX3_targets_41 rfl kc_X3_196 (m_areSo (inv_turn hI (by omega))) ⟨rfl, rfl⟩ ⟨by decide, by decide⟩ 0 3 rfl rfl rfl rfl rfl (Nat.le_of_ble_eq_true rfl) (fun r41 u41 h41 => ?_)
          obtain ⟨rfl, rfl⟩ := h41
          refine hd_if_eqB 47 54 C dX3_targets_44 rfl (by decide) (fun h44 => ?_) (fun h44 => ?_)
          · skip
            refine hd_iconst 55 C dX3_targets_54 rfl (nI 0) (by decide) ?_
            refine hd_ior 56 C dX3_targets_55 rfl (nI ((trS (fun v => rdo (uN N 3 j v) (Z 1) (N 0 2)) v) ||| 0)) (fa_or _ _) ?_
            refine hd_istore_n 57 C dX3_targets_56 rfl [(3, .int (nI ((trS (fun v => rdo (uN N 3 j v) (Z 1) (N 0 2)) v) ||| 0))), (0, .ref (a 0)), (1, .int (nI j)), (2, .int (nI (N 3 j))), (4, .int (nI v))] rfl (by decide) rfl ?_
            refine hd_iinc 60 C dX3_targets_57 rfl 4 (nI (v + 1)) [(4, .int (nI (v + 1))), (3, .int (nI ((trS (fun v => rdo (uN N 3 j v) (Z 1) (N 0 2)) v) ||| 0))), (0, .ref (a 0)), (1, .int (nI j)), (2, .int (nI (N 3 j)))] rfl (nI_add _ _) (by decide) rfl ?_
            refine hd_goto 22 C dX3_targets_60 (by decide) ?_
            rw [show (trS (fun v => rdo (uN N 3 j v) (Z 1) (N 0 2)) v) ||| 0 = trS (fun v => rdo (uN N 3 j v) (Z 1) (N 0 2)) (v + 1) from (trS_z (f := (fun v => rdo (uN N 3 j v) (Z 1) (N 0 2))) (v := v) h44)]
            refine hd_sub [(0, .ref (a 0)), (1, .int (nI j)), (2, .int (nI (N 3 j))), (3, .int (nI (trS (fun v => rdo (uN N 3 j v) (Z 1) (N 0 2)) (v + 1)))), (4, .int (nI (v + 1)))] [2, 3, 4, 1, 0] rfl ?_
            exact ih_L (v + 1) _ (by omega) (by omega)
          · skip
            refine hd_iconst 48 C dX3_targets_47 rfl (nI 1) (by decide) ?_
            refine hd_iload 50 C dX3_targets_48 rfl 4 rfl ?_
            refine hd_ishl 51 C dX3_targets_50 rfl (nI (2 ^ v)) (nI_shl1 (by omega)) ?_
            refine hd_goto 55 C dX3_targets_51 (by decide) ?_
            refine hd_ior 56 C dX3_targets_55 rfl (nI ((trS (fun v => rdo (uN N 3 j v) (Z 1) (N 0 2)) v) ||| (2 ^ v))) (fa_or _ _) ?_
            refine hd_istore_n 57 C dX3_targets_56 rfl [(3, .int (nI ((trS (fun v => rdo (uN N 3 j v) (Z 1) (N 0 2)) v) ||| (2 ^ v)))), (0, .ref (a 0)), (1, .int (nI j)), (2, .int (nI (N 3 j))), (4, .int (nI v))] rfl (by decide) rfl ?_
            refine hd_iinc 60 C dX3_targets_57 rfl 4 (nI (v + 1)) [(4, .int (nI (v + 1))), (3, .int (nI ((trS (fun v => rdo (uN N 3 j v) (Z 1) (N 0 2)) v) ||| (2 ^ v)))), (0, .ref (a 0)), (1, .int (nI j)), (2, .int (nI (N 3 j)))] rfl (nI_add _ _) (by decide) rfl ?_
            refine hd_goto 22 C dX3_targets_60 (by decide) ?_
            rw [show (trS (fun v => rdo (uN N 3 j v) (Z 1) (N 0 2)) v) ||| (2 ^ v) = trS (fun v => rdo (uN N 3 j v) (Z 1) (N 0 2)) (v + 1) from (trS_t (f := (fun v => rdo (uN N 3 j v) (Z 1) (N 0 2))) (v := v) h44)]
            refine hd_sub [(0, .ref (a 0)), (1, .int (nI j)), (2, .int (nI (N 3 j))), (3, .int (nI (trS (fun v => rdo (uN N 3 j v) (Z 1) (N 0 2)) (v + 1)))), (4, .int (nI (v + 1)))] [2, 3, 4, 1, 0] rfl ?_
            exact ih_L (v + 1) _ (by omega) (by omega)
    refine hd_sub [(0, .ref (a 0)), (1, .int (nI j)), (2, .int (nI (N 3 j))), (3, .int (nI 0)), (4, .int (nI 0))] [3, 4, 2, 1, 0] rfl ?_
    exact L (N 0 0 + 1) 0 _ (Nat.zero_le _) (by omega)
  · skip
    simp only [Bool.not_eq_true', Bool.not_eq_false'] at h5
    refine hd_iconst 9 C dX3_targets_8 rfl (-1) (by decide) ?_
    exact hd_iret C hK dX3_targets_9 ⟨rfl, by simp [spTargets, h5]⟩

set_option maxHeartbeats 4000000 in
set_option maxRecDepth 100000 in
theorem x_kinds {l : Launch} {D : va_G} {cI cJ cD cS : ClassId} {a : Nat → Nat} {N : Nat → Nat → Nat} {Z : Nat → Nat → Int32} {E : Nat → Nat → Int32} {G : Nat → Nat → Int64} {T : Nat → Nat} {t : Option Nat} (d : Int32) (hI : inv N)  : ctI l D (ty4 cI cJ cD cS) t (wX cI cJ cD cS a) yX2_kinds cX2_kinds 4 (some .int) (rmk 2 46) [.ref (a 0), .int d] (N, Z, E, G, T) (fun (r : Int32) (u : sT) => (∃ T2 : Nat → Nat, u = (N, Z, E, G, T2)) ∧ r = spKinds N (Z 1) d) := by
  refine ctI_of [(0, .ref (a 0)), (1, .int d)] (by decide) (Nat.le_of_ble_eq_true rfl) rfl ?_
  intro p e s m args below meth c A C hK hZ hA
  have hR := hI.R
  have hDn := hI.D
  have hQn := hI.Q
  refine hd_aload_n 1 C dX2_kinds_0 rfl 0 rfl rfl ?_
  refine hd_iload_n 2 C dX2_kinds_1 rfl 1 rfl rfl ?_
  refine hd_callVI (rest := []) 5 C hK hZ hA ⟨Nat.zero_le _, Nat.zero_le _⟩ dX2_kinds_2 rfl kc_X2_79 (x_isDoor d hI) ⟨rfl, rfl⟩ ⟨by decide, by decide⟩ 0 2 rfl rfl rfl rfl rfl (Nat.le_of_ble_eq_true rfl) (fun r2 u2 h2 => ?_)
  obtain ⟨rfl, rfl⟩ := h2
  refine hd_if_neB 8 10 C dX2_kinds_5 rfl (by decide) (fun h5 => ?_) (fun h5 => ?_)
  · skip
    obtain ⟨j, hj_j, rfl⟩ := inB_t h5 (by omega)
    have hc_j : (nI j).toNatClampNeg = j := nI_clamp (by omega)
    have hdr := hI.door j
    refine hd_iconst 11 C dX2_kinds_10 rfl (nI 0) (by decide) ?_
    refine hd_istore_n 12 C dX2_kinds_11 rfl [(2, .int (nI 0)), (0, .ref (a 0)), (1, .int (nI j))] rfl (by decide) rfl ?_
    refine hd_aload_n 13 C dX2_kinds_12 rfl 1 rfl rfl ?_
    refine gx_trial 16 C hK dX2_kinds_13 rfl ?_
    refine hd_aload_n 17 C dX2_kinds_16 rfl 1 rfl rfl ?_
    refine gx_doors 20 C hK dX2_kinds_17 rfl ?_
    refine hd_iload_n 21 C dX2_kinds_20 rfl 2 rfl rfl ?_
    refine alx_doors 22 C hK dX2_kinds_21 rfl (by omega) ?_
    refine hd_callVV (rest := []) 25 C hK hZ hA ⟨Nat.zero_le _, Nat.zero_le _⟩ dX2_kinds_22 rfl kc_X2_139 (x_becomeLike j (by omega)) ⟨rfl, rfl⟩ ⟨by decide, by decide⟩ 2 0 rfl rfl rfl rfl rfl (Nat.le_of_ble_eq_true rfl) (fun u22 h22 => ?_)
    obtain ⟨T2, rfl, hT0, hT2, hT3⟩ := h22
    refine hd_iconst 26 C dX2_kinds_25 rfl (nI 0) (by decide) ?_
    refine hd_istore_n 27 C dX2_kinds_26 rfl [(3, .int (nI 0)), (2, .int (nI 0)), (0, .ref (a 0)), (1, .int (nI j))] rfl (by decide) rfl ?_
    have L : ∀ (fuel : Nat) (v : Nat) (T2 : Nat → Nat) (hv : v ≤ 3) (hT2 : T2 2 = N 3 j) (hT3 : T2 3 = N 4 j), 3 - v < fuel → XW p l e (rmk 2 46) s m args below meth c 4 0 0 A D (MQ below (va_Qi (fun (r : Int32) (u : sT) => (∃ T2 : Nat → Nat, u = (N, Z, E, G, T2)) ∧ r = spKinds N (Z 1) (nI j)) (cB D (ty4 cI cJ cD cS) (wX cI cJ cD cS a) A) A) args s 0 0 A) (wX cI cJ cD cS a) (N, Z, E, G, T2) 27 [(0, .ref (a 0)), (1, .int (nI j)), (2, .int (nI (trS (fun v => rdo (uN N 1 j v) (Z 1) (N 0 2)) v))), (3, .int (nI v))] [] := by
      intro fuel
      induction fuel with
      | zero => intro v T2 hv hT2 hT3 hfu; exact absurd hfu (Nat.not_lt_zero _)
      | succ fuel ih_L =>
        intro v T2 hv hT2 hT3 hfu_L
        refine hd_iload_n 28 C dX2_kinds_27 rfl 3 rfl rfl ?_
        refine hd_iconst 29 C dX2_kinds_28 rfl (nI 3) (by decide) ?_
        refine hd_icmp_geN 32 60 C dX2_kinds_29 rfl (by decide) (by omega) (by omega) (fun h29 => ?_) (fun h29 => ?_)
        · skip
          refine hd_iload_n 61 C dX2_kinds_60 rfl 2 rfl rfl ?_
          exact hd_iret C hK dX2_kinds_61 ⟨⟨_, rfl⟩, by rw [show v = 3 by omega]; simp [spKinds, h5, hc_j]⟩
        · skip
          refine hd_aload_n 33 C dX2_kinds_32 rfl 0 rfl rfl ?_
          refine gx_trial 36 C hK dX2_kinds_33 rfl ?_
          refine hd_iload_n 37 C dX2_kinds_36 rfl 3 rfl rfl ?_
          refine pt2_kind 40 C hK dX2_kinds_37 rfl ?_
          refine hd_aload_n 41 C dX2_kinds_40 rfl 0 rfl rfl ?_
          refine hd_iload_n 42 C dX2_kinds_41 rfl 1 rfl rfl ?_
          refine hd_callVI (rest := []) 45 C hK hZ hA ⟨Nat.zero_le _, Nat.zero_le _⟩ dX2_kinds_42 rfl kc_X2_143 (x_readingsHold j hI ⟨by show v < 3; omega, by show T2 2 < 6; omega, by show T2 3 < 6; omega⟩ (by omega)) ⟨rfl, rfl⟩ ⟨by decide, by decide⟩ 0 2 rfl rfl rfl rfl rfl (Nat.le_of_ble_eq_true rfl) (fun r42 u42 h42 => ?_)
          obtain ⟨rfl, rfl⟩ := h42
          refine hd_if_eqB 48 54 C dX2_kinds_45 rfl (by decide) (fun h45 => ?_) (fun h45 => ?_)
          · skip
            refine hd_iinc 57 C dX2_kinds_54 rfl 3 (nI (v + 1)) [(3, .int (nI (v + 1))), (0, .ref (a 0)), (1, .int (nI j)), (2, .int (nI (trS (fun v => rdo (uN N 1 j v) (Z 1) (N 0 2)) v)))] rfl (nI_add _ _) (by decide) rfl ?_
            refine hd_goto 27 C dX2_kinds_57 (by decide) ?_
            rw [show trS (fun v => rdo (uN N 1 j v) (Z 1) (N 0 2)) v = trS (fun v => rdo (uN N 1 j v) (Z 1) (N 0 2)) (v + 1) from (trS_f (f := (fun v => rdo (uN N 1 j v) (Z 1) (N 0 2))) (v := v) ((rdT_kind hT2 hT3 (N 0 2)).symm.trans h45))]
            refine hd_sub [(0, .ref (a 0)), (1, .int (nI j)), (2, .int (nI (trS (fun v => rdo (uN N 1 j v) (Z 1) (N 0 2)) (v + 1)))), (3, .int (nI (v + 1)))] [1, 2, 3, 0] rfl ?_
            exact ih_L (v + 1) _ (by omega) hT2 hT3 (by omega)
          · skip
            refine hd_iload_n 49 C dX2_kinds_48 rfl 2 rfl rfl ?_
            refine hd_iconst 50 C dX2_kinds_49 rfl (nI 1) (by decide) ?_
            refine hd_iload_n 51 C dX2_kinds_50 rfl 3 rfl rfl ?_
            refine hd_ishl 52 C dX2_kinds_51 rfl (nI (2 ^ v)) (nI_shl1 (by omega)) ?_
            refine hd_ior 53 C dX2_kinds_52 rfl (nI ((trS (fun v => rdo (uN N 1 j v) (Z 1) (N 0 2)) v) ||| (2 ^ v))) (fa_or _ _) ?_
            refine hd_istore_n 54 C dX2_kinds_53 rfl [(2, .int (nI ((trS (fun v => rdo (uN N 1 j v) (Z 1) (N 0 2)) v) ||| (2 ^ v)))), (0, .ref (a 0)), (1, .int (nI j)), (3, .int (nI v))] rfl (by decide) rfl ?_
            refine hd_iinc 57 C dX2_kinds_54 rfl 3 (nI (v + 1)) [(3, .int (nI (v + 1))), (2, .int (nI ((trS (fun v => rdo (uN N 1 j v) (Z 1) (N 0 2)) v) ||| (2 ^ v)))), (0, .ref (a 0)), (1, .int (nI j))] rfl (nI_add _ _) (by decide) rfl ?_
            refine hd_goto 27 C dX2_kinds_57 (by decide) ?_
            rw [show (trS (fun v => rdo (uN N 1 j v) (Z 1) (N 0 2)) v) ||| (2 ^ v) = trS (fun v => rdo (uN N 1 j v) (Z 1) (N 0 2)) (v + 1) from (trS_t (f := (fun v => rdo (uN N 1 j v) (Z 1) (N 0 2))) (v := v) ((rdT_kind hT2 hT3 (N 0 2)).symm.trans h45))]
            refine hd_sub [(0, .ref (a 0)), (1, .int (nI j)), (2, .int (nI (trS (fun v => rdo (uN N 1 j v) (Z 1) (N 0 2)) (v + 1)))), (3, .int (nI (v + 1)))] [2, 3, 1, 0] rfl ?_
            exact ih_L (v + 1) _ (by omega) hT2 hT3 (by omega)
    refine hd_sub [(0, .ref (a 0)), (1, .int (nI j)), (2, .int (nI 0)), (3, .int (nI 0))] [2, 3, 1, 0] rfl ?_
    exact L (3 + 1) 0 _ (Nat.zero_le _) hT2 hT3 (by omega)
  · skip
    refine hd_iconst 9 C dX2_kinds_8 rfl (-1) (by decide) ?_
    exact hd_iret C hK dX2_kinds_9 ⟨⟨_, rfl⟩, by simp [spKinds, h5]⟩

set_option maxHeartbeats 4000000 in
set_option maxRecDepth 100000 in
theorem m_kinds {l : Launch} {D : va_G} {cI cJ cD cS : ClassId} {a : Nat → Nat} {N : Nat → Nat → Nat} {Z : Nat → Nat → Int32} {E : Nat → Nat → Int32} {G : Nat → Nat → Int64} {T : Nat → Nat} (d : Int32) (hI : inv N)  : ctI l D (ty4 cI cJ cD cS) none (wM cI a) yX3_kinds cX3_kinds 5 (some .int) (rmk 2 46) [.ref (a 0), .int d] (N, Z, E, G, T) (fun (r : Int32) (u : sT) => u = (N, Z, E, G, T) ∧ r = spKinds N (Z 1) d) := by
  refine ctI_of [(0, .ref (a 0)), (1, .int d)] (by decide) (Nat.le_of_ble_eq_true rfl) rfl ?_
  intro p e s m args below meth c A C hK hZ hA
  have hR := hI.R
  have hDn := hI.D
  have hQn := hI.Q
  refine hd_aload_n 1 C dX3_kinds_0 rfl 0 rfl rfl ?_
  refine hd_iload_n 2 C dX3_kinds_1 rfl 1 rfl rfl ?_
  refine hd_callVI (rest := []) 5 C hK hZ hA ⟨Nat.zero_le _, Nat.zero_le _⟩ dX3_kinds_2 rfl kc_X3_134 (m_noDoor d hI) ⟨rfl, rfl⟩ ⟨by decide, by decide⟩ 0 3 rfl rfl rfl rfl rfl (Nat.le_of_ble_eq_true rfl) (fun r2 u2 h2 => ?_)
  obtain ⟨rfl, rfl⟩ := h2
  refine hd_if_eqB 8 10 C dX3_kinds_5 rfl (by decide) (fun h5 => ?_) (fun h5 => ?_)
  · skip
    simp only [Bool.not_eq_true', Bool.not_eq_false'] at h5
    obtain ⟨j, hj_j, rfl⟩ := inB_t h5 (by omega)
    have hc_j : (nI j).toNatClampNeg = j := nI_clamp (by omega)
    have hdr := hI.door j
    refine hd_aload_n 11 C dX3_kinds_10 rfl 0 rfl rfl ?_
    refine gm_kindOf 14 C hK dX3_kinds_11 rfl ?_
    refine hd_iload_n 15 C dX3_kinds_14 rfl 1 rfl rfl ?_
    refine alm_kindOf 16 C hK dX3_kinds_15 rfl (by omega) (nI (N 1 j)) rfl ?_
    refine hd_istore_n 17 C dX3_kinds_16 rfl [(2, .int (nI (N 1 j))), (0, .ref (a 0)), (1, .int (nI j))] rfl (by decide) rfl ?_
    refine hd_iconst 18 C dX3_kinds_17 rfl (nI 0) (by decide) ?_
    refine hd_istore_n 19 C dX3_kinds_18 rfl [(3, .int (nI 0)), (2, .int (nI (N 1 j))), (0, .ref (a 0)), (1, .int (nI j))] rfl (by decide) rfl ?_
    refine hd_iconst 20 C dX3_kinds_19 rfl (nI 0) (by decide) ?_
    refine hd_eqS (show (N, Z, E, G, T) = (uN N 1 j (N 1 j), Z, E, G, T) from by rw [uN_self]) ?_
    refine hd_istore 22 C dX3_kinds_20 rfl [(4, .int (nI 0)), (3, .int (nI 0)), (2, .int (nI (N 1 j))), (0, .ref (a 0)), (1, .int (nI j))] (by decide) rfl ?_
    have L : ∀ (fuel : Nat) (v x : Nat) (hv : v ≤ 3), 3 - v < fuel → XW p l e (rmk 2 46) s m args below meth c 5 0 0 A D (MQ below (va_Qi (fun (r : Int32) (u : sT) => u = (N, Z, E, G, T) ∧ r = spKinds N (Z 1) (nI j)) (cB D (ty4 cI cJ cD cS) (wM cI a) A) A) args s 0 0 A) (wM cI a) (uN N 1 j x, Z, E, G, T) 22 [(0, .ref (a 0)), (1, .int (nI j)), (2, .int (nI (N 1 j))), (3, .int (nI (trS (fun v => rdo (uN N 1 j v) (Z 1) (N 0 2)) v))), (4, .int (nI v))] [] := by
      intro fuel
      induction fuel with
      | zero => intro v x hv hfu; exact absurd hfu (Nat.not_lt_zero _)
      | succ fuel ih_L =>
        intro v x hv hfu_L
        refine hd_iload 24 C dX3_kinds_22 rfl 4 rfl ?_
        refine hd_iconst 25 C dX3_kinds_24 rfl (nI 3) (by decide) ?_
        refine hd_icmp_geN 28 60 C dX3_kinds_25 rfl (by decide) (by omega) (by omega) (fun h25 => ?_) (fun h25 => ?_)
        · skip
          refine hd_aload_n 61 C dX3_kinds_60 rfl 0 rfl rfl ?_
          refine gm_kindOf 64 C hK dX3_kinds_61 rfl ?_
          refine hd_iload_n 65 C dX3_kinds_64 rfl 1 rfl rfl ?_
          refine hd_iload_n 66 C dX3_kinds_65 rfl 2 rfl rfl ?_
          refine asm_kindOf 67 C hK dX3_kinds_66 rfl (by omega) ?_
          refine hd_iload_n 68 C dX3_kinds_67 rfl 3 rfl rfl ?_
          exact hd_iret C hK dX3_kinds_68 ⟨by rw [uN_uN, uN_self], by rw [show v = 3 by omega]; simp [spKinds, h5, hc_j]⟩
        · skip
          refine hd_aload_n 29 C dX3_kinds_28 rfl 0 rfl rfl ?_
          refine gm_kindOf 32 C hK dX3_kinds_29 rfl ?_
          refine hd_iload_n 33 C dX3_kinds_32 rfl 1 rfl rfl ?_
          refine hd_iload 35 C dX3_kinds_33 rfl 4 rfl ?_
          refine asm_kindOf 36 C hK dX3_kinds_35 rfl (by omega) ?_
          refine hd_eqS (show (uN (uN N 1 j x) 1 j v, Z, E, G, T) = (uN N 1 j v, Z, E, G, T) from by rw [uN_uN]) ?_
          refine hd_iload_n 37 C dX3_kinds_36 rfl 3 rfl rfl ?_
          refine hd_aload_n 38 C dX3_kinds_37 rfl 0 rfl rfl ?_
          refine hd_callVI (rest := [.int (nI (trS (fun v => rdo (uN N 1 j v) (Z 1) (N 0 2)) v))]) 41 C hK hZ hA ⟨Nat.zero_le _, Nat.zero_le _⟩ dX3_kinds_38 rfl kc_X3_196 (m_areSo (inv_kind hI (by omega))) ⟨rfl, rfl⟩ ⟨by decide, by decide⟩ 0 3 rfl rfl rfl rfl rfl (Nat.le_of_ble_eq_true rfl) (fun r38 u38 h38 => ?_)
          obtain ⟨rfl, rfl⟩ := h38
          refine hd_if_eqB 44 51 C dX3_kinds_41 rfl (by decide) (fun h41 => ?_) (fun h41 => ?_)
          · skip
            refine hd_iconst 52 C dX3_kinds_51 rfl (nI 0) (by decide) ?_
            refine hd_ior 53 C dX3_kinds_52 rfl (nI ((trS (fun v => rdo (uN N 1 j v) (Z 1) (N 0 2)) v) ||| 0)) (fa_or _ _) ?_
            refine hd_istore_n 54 C dX3_kinds_53 rfl [(3, .int (nI ((trS (fun v => rdo (uN N 1 j v) (Z 1) (N 0 2)) v) ||| 0))), (0, .ref (a 0)), (1, .int (nI j)), (2, .int (nI (N 1 j))), (4, .int (nI v))] rfl (by decide) rfl ?_
            refine hd_iinc 57 C dX3_kinds_54 rfl 4 (nI (v + 1)) [(4, .int (nI (v + 1))), (3, .int (nI ((trS (fun v => rdo (uN N 1 j v) (Z 1) (N 0 2)) v) ||| 0))), (0, .ref (a 0)), (1, .int (nI j)), (2, .int (nI (N 1 j)))] rfl (nI_add _ _) (by decide) rfl ?_
            refine hd_goto 22 C dX3_kinds_57 (by decide) ?_
            rw [show (trS (fun v => rdo (uN N 1 j v) (Z 1) (N 0 2)) v) ||| 0 = trS (fun v => rdo (uN N 1 j v) (Z 1) (N 0 2)) (v + 1) from (trS_z (f := (fun v => rdo (uN N 1 j v) (Z 1) (N 0 2))) (v := v) h41)]
            refine hd_sub [(0, .ref (a 0)), (1, .int (nI j)), (2, .int (nI (N 1 j))), (3, .int (nI (trS (fun v => rdo (uN N 1 j v) (Z 1) (N 0 2)) (v + 1)))), (4, .int (nI (v + 1)))] [2, 3, 4, 1, 0] rfl ?_
            exact ih_L (v + 1) _ (by omega) (by omega)
          · skip
            refine hd_iconst 45 C dX3_kinds_44 rfl (nI 1) (by decide) ?_
            refine hd_iload 47 C dX3_kinds_45 rfl 4 rfl ?_
            refine hd_ishl 48 C dX3_kinds_47 rfl (nI (2 ^ v)) (nI_shl1 (by omega)) ?_
            refine hd_goto 52 C dX3_kinds_48 (by decide) ?_
            refine hd_ior 53 C dX3_kinds_52 rfl (nI ((trS (fun v => rdo (uN N 1 j v) (Z 1) (N 0 2)) v) ||| (2 ^ v))) (fa_or _ _) ?_
            refine hd_istore_n 54 C dX3_kinds_53 rfl [(3, .int (nI ((trS (fun v => rdo (uN N 1 j v) (Z 1) (N 0 2)) v) ||| (2 ^ v)))), (0, .ref (a 0)), (1, .int (nI j)), (2, .int (nI (N 1 j))), (4, .int (nI v))] rfl (by decide) rfl ?_
            refine hd_iinc 57 C dX3_kinds_54 rfl 4 (nI (v + 1)) [(4, .int (nI (v + 1))), (3, .int (nI ((trS (fun v => rdo (uN N 1 j v) (Z 1) (N 0 2)) v) ||| (2 ^ v)))), (0, .ref (a 0)), (1, .int (nI j)), (2, .int (nI (N 1 j)))] rfl (nI_add _ _) (by decide) rfl ?_
            refine hd_goto 22 C dX3_kinds_57 (by decide) ?_
            rw [show (trS (fun v => rdo (uN N 1 j v) (Z 1) (N 0 2)) v) ||| (2 ^ v) = trS (fun v => rdo (uN N 1 j v) (Z 1) (N 0 2)) (v + 1) from (trS_t (f := (fun v => rdo (uN N 1 j v) (Z 1) (N 0 2))) (v := v) h41)]
            refine hd_sub [(0, .ref (a 0)), (1, .int (nI j)), (2, .int (nI (N 1 j))), (3, .int (nI (trS (fun v => rdo (uN N 1 j v) (Z 1) (N 0 2)) (v + 1)))), (4, .int (nI (v + 1)))] [2, 3, 4, 1, 0] rfl ?_
            exact ih_L (v + 1) _ (by omega) (by omega)
    refine hd_sub [(0, .ref (a 0)), (1, .int (nI j)), (2, .int (nI (N 1 j))), (3, .int (nI 0)), (4, .int (nI 0))] [3, 4, 2, 1, 0] rfl ?_
    exact L (3 + 1) 0 _ (Nat.zero_le _) (by omega)
  · skip
    simp only [Bool.not_eq_true', Bool.not_eq_false'] at h5
    refine hd_iconst 9 C dX3_kinds_8 rfl (-1) (by decide) ?_
    exact hd_iret C hK dX3_kinds_9 ⟨rfl, by simp [spKinds, h5]⟩

set_option maxHeartbeats 4000000 in
set_option maxRecDepth 100000 in
theorem m_soonest {l : Launch} {D : va_G} {cI cJ cD cS : ClassId} {a : Nat → Nat} {N : Nat → Nat → Nat} {Z : Nat → Nat → Int32} {E : Nat → Nat → Int32} {G : Nat → Nat → Int64} {T : Nat → Nat} (xa xb xh k : Int32) (hI : inv N) (hg : Z 0 2 = -9)  : ctI l D (ty4 cI cJ cD cS) none (wM cI a) yX3_soonest cX3_soonest 14 (some .int) (rmk 4 97) [.ref (a 0), .int xa, .int xb, .int xh, .int k] (N, Z, E, G, T) (fun (r : Int32) (u : sT) => u = (N, Z, E, G, T) ∧ r = spSoonest N xa xb xh k) := by
  refine ctI_of [(0, .ref (a 0)), (1, .int xa), (2, .int xb), (3, .int xh), (4, .int k)] (by decide) (Nat.le_of_ble_eq_true rfl) rfl ?_
  intro p e s m args below meth c A C hK hZ hA
  have hR := hI.R
  have hDn := hI.D
  have hQn := hI.Q
  refine hd_aload_n 1 C dX3_soonest_0 rfl 0 rfl rfl ?_
  refine hd_iload_n 2 C dX3_soonest_1 rfl 1 rfl rfl ?_
  refine hd_callVI (rest := []) 5 C hK hZ hA ⟨Nat.zero_le _, Nat.zero_le _⟩ dX3_soonest_2 rfl kc_X3_145 (m_noRoom xa hI) ⟨rfl, rfl⟩ ⟨by decide, by decide⟩ 0 3 rfl rfl rfl rfl rfl (Nat.le_of_ble_eq_true rfl) (fun r2 u2 h2 => ?_)
  obtain ⟨rfl, rfl⟩ := h2
  refine hd_if_neB 8 16 C dX3_soonest_5 rfl (by decide) (fun h5 => ?_) (fun h5 => ?_)
  · skip
    simp only [Bool.not_eq_true', Bool.not_eq_false'] at h5
    refine hd_iconst 17 C dX3_soonest_16 rfl (-1) (by decide) ?_
    exact hd_iret C hK dX3_soonest_17 ⟨rfl, by simp [spSoonest, oI, kBm1, h5]⟩
  · skip
    simp only [Bool.not_eq_true', Bool.not_eq_false'] at h5
    obtain ⟨j, hj_j, rfl⟩ := inB_t h5 (by omega)
    have hc_j : (nI j).toNatClampNeg = j := nI_clamp (by omega)
    refine hd_aload_n 9 C dX3_soonest_8 rfl 0 rfl rfl ?_
    refine hd_iload_n 10 C dX3_soonest_9 rfl 2 rfl rfl ?_
    refine hd_callVI (rest := []) 13 C hK hZ hA ⟨Nat.zero_le _, Nat.zero_le _⟩ dX3_soonest_10 rfl kc_X3_145 (m_noRoom xb hI) ⟨rfl, rfl⟩ ⟨by decide, by decide⟩ 0 3 rfl rfl rfl rfl rfl (Nat.le_of_ble_eq_true rfl) (fun r10 u10 h10 => ?_)
    obtain ⟨rfl, rfl⟩ := h10
    refine hd_if_eqB 16 18 C dX3_soonest_13 rfl (by decide) (fun h13 => ?_) (fun h13 => ?_)
    · skip
      simp only [Bool.not_eq_true', Bool.not_eq_false'] at h13
      obtain ⟨j2, hj_j2, rfl⟩ := inB_t h13 (by omega)
      have hc_j2 : (nI j2).toNatClampNeg = j2 := nI_clamp (by omega)
      refine hd_iload_n 19 C dX3_soonest_18 rfl 3 rfl rfl ?_
      refine hd_callSI (rest := []) 22 C hK hZ hA ⟨Nat.zero_le _, Nat.zero_le _⟩ dX3_soonest_19 rfl kc_X3_137 (m_noHour xh) ⟨rfl, rfl⟩ ⟨by decide, by decide⟩ rfl rfl (Nat.le_of_ble_eq_true rfl) (fun r19 u19 h19 => ?_)
      obtain ⟨rfl, rfl⟩ := h19
      refine hd_if_neB 25 40 C dX3_soonest_22 rfl (by decide) (fun h22 => ?_) (fun h22 => ?_)
      · skip
        simp only [Bool.not_eq_true', Bool.not_eq_false'] at h22
        refine hd_bipush 42 C dX3_soonest_40 rfl (-2) (by decide) ?_
        exact hd_iret C hK dX3_soonest_42 ⟨rfl, by simp [spSoonest, oI, kBm1, h5, hc_j, h13, hc_j2, h22]⟩
      · skip
        simp only [Bool.not_eq_true', Bool.not_eq_false'] at h22
        obtain ⟨h, hj_h, rfl⟩ := inB_t h22 (by omega)
        have hc_h : (nI h).toNatClampNeg = h := nI_clamp (by omega)
        refine hd_iload 27 C dX3_soonest_25 rfl 4 rfl ?_
        refine hd_i2l 28 C dX3_soonest_27 rfl k.toInt64 rfl ?_
        refine hd_ldc2 31 C dX3_soonest_28 rfl kl_X3_178 ?_
        refine hd_ldc2 34 C dX3_soonest_31 rfl kl_X3_180 ?_
        refine hd_callSI (rest := []) 37 C hK hZ hA ⟨Nat.zero_le _, Nat.zero_le _⟩ dX3_soonest_34 rfl kc_X3_77 (m_in k.toInt64 (-1) (23)) ⟨rfl, rfl⟩ ⟨by decide, by decide⟩ rfl rfl (Nat.le_of_ble_eq_true rfl) (fun r34 u34 h34 => ?_)
        obtain ⟨rfl, rfl⟩ := h34
        refine hd_if_neB 40 43 C dX3_soonest_37 rfl (by decide) (fun h37 => ?_) (fun h37 => ?_)
        · skip
          have hkb : kB k = true := by rw [← inL_kB]; exact h37
          refine hd_aload_n 44 C dX3_soonest_43 rfl 0 rfl rfl ?_
          refine hd_iload_n 45 C dX3_soonest_44 rfl 1 rfl rfl ?_
          refine hd_iload_n 46 C dX3_soonest_45 rfl 2 rfl rfl ?_
          refine hd_iload_n 47 C dX3_soonest_46 rfl 3 rfl rfl ?_
          refine hd_bipush 49 C dX3_soonest_47 rfl (nI 24) (by decide) ?_
          refine hd_callVI (rest := []) 52 C hK hZ hA ⟨Nat.zero_le _, Nat.zero_le _⟩ dX3_soonest_49 rfl kc_X3_182 (m_soonestOfW j j2 h 24 hI (by omega) (by omega) (by omega) (by omega) (-9) hg) ⟨rfl, rfl⟩ ⟨by decide, by decide⟩ 0 3 rfl rfl rfl rfl rfl (Nat.le_of_ble_eq_true rfl) (fun r49 u49 h49 => ?_)
          obtain ⟨rfl, rfl⟩ := h49
          rcases ho49 : sn N (-9) j j2 h 24 with _ | rv49
          · skip
            refine hd_istore 54 C dX3_soonest_52 rfl [(5, .int (-9)), (0, .ref (a 0)), (1, .int (nI j)), (2, .int (nI j2)), (3, .int (nI h)), (4, .int k)] (by decide) rfl ?_
            refine hd_iload 56 C dX3_soonest_54 rfl 5 rfl ?_
            refine hd_if_lt 59 66 C dX3_soonest_56 rfl (by decide) (fun h56 => ?_) (fun h56 => ?_)
            · skip
              have hk1 := kB_neg hkb h56
              refine hd_iload 68 C dX3_soonest_66 rfl 5 rfl ?_
              refine hd_if_ge 71 76 C dX3_soonest_68 rfl (by decide) (fun h68 => ?_) (fun h68 => ?_)
              · skip
                exact absurd h68 (by rw [hk1]; decide)
              · skip
                refine hd_iload 73 C dX3_soonest_71 rfl 0 rfl ?_
                refine hd_goto 78 C dX3_soonest_73 (by decide) ?_
                exact hd_iret C hK dX3_soonest_78 ⟨rfl, by simp [spSoonest, oI, kBm1, h5, hc_j, h13, hc_j2, h22, hc_h, hkb, ho49, hk1, h68]⟩
            · skip
              have hin := kB_in hkb h56
              obtain ⟨q, hj_q, rfl⟩ := inB_t hin (by omega)
              have hc_q : (nI q).toNatClampNeg = q := nI_clamp (by omega)
              have hnk : ¬ nI q = -1 := fun e => by have := congrArg Int32.toInt e; rw [nI_toInt (by omega)] at this; have e1 : (-1 : Int32).toInt = -1 := rfl; omega
              refine hd_iload 61 C dX3_soonest_59 rfl 5 rfl ?_
              refine hd_iload 63 C dX3_soonest_61 rfl 0 rfl ?_
              refine hd_icmp_lt 66 79 C dX3_soonest_63 rfl (by decide) (fun h63 => ?_) (fun h63 => ?_)
              · skip
                exact absurd h63 (kB_n9 hkb)
              · skip
                refine hd_iload 68 C dX3_soonest_66 rfl 5 rfl ?_
                refine hd_if_geP 71 76 C dX3_soonest_68 rfl (by decide) (by omega) ?_
                refine hd_bipush 78 C dX3_soonest_76 rfl (-9) (by decide) ?_
                exact hd_iret C hK dX3_soonest_78 ⟨rfl, by simp [spSoonest, oI, kBm1, h5, hc_j, h13, hc_j2, h22, hc_h, hkb, ho49, hc_q, hnk, h63]⟩
          · skip
            have hbrv49 := sn_lt _ ho49
            refine hd_istore 54 C dX3_soonest_52 rfl [(5, .int (nI rv49)), (0, .ref (a 0)), (1, .int (nI j)), (2, .int (nI j2)), (3, .int (nI h)), (4, .int k)] (by decide) rfl ?_
            refine hd_iload 56 C dX3_soonest_54 rfl 5 rfl ?_
            refine hd_if_lt 59 66 C dX3_soonest_56 rfl (by decide) (fun h56 => ?_) (fun h56 => ?_)
            · skip
              have hk1 := kB_neg hkb h56
              refine hd_iload 68 C dX3_soonest_66 rfl 5 rfl ?_
              refine hd_if_ge 71 76 C dX3_soonest_68 rfl (by decide) (fun h68 => ?_) (fun h68 => ?_)
              · skip
                exact absurd h68 (by rw [hk1]; decide)
              · skip
                refine hd_iload 73 C dX3_soonest_71 rfl 0 rfl ?_
                refine hd_goto 78 C dX3_soonest_73 (by decide) ?_
                exact hd_iret C hK dX3_soonest_78 ⟨rfl, by simp [spSoonest, oI, kBm1, h5, hc_j, h13, hc_j2, h22, hc_h, hkb, ho49, hk1, h68]⟩
            · skip
              have hin := kB_in hkb h56
              obtain ⟨q, hj_q, rfl⟩ := inB_t hin (by omega)
              have hc_q : (nI q).toNatClampNeg = q := nI_clamp (by omega)
              have hnk : ¬ nI q = -1 := fun e => by have := congrArg Int32.toInt e; rw [nI_toInt (by omega)] at this; have e1 : (-1 : Int32).toInt = -1 := rfl; omega
              refine hd_iload 61 C dX3_soonest_59 rfl 5 rfl ?_
              refine hd_iload 63 C dX3_soonest_61 rfl 0 rfl ?_
              refine hd_icmp_ltN 66 79 C dX3_soonest_63 rfl (by decide) (by omega) (by omega) (fun h63 => ?_) (fun h63 => ?_)
              · skip
                have hlt := nI_lt h63 (by omega)
                refine hd_iload_n 80 C dX3_soonest_79 rfl 2 rfl rfl ?_
                refine hd_istore 82 C dX3_soonest_80 rfl [(6, .int (nI j)), (5, .int (nI rv49)), (0, .ref (a 0)), (1, .int (nI j)), (2, .int (nI j2)), (3, .int (nI h)), (4, .int (nI q))] (by decide) rfl ?_
                refine hd_bipush 84 C dX3_soonest_82 rfl (-9) (by decide) ?_
                refine hd_istore 86 C dX3_soonest_84 rfl [(7, .int (-9)), (6, .int (nI j)), (5, .int (nI rv49)), (0, .ref (a 0)), (1, .int (nI j)), (2, .int (nI j2)), (3, .int (nI h)), (4, .int (nI q))] (by decide) rfl ?_
                refine hd_iconst 87 C dX3_soonest_86 rfl (nI 0) (by decide) ?_
                refine hd_istore 89 C dX3_soonest_87 rfl [(8, .int (nI 0)), (7, .int (-9)), (6, .int (nI j)), (5, .int (nI rv49)), (0, .ref (a 0)), (1, .int (nI j)), (2, .int (nI j2)), (3, .int (nI h)), (4, .int (nI q))] (by decide) rfl ?_
                have L : ∀ (fuel : Nat) (x : Nat) (v : Int32) (hx : x ≤ q + 1) (hv : ∀ t', x = t' + 1 → v = nI (actS N j j2 h rv49 t')), q + 1 - x < fuel → XW p l e (rmk 4 97) s m args below meth c 14 0 0 A D (MQ below (va_Qi (fun (r : Int32) (u : sT) => u = (N, Z, E, G, T) ∧ r = spSoonest N (nI j) (nI j2) (nI h) (nI q)) (cB D (ty4 cI cJ cD cS) (wM cI a) A) A) args s 0 0 A) (wM cI a) (N, Z, E, G, T) 89 [(0, .ref (a 0)), (1, .int (nI j)), (2, .int (nI j2)), (3, .int (nI h)), (4, .int (nI q)), (5, .int (nI rv49)), (6, .int (nI (rmS N j j2 h rv49 x))), (7, .int v), (8, .int (nI x))] [] := by
                  intro fuel
                  induction fuel with
                  | zero => intro x v hx hv hfu; exact absurd hfu (Nat.not_lt_zero _)
                  | succ fuel ih_L =>
                    intro x v hx hv hfu_L
                    refine hd_iload 91 C dX3_soonest_89 rfl 8 rfl ?_
                    refine hd_iload 93 C dX3_soonest_91 rfl 4 rfl ?_
                    refine hd_icmp_gtN 96 214 C dX3_soonest_93 rfl (by decide) (by omega) (by omega) (fun h93 => ?_) (fun h93 => ?_)
                    · skip
                      refine hd_iload 216 C dX3_soonest_214 rfl 7 rfl ?_
                      exact hd_iret C hK dX3_soonest_216 ⟨rfl, by rw [hv q (by omega)]; simp [spSoonest, h5, hc_j, h13, hc_j2, h22, hc_h, hkb, ho49, hc_q, hnk, hlt]⟩
                    · skip
                      refine hd_iload_n 97 C dX3_soonest_96 rfl 3 rfl rfl ?_
                      refine hd_iload 99 C dX3_soonest_97 rfl 8 rfl ?_
                      refine hd_iadd 100 C dX3_soonest_99 rfl (nI (h + x)) (nI_add _ _) ?_
                      refine hd_bipush 102 C dX3_soonest_100 rfl (nI 12) (by decide) ?_
                      refine hd_irem 103 C dX3_soonest_102 rfl (nI ((h + x) % 12)) (nI_ne0 (by omega) (by omega)) (pk_rem (by omega) (by omega) (by omega)) ?_
                      refine hd_istore 105 C dX3_soonest_103 rfl [(9, .int (nI ((h + x) % 12))), (0, .ref (a 0)), (1, .int (nI j)), (2, .int (nI j2)), (3, .int (nI h)), (4, .int (nI q)), (5, .int (nI rv49)), (6, .int (nI (rmS N j j2 h rv49 x))), (7, .int v), (8, .int (nI x))] (by decide) rfl ?_
                      refine hd_bipush 107 C dX3_soonest_105 rfl (-9) (by decide) ?_
                      refine hd_istore 109 C dX3_soonest_107 rfl [(10, .int (-9)), (9, .int (nI ((h + x) % 12))), (0, .ref (a 0)), (1, .int (nI j)), (2, .int (nI j2)), (3, .int (nI h)), (4, .int (nI q)), (5, .int (nI rv49)), (6, .int (nI (rmS N j j2 h rv49 x))), (7, .int v), (8, .int (nI x))] (by decide) rfl ?_
                      refine hd_aload_n 110 C dX3_soonest_109 rfl 2 rfl rfl ?_
                      refine gm_doors 113 C hK dX3_soonest_110 rfl (nI (N 0 1 + 1) - 1) (nI_pred _).symm ?_
                      refine hd_istore 115 C dX3_soonest_113 rfl [(11, .int (nI (N 0 1 + 1) - 1)), (10, .int (-9)), (9, .int (nI ((h + x) % 12))), (0, .ref (a 0)), (1, .int (nI j)), (2, .int (nI j2)), (3, .int (nI h)), (4, .int (nI q)), (5, .int (nI rv49)), (6, .int (nI (rmS N j j2 h rv49 x))), (7, .int v), (8, .int (nI x))] (by decide) rfl ?_
                      have L2 : ∀ (fuel : Nat) (e0 : Nat) (v2 w2 : Int32) (he : e0 ≤ N 0 1 + 1) (hv2 : v2 = selA (selF N (rmS N j j2 h rv49 x) ((h + x) % 12) j2 (rv49 - x - 1) (N 0 1 + 1 - e0) e0) v) (hw2 : w2 = selB (selF N (rmS N j j2 h rv49 x) ((h + x) % 12) j2 (rv49 - x - 1) (N 0 1 + 1 - e0) e0)), e0 < fuel → XW p l e (rmk 4 97) s m args below meth c 14 0 0 A D (MQ below (va_Qi (fun (r : Int32) (u : sT) => u = (N, Z, E, G, T) ∧ r = spSoonest N (nI j) (nI j2) (nI h) (nI q)) (cB D (ty4 cI cJ cD cS) (wM cI a) A) A) args s 0 0 A) (wM cI a) (N, Z, E, G, T) 115 [(0, .ref (a 0)), (1, .int (nI j)), (2, .int (nI j2)), (3, .int (nI h)), (4, .int (nI q)), (5, .int (nI rv49)), (6, .int (nI (rmS N j j2 h rv49 x))), (7, .int v2), (8, .int (nI x)), (9, .int (nI ((h + x) % 12))), (10, .int w2), (11, .int (nI e0 - 1))] [] := by
                        intro fuel
                        induction fuel with
                        | zero => intro e0 v2 w2 he hv2 hw2 hfu; exact absurd hfu (Nat.not_lt_zero _)
                        | succ fuel ih_L2 =>
                          intro e0 v2 w2 he hv2 hw2 hfu_L2
                          rcases e0 with _ | d
                          · skip
                            have hok := sel_ok hI ho49 (x := x) (by omega)
                            rw [Nat.sub_zero, hok] at hv2 hw2
                            obtain rfl : v2 = nI (actS N j j2 h rv49 x) := hv2
                            obtain rfl : w2 = nI (rmS N j j2 h rv49 (x + 1)) := hw2
                            refine hd_iload 117 C dX3_soonest_115 rfl 11 rfl ?_
                            refine hd_if_lt 120 204 C dX3_soonest_117 rfl (by decide) (fun _ => ?_) (fun q => absurd (by decide) q)
                            refine hd_iload 206 C dX3_soonest_204 rfl 10 rfl ?_
                            refine hd_istore 208 C dX3_soonest_206 rfl [(6, .int (nI (rmS N j j2 h rv49 (x + 1)))), (0, .ref (a 0)), (1, .int (nI j)), (2, .int (nI j2)), (3, .int (nI h)), (4, .int (nI q)), (5, .int (nI rv49)), (7, .int (nI (actS N j j2 h rv49 x))), (8, .int (nI x)), (9, .int (nI ((h + x) % 12))), (10, .int (nI (rmS N j j2 h rv49 (x + 1)))), (11, .int (-1))] (by decide) rfl ?_
                            refine hd_iinc 211 C dX3_soonest_208 rfl 8 (nI (x + 1)) [(8, .int (nI (x + 1))), (6, .int (nI (rmS N j j2 h rv49 (x + 1)))), (0, .ref (a 0)), (1, .int (nI j)), (2, .int (nI j2)), (3, .int (nI h)), (4, .int (nI q)), (5, .int (nI rv49)), (7, .int (nI (actS N j j2 h rv49 x))), (9, .int (nI ((h + x) % 12))), (10, .int (nI (rmS N j j2 h rv49 (x + 1)))), (11, .int (-1))] rfl (nI_add _ _) (by decide) rfl ?_
                            refine hd_goto 89 C dX3_soonest_211 (by decide) ?_
                            refine hd_sub [(0, .ref (a 0)), (1, .int (nI j)), (2, .int (nI j2)), (3, .int (nI h)), (4, .int (nI q)), (5, .int (nI rv49)), (6, .int (nI (rmS N j j2 h rv49 (x + 1)))), (7, .int (nI (actS N j j2 h rv49 x))), (8, .int (nI (x + 1)))] [2, 3, 4, 5, 6, 7, 1, 8, 0] rfl ?_
                            exact ih_L (x + 1) _ (by omega) (fun t' e => by rw [show t' = x by omega]) (by omega)
                          · skip
                            rw [nI_pred]
                            refine hd_iload 117 C dX3_soonest_115 rfl 11 rfl ?_
                            refine hd_if_ltP 120 204 C dX3_soonest_117 rfl (by decide) (by omega) ?_
                            refine hd_aload_n 121 C dX3_soonest_120 rfl 0 rfl rfl ?_
                            refine hd_iload 123 C dX3_soonest_121 rfl 6 rfl ?_
                            refine hd_iload 125 C dX3_soonest_123 rfl 9 rfl ?_
                            refine hd_iload 127 C dX3_soonest_125 rfl 11 rfl ?_
                            refine hd_callVI (rest := []) 130 C hK hZ hA ⟨Nat.zero_le _, Nat.zero_le _⟩ dX3_soonest_127 rfl kc_X3_160 (m_behindW (rmS N j j2 h rv49 x) ((h + x) % 12) d hI (by omega) (Nat.lt_of_lt_of_le (rmS_lt hI (by omega) x) hR) (by omega) (-9) hg) ⟨rfl, rfl⟩ ⟨by decide, by decide⟩ 0 3 rfl rfl rfl rfl rfl (Nat.le_of_ble_eq_true rfl) (fun r127 u127 h127 => ?_)
                            obtain ⟨rfl, rfl⟩ := h127
                            rcases ho127 : bh N (-9) (rmS N j j2 h rv49 x) ((h + x) % 12) d with _ | rv127
                            · skip
                              refine hd_istore 132 C dX3_soonest_130 rfl [(12, .int (-9)), (0, .ref (a 0)), (1, .int (nI j)), (2, .int (nI j2)), (3, .int (nI h)), (4, .int (nI q)), (5, .int (nI rv49)), (6, .int (nI (rmS N j j2 h rv49 x))), (7, .int v2), (8, .int (nI x)), (9, .int (nI ((h + x) % 12))), (10, .int w2), (11, .int (nI d))] (by decide) rfl ?_
                              refine hd_iload 134 C dX3_soonest_132 rfl 0 rfl ?_
                              refine hd_if_lt 137 167 C dX3_soonest_134 rfl (by decide) (fun _ => ?_) (fun q => absurd (by decide) q)
                              refine hd_iconst 168 C dX3_soonest_167 rfl (nI 0) (by decide) ?_
                              refine hd_istore 170 C dX3_soonest_168 rfl [(13, .int (nI 0)), (12, .int (-9)), (0, .ref (a 0)), (1, .int (nI j)), (2, .int (nI j2)), (3, .int (nI h)), (4, .int (nI q)), (5, .int (nI rv49)), (6, .int (nI (rmS N j j2 h rv49 x))), (7, .int v2), (8, .int (nI x)), (9, .int (nI ((h + x) % 12))), (10, .int w2), (11, .int (nI d))] (by decide) rfl ?_
                              refine hd_iload 172 C dX3_soonest_170 rfl 0 rfl ?_
                              refine hd_if_eq 175 180 C dX3_soonest_172 rfl (by decide) (fun _ => ?_) (fun q => absurd (by decide) q)
                              refine hd_iload 182 C dX3_soonest_180 rfl 9 rfl ?_
                              refine hd_istore 184 C dX3_soonest_182 rfl [(7, .int v2), (13, .int (nI 0)), (12, .int (-9)), (0, .ref (a 0)), (1, .int (nI j)), (2, .int (nI j2)), (3, .int (nI h)), (4, .int (nI q)), (5, .int (nI rv49)), (6, .int (nI (rmS N j j2 h rv49 x))), (8, .int (nI x)), (9, .int (nI ((h + x) % 12))), (10, .int w2), (11, .int (nI d))] (by decide) rfl ?_
                              refine hd_iload 186 C dX3_soonest_184 rfl 1 rfl ?_
                              refine hd_if_eq 189 194 C dX3_soonest_186 rfl (by decide) (fun _ => ?_) (fun q => absurd (by decide) q)
                              refine hd_iload 196 C dX3_soonest_194 rfl 12 rfl ?_
                              refine hd_istore 198 C dX3_soonest_196 rfl [(10, .int w2), (7, .int v2), (13, .int (nI 0)), (12, .int (-9)), (0, .ref (a 0)), (1, .int (nI j)), (2, .int (nI j2)), (3, .int (nI h)), (4, .int (nI q)), (5, .int (nI rv49)), (6, .int (nI (rmS N j j2 h rv49 x))), (8, .int (nI x)), (9, .int (nI ((h + x) % 12))), (11, .int (nI d))] (by decide) rfl ?_
                              refine hd_iinc 201 C dX3_soonest_198 rfl 13 (nI d - 1) [(11, .int (nI d - 1)), (10, .int w2), (7, .int v2), (13, .int (nI 0)), (12, .int (-9)), (0, .ref (a 0)), (1, .int (nI j)), (2, .int (nI j2)), (3, .int (nI h)), (4, .int (nI q)), (5, .int (nI rv49)), (6, .int (nI (rmS N j j2 h rv49 x))), (8, .int (nI x)), (9, .int (nI ((h + x) % 12)))] rfl (i_dec _) (by decide) rfl ?_
                              refine hd_goto 115 C dX3_soonest_201 (by decide) ?_
                              refine hd_sub [(0, .ref (a 0)), (1, .int (nI j)), (2, .int (nI j2)), (3, .int (nI h)), (4, .int (nI q)), (5, .int (nI rv49)), (6, .int (nI (rmS N j j2 h rv49 x))), (7, .int v2), (8, .int (nI x)), (9, .int (nI ((h + x) % 12))), (10, .int w2), (11, .int (nI d - 1))] [5, 6, 7, 8, 9, 10, 11, 2, 12, 13, 1, 0] rfl ?_
                              exact ih_L2 d _ _ (by omega) (by rw [show N 0 1 + 1 - d = (N 0 1 + 1 - (d + 1)) + 1 by omega, selF_s, ho127]; exact hv2) (by rw [show N 0 1 + 1 - d = (N 0 1 + 1 - (d + 1)) + 1 by omega, selF_s, ho127]; exact hw2) (by omega)
                            · skip
                              have hbrv127 := bh_lt hI (rmS_lt hI (by omega) x) (by omega) _ ho127
                              refine hd_istore 132 C dX3_soonest_130 rfl [(12, .int (nI rv127)), (0, .ref (a 0)), (1, .int (nI j)), (2, .int (nI j2)), (3, .int (nI h)), (4, .int (nI q)), (5, .int (nI rv49)), (6, .int (nI (rmS N j j2 h rv49 x))), (7, .int v2), (8, .int (nI x)), (9, .int (nI ((h + x) % 12))), (10, .int w2), (11, .int (nI d))] (by decide) rfl ?_
                              refine hd_iload 134 C dX3_soonest_132 rfl 0 rfl ?_
                              refine hd_if_ltP 137 167 C dX3_soonest_134 rfl (by decide) (by omega) ?_
                              refine hd_aload_n 138 C dX3_soonest_137 rfl 1 rfl rfl ?_
                              refine hd_iload 140 C dX3_soonest_138 rfl 0 rfl ?_
                              refine hd_iload_n 141 C dX3_soonest_140 rfl 3 rfl rfl ?_
                              refine hd_iload 143 C dX3_soonest_141 rfl 10 rfl ?_
                              refine hd_iconst 144 C dX3_soonest_143 rfl (nI 1) (by decide) ?_
                              refine hd_iadd 145 C dX3_soonest_144 rfl (nI (((h + x) % 12) + 1)) (nI_add _ _) ?_
                              refine hd_bipush 147 C dX3_soonest_145 rfl (nI 12) (by decide) ?_
                              refine hd_irem 148 C dX3_soonest_147 rfl (nI ((((h + x) % 12) + 1) % 12)) (nI_ne0 (by omega) (by omega)) (pk_rem (by omega) (by omega) (by omega)) ?_
                              refine hd_bipush 150 C dX3_soonest_148 rfl (nI 24) (by decide) ?_
                              refine hd_callVI (rest := []) 153 C hK hZ hA ⟨Nat.zero_le _, Nat.zero_le _⟩ dX3_soonest_150 rfl kc_X3_182 (m_soonestOfW rv127 j2 ((((h + x) % 12) + 1) % 12) 24 hI (by omega) (by omega) (by omega) (by omega) (-9) hg) ⟨rfl, rfl⟩ ⟨by decide, by decide⟩ 0 3 rfl rfl rfl rfl rfl (Nat.le_of_ble_eq_true rfl) (fun r150 u150 h150 => ?_)
                              obtain ⟨rfl, rfl⟩ := h150
                              refine hd_iload 155 C dX3_soonest_153 rfl 6 rfl ?_
                              refine hd_iload 157 C dX3_soonest_155 rfl 9 rfl ?_
                              refine hd_isub 158 C dX3_soonest_157 rfl (nI (rv49 - x)) (pk_sub (by omega)) ?_
                              refine hd_iconst 159 C dX3_soonest_158 rfl (nI 1) (by decide) ?_
                              refine hd_isub 160 C dX3_soonest_159 rfl (nI ((rv49 - x) - 1)) (pk_sub (by omega)) ?_
                              refine hd_icmp_ne 163 167 C dX3_soonest_160 rfl (by decide) (fun h160 => ?_) (fun h160 => ?_)
                              · skip
                                have hsn : ¬ sn N (-9) rv127 j2 (((h + x) % 12 + 1) % 12) 24 = some (rv49 - x - 1) := fun q => h160 ((oI_eqN (fun r hr => Nat.lt_of_lt_of_le (sn_lt r hr) (by decide)) (by omega)).mpr q)
                                refine hd_iconst 168 C dX3_soonest_167 rfl (nI 0) (by decide) ?_
                                refine hd_istore 170 C dX3_soonest_168 rfl [(13, .int (nI 0)), (12, .int (nI rv127)), (0, .ref (a 0)), (1, .int (nI j)), (2, .int (nI j2)), (3, .int (nI h)), (4, .int (nI q)), (5, .int (nI rv49)), (6, .int (nI (rmS N j j2 h rv49 x))), (7, .int v2), (8, .int (nI x)), (9, .int (nI ((h + x) % 12))), (10, .int w2), (11, .int (nI d))] (by decide) rfl ?_
                                refine hd_iload 172 C dX3_soonest_170 rfl 0 rfl ?_
                                refine hd_if_eq 175 180 C dX3_soonest_172 rfl (by decide) (fun _ => ?_) (fun q => absurd (by decide) q)
                                refine hd_iload 182 C dX3_soonest_180 rfl 9 rfl ?_
                                refine hd_istore 184 C dX3_soonest_182 rfl [(7, .int v2), (13, .int (nI 0)), (12, .int (nI rv127)), (0, .ref (a 0)), (1, .int (nI j)), (2, .int (nI j2)), (3, .int (nI h)), (4, .int (nI q)), (5, .int (nI rv49)), (6, .int (nI (rmS N j j2 h rv49 x))), (8, .int (nI x)), (9, .int (nI ((h + x) % 12))), (10, .int w2), (11, .int (nI d))] (by decide) rfl ?_
                                refine hd_iload 186 C dX3_soonest_184 rfl 1 rfl ?_
                                refine hd_if_eq 189 194 C dX3_soonest_186 rfl (by decide) (fun _ => ?_) (fun q => absurd (by decide) q)
                                refine hd_iload 196 C dX3_soonest_194 rfl 12 rfl ?_
                                refine hd_istore 198 C dX3_soonest_196 rfl [(10, .int w2), (7, .int v2), (13, .int (nI 0)), (12, .int (nI rv127)), (0, .ref (a 0)), (1, .int (nI j)), (2, .int (nI j2)), (3, .int (nI h)), (4, .int (nI q)), (5, .int (nI rv49)), (6, .int (nI (rmS N j j2 h rv49 x))), (8, .int (nI x)), (9, .int (nI ((h + x) % 12))), (11, .int (nI d))] (by decide) rfl ?_
                                refine hd_iinc 201 C dX3_soonest_198 rfl 13 (nI d - 1) [(11, .int (nI d - 1)), (10, .int w2), (7, .int v2), (13, .int (nI 0)), (12, .int (nI rv127)), (0, .ref (a 0)), (1, .int (nI j)), (2, .int (nI j2)), (3, .int (nI h)), (4, .int (nI q)), (5, .int (nI rv49)), (6, .int (nI (rmS N j j2 h rv49 x))), (8, .int (nI x)), (9, .int (nI ((h + x) % 12)))] rfl (i_dec _) (by decide) rfl ?_
                                refine hd_goto 115 C dX3_soonest_201 (by decide) ?_
                                refine hd_sub [(0, .ref (a 0)), (1, .int (nI j)), (2, .int (nI j2)), (3, .int (nI h)), (4, .int (nI q)), (5, .int (nI rv49)), (6, .int (nI (rmS N j j2 h rv49 x))), (7, .int v2), (8, .int (nI x)), (9, .int (nI ((h + x) % 12))), (10, .int w2), (11, .int (nI d - 1))] [5, 6, 7, 8, 9, 10, 11, 2, 12, 13, 1, 0] rfl ?_
                                exact ih_L2 d _ _ (by omega) (by rw [show N 0 1 + 1 - d = (N 0 1 + 1 - (d + 1)) + 1 by omega, selF_s, ho127]; simp only [hsn, if_false]; exact hv2) (by rw [show N 0 1 + 1 - d = (N 0 1 + 1 - (d + 1)) + 1 by omega, selF_s, ho127]; simp only [hsn, if_false]; exact hw2) (by omega)
                              · skip
                                have hsn := (oI_eqN (fun r hr => Nat.lt_of_lt_of_le (sn_lt r hr) (by decide)) (by omega)).mp h160
                                refine hd_iconst 164 C dX3_soonest_163 rfl (nI 1) (by decide) ?_
                                refine hd_goto 168 C dX3_soonest_164 (by decide) ?_
                                refine hd_istore 170 C dX3_soonest_168 rfl [(13, .int (nI 1)), (12, .int (nI rv127)), (0, .ref (a 0)), (1, .int (nI j)), (2, .int (nI j2)), (3, .int (nI h)), (4, .int (nI q)), (5, .int (nI rv49)), (6, .int (nI (rmS N j j2 h rv49 x))), (7, .int v2), (8, .int (nI x)), (9, .int (nI ((h + x) % 12))), (10, .int w2), (11, .int (nI d))] (by decide) rfl ?_
                                refine hd_iload 172 C dX3_soonest_170 rfl 0 rfl ?_
                                refine hd_if_eq 175 180 C dX3_soonest_172 rfl (by decide) (fun q => absurd q (by decide)) (fun _ => ?_)
                                refine hd_iload 177 C dX3_soonest_175 rfl 13 rfl ?_
                                refine hd_goto 182 C dX3_soonest_177 (by decide) ?_
                                refine hd_istore 184 C dX3_soonest_182 rfl [(7, .int (nI d)), (13, .int (nI 1)), (12, .int (nI rv127)), (0, .ref (a 0)), (1, .int (nI j)), (2, .int (nI j2)), (3, .int (nI h)), (4, .int (nI q)), (5, .int (nI rv49)), (6, .int (nI (rmS N j j2 h rv49 x))), (8, .int (nI x)), (9, .int (nI ((h + x) % 12))), (10, .int w2), (11, .int (nI d))] (by decide) rfl ?_
                                refine hd_iload 186 C dX3_soonest_184 rfl 1 rfl ?_
                                refine hd_if_eq 189 194 C dX3_soonest_186 rfl (by decide) (fun q => absurd q (by decide)) (fun _ => ?_)
                                refine hd_iload 191 C dX3_soonest_189 rfl 2 rfl ?_
                                refine hd_goto 196 C dX3_soonest_191 (by decide) ?_
                                refine hd_istore 198 C dX3_soonest_196 rfl [(10, .int (nI rv127)), (7, .int (nI d)), (13, .int (nI 1)), (12, .int (nI rv127)), (0, .ref (a 0)), (1, .int (nI j)), (2, .int (nI j2)), (3, .int (nI h)), (4, .int (nI q)), (5, .int (nI rv49)), (6, .int (nI (rmS N j j2 h rv49 x))), (8, .int (nI x)), (9, .int (nI ((h + x) % 12))), (11, .int (nI d))] (by decide) rfl ?_
                                refine hd_iinc 201 C dX3_soonest_198 rfl 13 (nI d - 1) [(11, .int (nI d - 1)), (10, .int (nI rv127)), (7, .int (nI d)), (13, .int (nI 1)), (12, .int (nI rv127)), (0, .ref (a 0)), (1, .int (nI j)), (2, .int (nI j2)), (3, .int (nI h)), (4, .int (nI q)), (5, .int (nI rv49)), (6, .int (nI (rmS N j j2 h rv49 x))), (8, .int (nI x)), (9, .int (nI ((h + x) % 12)))] rfl (i_dec _) (by decide) rfl ?_
                                refine hd_goto 115 C dX3_soonest_201 (by decide) ?_
                                refine hd_sub [(0, .ref (a 0)), (1, .int (nI j)), (2, .int (nI j2)), (3, .int (nI h)), (4, .int (nI q)), (5, .int (nI rv49)), (6, .int (nI (rmS N j j2 h rv49 x))), (7, .int (nI d)), (8, .int (nI x)), (9, .int (nI ((h + x) % 12))), (10, .int (nI rv127)), (11, .int (nI d - 1))] [5, 6, 7, 8, 9, 10, 11, 2, 12, 13, 1, 0] rfl ?_
                                exact ih_L2 d _ _ (by omega) (by rw [show N 0 1 + 1 - d = (N 0 1 + 1 - (d + 1)) + 1 by omega, selF_s, ho127]; simp only [hsn, if_true]; rfl) (by rw [show N 0 1 + 1 - d = (N 0 1 + 1 - (d + 1)) + 1 by omega, selF_s, ho127]; simp only [hsn, if_true]; rfl) (by omega)
                      refine hd_sub [(0, .ref (a 0)), (1, .int (nI j)), (2, .int (nI j2)), (3, .int (nI h)), (4, .int (nI q)), (5, .int (nI rv49)), (6, .int (nI (rmS N j j2 h rv49 x))), (7, .int v), (8, .int (nI x)), (9, .int (nI ((h + x) % 12))), (10, .int (-9)), (11, .int (nI (N 0 1 + 1) - 1))] [3, 4, 5, 6, 7, 8, 9, 10, 11, 2, 1, 0] rfl ?_
                      exact L2 (N 0 1 + 2) (N 0 1 + 1) _ _ (Nat.le_refl _) (by rw [Nat.sub_self]; rfl) (by rw [Nat.sub_self]; rfl) (by omega)
                refine hd_sub [(0, .ref (a 0)), (1, .int (nI j)), (2, .int (nI j2)), (3, .int (nI h)), (4, .int (nI q)), (5, .int (nI rv49)), (6, .int (nI j)), (7, .int (-9)), (8, .int (nI 0))] [4, 5, 6, 7, 8, 3, 2, 1, 0] rfl ?_
                exact L (q + 2) 0 _ (Nat.zero_le _) (fun t' e => by omega) (by omega)
              · skip
                have hlt := nI_nlt h63 (by omega)
                refine hd_iload 68 C dX3_soonest_66 rfl 5 rfl ?_
                refine hd_if_geP 71 76 C dX3_soonest_68 rfl (by decide) (by omega) ?_
                refine hd_bipush 78 C dX3_soonest_76 rfl (-9) (by decide) ?_
                exact hd_iret C hK dX3_soonest_78 ⟨rfl, by simp [spSoonest, oI, kBm1, h5, hc_j, h13, hc_j2, h22, hc_h, hkb, ho49, hc_q, hnk, hlt]⟩
        · skip
          have hkb : kB k = false := by rw [← inL_kB]; exact h37
          refine hd_bipush 42 C dX3_soonest_40 rfl (-2) (by decide) ?_
          exact hd_iret C hK dX3_soonest_42 ⟨rfl, by simp [spSoonest, oI, kBm1, h5, hc_j, h13, hc_j2, h22, hc_h, hkb]⟩
    · skip
      simp only [Bool.not_eq_true', Bool.not_eq_false'] at h13
      refine hd_iconst 17 C dX3_soonest_16 rfl (-1) (by decide) ?_
      exact hd_iret C hK dX3_soonest_17 ⟨rfl, by simp [spSoonest, oI, kBm1, h5, hc_j, h13]⟩

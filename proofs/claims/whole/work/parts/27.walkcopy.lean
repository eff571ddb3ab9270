set_option maxHeartbeats 4000000 in
set_option maxRecDepth 100000 in
theorem m_isBeyond {l : Launch} {D : va_G} {tys : List (ClassId × FieldType)} {σ : Type} {w : σ → va_W} {S : σ} {t : Option Nat} (i n z : Int32)  : ctI l D tys t w yX3_isBeyond cX3_isBeyond 4 (some .boolean) (rmk 0 0) [.int i, .long n.toInt64, .int z] S (fun (r : Int32) (u : σ) => u = S ∧ r = bI (!okC z i n)) := by
  refine ctI_of [(0, .int i), (1, .long n.toInt64), (3, .int z)] (by decide) (Nat.le_of_ble_eq_true rfl) rfl ?_
  intro p e s m args below meth c A C hK hZ hA
  refine hd_iload_n 1 C dX3_isBeyond_0 rfl 0 rfl rfl ?_
  refine hd_if_lt 4 20 C dX3_isBeyond_1 rfl (by decide) (fun h1 => ?_) (fun h1 => ?_)
  · skip
    refine hd_iconst 21 C dX3_isBeyond_20 rfl (nI 1) (by decide) ?_
    refine hd_goto 25 C dX3_isBeyond_21 (by decide) ?_
    exact hd_zret C hK dX3_isBeyond_25 (by decide) ⟨rfl, bI_is1 (by rw [okC_f1 h1]; rfl)⟩
  · skip
    refine hd_lload_n 5 C dX3_isBeyond_4 rfl 1 rfl rfl ?_
    refine hd_lconst 6 C dX3_isBeyond_5 rfl 0 (by decide) ?_
    refine hd_lc_lt 10 20 C dX3_isBeyond_6 dX3_isBeyond_7 rfl (by decide) (fun h6 => ?_) (fun h6 => ?_)
    · skip
      refine hd_iconst 21 C dX3_isBeyond_20 rfl (nI 1) (by decide) ?_
      refine hd_goto 25 C dX3_isBeyond_21 (by decide) ?_
      exact hd_zret C hK dX3_isBeyond_25 (by decide) ⟨rfl, bI_is1 (by rw [okC_f3 (beyond_n.mp h6)]; rfl)⟩
    · skip
      refine hd_iload_n 11 C dX3_isBeyond_10 rfl 0 rfl rfl ?_
      refine hd_i2l 12 C dX3_isBeyond_11 rfl i.toInt64 rfl ?_
      refine hd_lload_n 13 C dX3_isBeyond_12 rfl 1 rfl rfl ?_
      refine hd_ladd 14 C dX3_isBeyond_13 rfl (i.toInt64 + n.toInt64) rfl ?_
      refine hd_iload_n 15 C dX3_isBeyond_14 rfl 2 rfl rfl ?_
      refine hd_i2l 16 C dX3_isBeyond_15 rfl z.toInt64 rfl ?_
      refine hd_lc_le 20 24 C dX3_isBeyond_16 dX3_isBeyond_17 rfl (by decide) (fun h16 => ?_) (fun h16 => ?_)
      · skip
        refine hd_iconst 25 C dX3_isBeyond_24 rfl (nI 0) (by decide) ?_
        exact hd_zret C hK dX3_isBeyond_25 (by decide) ⟨rfl, bI_is0 (by rw [(beyond_ok h1 h6).mpr h16]; rfl)⟩
      · skip
        refine hd_iconst 21 C dX3_isBeyond_20 rfl (nI 1) (by decide) ?_
        refine hd_goto 25 C dX3_isBeyond_21 (by decide) ?_
        exact hd_zret C hK dX3_isBeyond_25 (by decide) ⟨rfl, bI_is1 (by rw [show okC z i n = false from by cases hb : okC z i n; rfl; exact absurd ((beyond_ok h1 h6).mp hb) h16]; rfl)⟩

set_option maxHeartbeats 4000000 in
set_option maxRecDepth 100000 in
theorem x_copy {l : Launch} {D : va_G} {cI cJ cD cS : ClassId} {a : Nat → Nat} {N : Nat → Nat → Nat} {Z : Nat → Nat → Int32} {E : Nat → Nat → Int32} {G : Nat → Nat → Int64} {T : Nat → Nat} {t : Option Nat} (xk xi xo xj xn : Int32) (hz : ∀ k, k < 4 → szOK (Z 2 k))  : ctI l D (ty4 cI cJ cD cS) t (wX cI cJ cD cS a) yX2_copy cX2_copy 8 (some .int) (rmk 1 40) [.ref (a 0), .int xk, .int xi, .int xo, .int xj, .int xn] (N, Z, E, G, T) (fun (r : Int32) (u : sT) => u = (N, uZ Z 0 1 (fzCopy Z xk xi xo xj xn), neCopy Z E xk xi xo xj xn, G, T) ∧ r = spCopy Z xk xi xo xj xn) := by
  refine ctI_of [(0, .ref (a 0)), (1, .int xk), (2, .int xi), (3, .int xo), (4, .int xj), (5, .int xn)] (by decide) (Nat.le_of_ble_eq_true rfl) rfl ?_
  intro p e s m args below meth c A C hK hZ hA
  refine hd_aload_n 1 C dX2_copy_0 rfl 0 rfl rfl ?_
  refine hd_iconst 2 C dX2_copy_1 rfl (nI 0) (by decide) ?_
  refine px_latestFault 5 C hK dX2_copy_2 rfl ?_
  refine hd_iload_n 6 C dX2_copy_5 rfl 1 rfl rfl ?_
  refine hd_callSI (rest := []) 9 C hK hZ hA ⟨Nat.zero_le _, Nat.zero_le _⟩ dX2_copy_6 rfl kc_X2_53 (x_isSheet xk) ⟨rfl, rfl⟩ ⟨by decide, by decide⟩ rfl rfl (Nat.le_of_ble_eq_true rfl) (fun r6 u6 h6 => ?_)
  obtain ⟨rfl, rfl⟩ := h6
  refine hd_if_eqB 12 19 C dX2_copy_9 rfl (by decide) (fun h9 => ?_) (fun h9 => ?_)
  · skip
    refine hd_iconst 20 C dX2_copy_19 rfl (-1) (by decide) ?_
    exact hd_iret C hK dX2_copy_20 ⟨by simp [fzCopy, neCopy, cpN, uZ_uZ, nI_0, h9]; try rfl, by simp [spCopy, cpN, h9]; try rfl⟩
  · skip
    obtain ⟨k, hj_k, rfl⟩ := inB_t h9 (by decide)
    have hc_k : (nI k).toNatClampNeg = k := nI_clamp (by omega)
    refine hd_iload_n 13 C dX2_copy_12 rfl 3 rfl rfl ?_
    refine hd_callSI (rest := []) 16 C hK hZ hA ⟨Nat.zero_le _, Nat.zero_le _⟩ dX2_copy_13 rfl kc_X2_53 (x_isSheet xo) ⟨rfl, rfl⟩ ⟨by decide, by decide⟩ rfl rfl (Nat.le_of_ble_eq_true rfl) (fun r13 u13 h13 => ?_)
    obtain ⟨rfl, rfl⟩ := h13
    refine hd_if_neB 19 21 C dX2_copy_16 rfl (by decide) (fun h16 => ?_) (fun h16 => ?_)
    · skip
      obtain ⟨o, hj_o, rfl⟩ := inB_t h16 (by decide)
      have hc_o : (nI o).toNatClampNeg = o := nI_clamp (by omega)
      refine hd_aload_n 22 C dX2_copy_21 rfl 0 rfl rfl ?_
      refine gx_sheets 25 C hK dX2_copy_22 rfl ?_
      refine hd_iload_n 26 C dX2_copy_25 rfl 1 rfl rfl ?_
      refine alx_sheets 27 C hK dX2_copy_26 rfl (by omega) ?_
      refine hd_astore 29 C dX2_copy_27 rfl [(6, .ref (a (30 + k))), (0, .ref (a 0)), (1, .int (nI k)), (2, .int xi), (3, .int (nI o)), (4, .int xj), (5, .int xn)] (by decide) rfl ?_
      refine hd_aload_n 30 C dX2_copy_29 rfl 1 rfl rfl ?_
      refine gx_sheets 33 C hK dX2_copy_30 rfl ?_
      refine hd_iload_n 34 C dX2_copy_33 rfl 4 rfl rfl ?_
      refine alx_sheets 35 C hK dX2_copy_34 rfl (by omega) ?_
      refine hd_astore 37 C dX2_copy_35 rfl [(7, .ref (a (30 + o))), (6, .ref (a (30 + k))), (0, .ref (a 0)), (1, .int (nI k)), (2, .int xi), (3, .int (nI o)), (4, .int xj), (5, .int xn)] (by decide) rfl ?_
      refine hd_aload 39 C dX2_copy_37 rfl 1 rfl ?_
      refine hd_callVI (rest := []) 42 C hK hZ hA ⟨Nat.zero_le _, Nat.zero_le _⟩ dX2_copy_39 rfl kc_X2_155 (x_hasNothing k (by omega) (Z 2 k) rfl) ⟨rfl, rfl⟩ ⟨by decide, by decide⟩ (18 + k) 1 (wX_sheet _ (by omega)) rfl rfl rfl rfl (Nat.le_of_ble_eq_true rfl) (fun r39 u39 h39 => ?_)
      obtain ⟨rfl, rfl⟩ := h39
      refine hd_if_neB 45 53 C dX2_copy_42 rfl (by decide) (fun h42 => ?_) (fun h42 => ?_)
      · skip
        have h42 := of_decide_eq_true h42
        refine hd_aload_n 54 C dX2_copy_53 rfl 2 rfl rfl ?_
        refine hd_iconst 55 C dX2_copy_54 rfl (nI 1) (by decide) ?_
        refine hd_callVI (rest := []) 58 C hK hZ hA ⟨Nat.zero_le _, Nat.zero_le _⟩ dX2_copy_55 rfl kc_X2_64 (x_faulted (nI 1)) ⟨rfl, rfl⟩ ⟨by decide, by decide⟩ 0 2 rfl rfl rfl rfl rfl (Nat.le_of_ble_eq_true rfl) (fun r55 u55 h55 => ?_)
        obtain ⟨rfl, rfl⟩ := h55
        exact hd_iret C hK dX2_copy_58 ⟨by simp [fzCopy, neCopy, cpN, uZ_uZ, nI_0, h9, hc_k, h16, hc_o, h42]; try rfl, by simp [spCopy, cpN, h9, hc_k, h16, hc_o, h42]; try rfl⟩
      · skip
        have h42 := of_decide_eq_false h42
        refine hd_aload 47 C dX2_copy_45 rfl 0 rfl ?_
        refine hd_callVI (rest := []) 50 C hK hZ hA ⟨Nat.zero_le _, Nat.zero_le _⟩ dX2_copy_47 rfl kc_X2_155 (x_hasNothing o (by omega) (Z 2 o) rfl) ⟨rfl, rfl⟩ ⟨by decide, by decide⟩ (18 + o) 1 (wX_sheet _ (by omega)) rfl rfl rfl rfl (Nat.le_of_ble_eq_true rfl) (fun r47 u47 h47 => ?_)
        obtain ⟨rfl, rfl⟩ := h47
        refine hd_if_eqB 53 59 C dX2_copy_50 rfl (by decide) (fun h50 => ?_) (fun h50 => ?_)
        · skip
          have h50 := of_decide_eq_false h50
          refine hd_aload 61 C dX2_copy_59 rfl 1 rfl ?_
          refine gs2_lane (by omega) 64 C hK dX2_copy_61 rfl (Z 3 k) rfl ?_
          refine hd_aload 66 C dX2_copy_64 rfl 0 rfl ?_
          refine gs2_lane (by omega) 69 C hK dX2_copy_66 rfl (Z 3 o) rfl ?_
          refine hd_icmp_eq 72 78 C dX2_copy_69 rfl (by decide) (fun h69 => ?_) (fun h69 => ?_)
          · skip
            refine hd_aload 80 C dX2_copy_78 rfl 1 rfl ?_
            refine hd_iload_n 81 C dX2_copy_80 rfl 4 rfl rfl ?_
            refine hd_iload 83 C dX2_copy_81 rfl 7 rfl ?_
            refine hd_callVI (rest := []) 86 C hK hZ hA ⟨Nat.zero_le _, Nat.zero_le _⟩ dX2_copy_83 rfl kc_X2_171 (x_hasCells k (by omega) xi xn (Z 2 k) rfl (hz _ (by omega))) ⟨rfl, rfl⟩ ⟨by decide, by decide⟩ (18 + k) 1 (wX_sheet _ (by omega)) rfl rfl rfl rfl (Nat.le_of_ble_eq_true rfl) (fun r83 u83 h83 => ?_)
            obtain ⟨rfl, rfl⟩ := h83
            refine hd_if_eqB 89 101 C dX2_copy_86 rfl (by decide) (fun h86 => ?_) (fun h86 => ?_)
            · skip
              refine hd_aload_n 102 C dX2_copy_101 rfl 2 rfl rfl ?_
              refine hd_iconst 103 C dX2_copy_102 rfl (nI 3) (by decide) ?_
              refine hd_callVI (rest := []) 106 C hK hZ hA ⟨Nat.zero_le _, Nat.zero_le _⟩ dX2_copy_103 rfl kc_X2_64 (x_faulted (nI 3)) ⟨rfl, rfl⟩ ⟨by decide, by decide⟩ 0 2 rfl rfl rfl rfl rfl (Nat.le_of_ble_eq_true rfl) (fun r103 u103 h103 => ?_)
              obtain ⟨rfl, rfl⟩ := h103
              exact hd_iret C hK dX2_copy_106 ⟨by simp [fzCopy, neCopy, cpN, uZ_uZ, nI_0, h9, hc_k, h16, hc_o, h42, h50, h69, h86]; try rfl, by simp [spCopy, cpN, h9, hc_k, h16, hc_o, h42, h50, h69, h86]; try rfl⟩
            · skip
              refine hd_aload 91 C dX2_copy_89 rfl 0 rfl ?_
              refine hd_iload 93 C dX2_copy_91 rfl 6 rfl ?_
              refine hd_iload 95 C dX2_copy_93 rfl 7 rfl ?_
              refine hd_callVI (rest := []) 98 C hK hZ hA ⟨Nat.zero_le _, Nat.zero_le _⟩ dX2_copy_95 rfl kc_X2_171 (x_hasCells o (by omega) xj xn (Z 2 o) rfl (hz _ (by omega))) ⟨rfl, rfl⟩ ⟨by decide, by decide⟩ (18 + o) 1 (wX_sheet _ (by omega)) rfl rfl rfl rfl (Nat.le_of_ble_eq_true rfl) (fun r95 u95 h95 => ?_)
              obtain ⟨rfl, rfl⟩ := h95
              refine hd_if_neB 101 107 C dX2_copy_98 rfl (by decide) (fun h98 => ?_) (fun h98 => ?_)
              · skip
                obtain ⟨mz, i2, n2, ez, rfl, rfl, hm60, hsum⟩ := okC_nat (hz k (by omega)) h86
                obtain ⟨mz3, j2, n3, ez3, rfl, en3, hm603, hsum3⟩ := okC_nat (hz o (by omega)) h98
                have en3 : n2 = n3 := (nI_eq (by omega) (by omega)).mp en3
                have hc_i2 : (nI i2).toNatClampNeg = i2 := nI_clamp (by omega)
                have hc_j2 : (nI j2).toNatClampNeg = j2 := nI_clamp (by omega)
                have hc_n2 : (nI n2).toNatClampNeg = n2 := nI_clamp (by omega)
                refine hd_aload 109 C dX2_copy_107 rfl 1 rfl ?_
                refine gs2_cells (by omega) 112 C hK dX2_copy_109 rfl ?_
                refine hd_iload_n 113 C dX2_copy_112 rfl 4 rfl rfl ?_
                refine hd_aload 115 C dX2_copy_113 rfl 0 rfl ?_
                refine gs2_cells (by omega) 118 C hK dX2_copy_115 rfl ?_
                refine hd_iload 120 C dX2_copy_118 rfl 6 rfl ?_
                refine hd_iload 122 C dX2_copy_120 rfl 7 rfl ?_
                refine hd_copyi 125 C hK dX2_copy_122 rfl kacp_X2_175 kacp_nat kacp_st ki_J10 (22 + k) (22 + o) 0 0 (wX_cells k (by omega)) (wX_cells o (by omega)) rfl rfl (nI_pos (by omega)) (nI_pos (by omega)) (nI_pos (by omega)) (by rw [hc_i2, hc_n2]; omega) (by rw [hc_j2, hc_n2]; omega) (by decide) (by decide) (by rw [hc_i2, hc_j2, hc_n2]; exact wX_pc o _ (by omega)) ?_
                refine hd_iload 127 C dX2_copy_125 rfl 7 rfl ?_
                exact hd_iret C hK dX2_copy_127 ⟨by simp [fzCopy, neCopy, cpN, uZ_uZ, nI_0, h9, hc_k, h16, hc_o, h42, h50, h69, h86, h98, hc_i2, hc_j2, hc_n2]; try rfl, by simp [spCopy, cpN, h9, hc_k, h16, hc_o, h42, h50, h69, h86, h98, hc_i2, hc_j2, hc_n2]; try rfl⟩
              · skip
                refine hd_aload_n 102 C dX2_copy_101 rfl 2 rfl rfl ?_
                refine hd_iconst 103 C dX2_copy_102 rfl (nI 3) (by decide) ?_
                refine hd_callVI (rest := []) 106 C hK hZ hA ⟨Nat.zero_le _, Nat.zero_le _⟩ dX2_copy_103 rfl kc_X2_64 (x_faulted (nI 3)) ⟨rfl, rfl⟩ ⟨by decide, by decide⟩ 0 2 rfl rfl rfl rfl rfl (Nat.le_of_ble_eq_true rfl) (fun r103 u103 h103 => ?_)
                obtain ⟨rfl, rfl⟩ := h103
                exact hd_iret C hK dX2_copy_106 ⟨by simp [fzCopy, neCopy, cpN, uZ_uZ, nI_0, h9, hc_k, h16, hc_o, h42, h50, h69, h86, h98]; try rfl, by simp [spCopy, cpN, h9, hc_k, h16, hc_o, h42, h50, h69, h86, h98]; try rfl⟩
          · skip
            refine hd_aload_n 73 C dX2_copy_72 rfl 2 rfl rfl ?_
            refine hd_iconst 74 C dX2_copy_73 rfl (nI 2) (by decide) ?_
            refine hd_callVI (rest := []) 77 C hK hZ hA ⟨Nat.zero_le _, Nat.zero_le _⟩ dX2_copy_74 rfl kc_X2_64 (x_faulted (nI 2)) ⟨rfl, rfl⟩ ⟨by decide, by decide⟩ 0 2 rfl rfl rfl rfl rfl (Nat.le_of_ble_eq_true rfl) (fun r74 u74 h74 => ?_)
            obtain ⟨rfl, rfl⟩ := h74
            exact hd_iret C hK dX2_copy_77 ⟨by simp [fzCopy, neCopy, cpN, uZ_uZ, nI_0, h9, hc_k, h16, hc_o, h42, h50, h69]; try rfl, by simp [spCopy, cpN, h9, hc_k, h16, hc_o, h42, h50, h69]; try rfl⟩
        · skip
          have h50 := of_decide_eq_true h50
          refine hd_aload_n 54 C dX2_copy_53 rfl 2 rfl rfl ?_
          refine hd_iconst 55 C dX2_copy_54 rfl (nI 1) (by decide) ?_
          refine hd_callVI (rest := []) 58 C hK hZ hA ⟨Nat.zero_le _, Nat.zero_le _⟩ dX2_copy_55 rfl kc_X2_64 (x_faulted (nI 1)) ⟨rfl, rfl⟩ ⟨by decide, by decide⟩ 0 2 rfl rfl rfl rfl rfl (Nat.le_of_ble_eq_true rfl) (fun r55 u55 h55 => ?_)
          obtain ⟨rfl, rfl⟩ := h55
          exact hd_iret C hK dX2_copy_58 ⟨by simp [fzCopy, neCopy, cpN, uZ_uZ, nI_0, h9, hc_k, h16, hc_o, h42, h50]; try rfl, by simp [spCopy, cpN, h9, hc_k, h16, hc_o, h42, h50]; try rfl⟩
    · skip
      refine hd_iconst 20 C dX2_copy_19 rfl (-1) (by decide) ?_
      exact hd_iret C hK dX2_copy_20 ⟨by simp [fzCopy, neCopy, cpN, uZ_uZ, nI_0, h9, hc_k, h16]; try rfl, by simp [spCopy, cpN, h9, hc_k, h16]; try rfl⟩

set_option maxHeartbeats 4000000 in
set_option maxRecDepth 100000 in
theorem m_copy {l : Launch} {D : va_G} {cI cJ cD cS : ClassId} {a : Nat → Nat} {N : Nat → Nat → Nat} {Z : Nat → Nat → Int32} {E : Nat → Nat → Int32} {G : Nat → Nat → Int64} {T : Nat → Nat} (xk xi xo xj xn : Int32) (hz : ∀ k, k < 4 → szOK (Z 2 k))  : ctI l D (ty4 cI cJ cD cS) none (wM cI a) yX3_copy cX3_copy 7 (some .int) (rmk 2 45) [.ref (a 0), .int xk, .int xi, .int xo, .int xj, .int xn] (N, Z, E, G, T) (fun (r : Int32) (u : sT) => (∃ g : Nat → Int32, u = (N, uZ (rZ Z 27 g) 0 1 (fzCopy Z xk xi xo xj xn), neCopy Z E xk xi xo xj xn, G, T)) ∧ r = spCopy Z xk xi xo xj xn) := by
  refine ctI_of [(0, .ref (a 0)), (1, .int xk), (2, .int xi), (3, .int xo), (4, .int xj), (5, .int xn)] (by decide) (Nat.le_of_ble_eq_true rfl) rfl ?_
  intro p e s m args below meth c A C hK hZ hA
  refine hd_iload_n 1 C dX3_copy_0 rfl 1 rfl rfl ?_
  refine hd_callSI (rest := []) 4 C hK hZ hA ⟨Nat.zero_le _, Nat.zero_le _⟩ dX3_copy_1 rfl kc_X3_115 (m_noSheet xk) ⟨rfl, rfl⟩ ⟨by decide, by decide⟩ rfl rfl (Nat.le_of_ble_eq_true rfl) (fun r1 u1 h1 => ?_)
  obtain ⟨rfl, rfl⟩ := h1
  refine hd_if_neB 7 14 C dX3_copy_4 rfl (by decide) (fun h4 => ?_) (fun h4 => ?_)
  · skip
    simp only [Bool.not_eq_true', Bool.not_eq_false'] at h4
    refine hd_aload_n 15 C dX3_copy_14 rfl 0 rfl rfl ?_
    refine hd_iconst 16 C dX3_copy_15 rfl (-1) (by decide) ?_
    refine hd_callVI (rest := []) 19 C hK hZ hA ⟨Nat.zero_le _, Nat.zero_le _⟩ dX3_copy_16 rfl kc_X3_119 (m_refused (-1)) ⟨rfl, rfl⟩ ⟨by decide, by decide⟩ 0 3 rfl rfl rfl rfl rfl (Nat.le_of_ble_eq_true rfl) (fun r16 u16 h16 => ?_)
    obtain ⟨rfl, rfl⟩ := h16
    exact hd_iret C hK dX3_copy_19 ⟨⟨Z 27, by rw [rZ_self]; simp [fzCopy, neCopy, cpN, nI_0, h4]; try rfl⟩, by simp [spCopy, cpN, h4]; try rfl⟩
  · skip
    simp only [Bool.not_eq_true', Bool.not_eq_false'] at h4
    obtain ⟨k, hj_k, rfl⟩ := inB_t h4 (by decide)
    have hc_k : (nI k).toNatClampNeg = k := nI_clamp (by omega)
    refine hd_iload_n 8 C dX3_copy_7 rfl 3 rfl rfl ?_
    refine hd_callSI (rest := []) 11 C hK hZ hA ⟨Nat.zero_le _, Nat.zero_le _⟩ dX3_copy_8 rfl kc_X3_115 (m_noSheet xo) ⟨rfl, rfl⟩ ⟨by decide, by decide⟩ rfl rfl (Nat.le_of_ble_eq_true rfl) (fun r8 u8 h8 => ?_)
    obtain ⟨rfl, rfl⟩ := h8
    refine hd_if_eqB 14 20 C dX3_copy_11 rfl (by decide) (fun h11 => ?_) (fun h11 => ?_)
    · skip
      simp only [Bool.not_eq_true', Bool.not_eq_false'] at h11
      obtain ⟨o, hj_o, rfl⟩ := inB_t h11 (by decide)
      have hc_o : (nI o).toNatClampNeg = o := nI_clamp (by omega)
      refine hd_aload_n 21 C dX3_copy_20 rfl 0 rfl rfl ?_
      refine gm_sheetSize 24 C hK dX3_copy_21 rfl ?_
      refine hd_iload_n 25 C dX3_copy_24 rfl 1 rfl rfl ?_
      refine alm_sheetSize 26 C hK dX3_copy_25 rfl (by omega) (Z 2 k) rfl ?_
      refine hd_if_lt 29 38 C dX3_copy_26 rfl (by decide) (fun h26 => ?_) (fun h26 => ?_)
      · skip
        have h26 := (szOK_neg (hz _ (by omega))).mp h26
        refine hd_aload_n 39 C dX3_copy_38 rfl 0 rfl rfl ?_
        refine hd_iconst 40 C dX3_copy_39 rfl (nI 1) (by decide) ?_
        refine hd_callVI (rest := []) 43 C hK hZ hA ⟨Nat.zero_le _, Nat.zero_le _⟩ dX3_copy_40 rfl kc_X3_107 (m_failed (nI 1)) ⟨rfl, rfl⟩ ⟨by decide, by decide⟩ 0 3 rfl rfl rfl rfl rfl (Nat.le_of_ble_eq_true rfl) (fun r40 u40 h40 => ?_)
        obtain ⟨rfl, rfl⟩ := h40
        exact hd_iret C hK dX3_copy_43 ⟨⟨Z 27, by rw [rZ_self]; simp [fzCopy, neCopy, cpN, nI_0, h4, hc_k, h11, hc_o, h26]; try rfl⟩, by simp [spCopy, cpN, h4, hc_k, h11, hc_o, h26]; try rfl⟩
      · skip
        have h26 : ¬ Z 2 k = -1 := fun q => h26 ((szOK_neg (hz _ (by omega))).mpr q)
        refine hd_aload_n 30 C dX3_copy_29 rfl 0 rfl rfl ?_
        refine gm_sheetSize 33 C hK dX3_copy_30 rfl ?_
        refine hd_iload_n 34 C dX3_copy_33 rfl 3 rfl rfl ?_
        refine alm_sheetSize 35 C hK dX3_copy_34 rfl (by omega) (Z 2 o) rfl ?_
        refine hd_if_ge 38 44 C dX3_copy_35 rfl (by decide) (fun h35 => ?_) (fun h35 => ?_)
        · skip
          have h35 : ¬ Z 2 o = -1 := fun q => by rw [q] at h35; revert h35; decide
          refine hd_aload_n 45 C dX3_copy_44 rfl 0 rfl rfl ?_
          refine gm_sheetLane 48 C hK dX3_copy_45 rfl ?_
          refine hd_iload_n 49 C dX3_copy_48 rfl 1 rfl rfl ?_
          refine alm_sheetLane 50 C hK dX3_copy_49 rfl (by omega) (Z 3 k) rfl ?_
          refine hd_aload_n 51 C dX3_copy_50 rfl 0 rfl rfl ?_
          refine gm_sheetLane 54 C hK dX3_copy_51 rfl ?_
          refine hd_iload_n 55 C dX3_copy_54 rfl 3 rfl rfl ?_
          refine alm_sheetLane 56 C hK dX3_copy_55 rfl (by omega) (Z 3 o) rfl ?_
          refine hd_icmp_eq 59 65 C dX3_copy_56 rfl (by decide) (fun h56 => ?_) (fun h56 => ?_)
          · skip
            refine hd_iload_n 66 C dX3_copy_65 rfl 2 rfl rfl ?_
            refine hd_iload 68 C dX3_copy_66 rfl 5 rfl ?_
            refine hd_i2l 69 C dX3_copy_68 rfl xn.toInt64 rfl ?_
            refine hd_aload_n 70 C dX3_copy_69 rfl 0 rfl rfl ?_
            refine gm_sheetSize 73 C hK dX3_copy_70 rfl ?_
            refine hd_iload_n 74 C dX3_copy_73 rfl 1 rfl rfl ?_
            refine alm_sheetSize 75 C hK dX3_copy_74 rfl (by omega) (Z 2 k) rfl ?_
            refine hd_callSI (rest := []) 78 C hK hZ hA ⟨Nat.zero_le _, Nat.zero_le _⟩ dX3_copy_75 rfl kc_X3_111 (m_isBeyond xi xn (Z 2 k)) ⟨rfl, rfl⟩ ⟨by decide, by decide⟩ rfl rfl (Nat.le_of_ble_eq_true rfl) (fun r75 u75 h75 => ?_)
            obtain ⟨rfl, rfl⟩ := h75
            refine hd_if_neB 81 98 C dX3_copy_78 rfl (by decide) (fun h78 => ?_) (fun h78 => ?_)
            · skip
              simp only [Bool.not_eq_true', Bool.not_eq_false'] at h78
              refine hd_aload_n 99 C dX3_copy_98 rfl 0 rfl rfl ?_
              refine hd_iconst 100 C dX3_copy_99 rfl (nI 3) (by decide) ?_
              refine hd_callVI (rest := []) 103 C hK hZ hA ⟨Nat.zero_le _, Nat.zero_le _⟩ dX3_copy_100 rfl kc_X3_107 (m_failed (nI 3)) ⟨rfl, rfl⟩ ⟨by decide, by decide⟩ 0 3 rfl rfl rfl rfl rfl (Nat.le_of_ble_eq_true rfl) (fun r100 u100 h100 => ?_)
              obtain ⟨rfl, rfl⟩ := h100
              exact hd_iret C hK dX3_copy_103 ⟨⟨Z 27, by rw [rZ_self]; simp [fzCopy, neCopy, cpN, nI_0, h4, hc_k, h11, hc_o, h26, h35, h56, h78]; try rfl⟩, by simp [spCopy, cpN, h4, hc_k, h11, hc_o, h26, h35, h56, h78]; try rfl⟩
            · skip
              simp only [Bool.not_eq_true', Bool.not_eq_false'] at h78
              refine hd_iload 83 C dX3_copy_81 rfl 4 rfl ?_
              refine hd_iload 85 C dX3_copy_83 rfl 5 rfl ?_
              refine hd_i2l 86 C dX3_copy_85 rfl xn.toInt64 rfl ?_
              refine hd_aload_n 87 C dX3_copy_86 rfl 0 rfl rfl ?_
              refine gm_sheetSize 90 C hK dX3_copy_87 rfl ?_
              refine hd_iload_n 91 C dX3_copy_90 rfl 3 rfl rfl ?_
              refine alm_sheetSize 92 C hK dX3_copy_91 rfl (by omega) (Z 2 o) rfl ?_
              refine hd_callSI (rest := []) 95 C hK hZ hA ⟨Nat.zero_le _, Nat.zero_le _⟩ dX3_copy_92 rfl kc_X3_111 (m_isBeyond xj xn (Z 2 o)) ⟨rfl, rfl⟩ ⟨by decide, by decide⟩ rfl rfl (Nat.le_of_ble_eq_true rfl) (fun r92 u92 h92 => ?_)
              obtain ⟨rfl, rfl⟩ := h92
              refine hd_if_eqB 98 104 C dX3_copy_95 rfl (by decide) (fun h95 => ?_) (fun h95 => ?_)
              · skip
                simp only [Bool.not_eq_true', Bool.not_eq_false'] at h95
                obtain ⟨mz, i2, n2, ez, rfl, rfl, hm60, hsum⟩ := okC_nat (hz k (by omega)) h78
                obtain ⟨mz3, j2, n3, ez3, rfl, en3, hm603, hsum3⟩ := okC_nat (hz o (by omega)) h95
                have en3 : n2 = n3 := (nI_eq (by omega) (by omega)).mp en3
                have hc_i2 : (nI i2).toNatClampNeg = i2 := nI_clamp (by omega)
                have hc_j2 : (nI j2).toNatClampNeg = j2 := nI_clamp (by omega)
                have hc_n2 : (nI n2).toNatClampNeg = n2 := nI_clamp (by omega)
                refine hd_iconst 105 C dX3_copy_104 rfl (nI 0) (by decide) ?_
                refine hd_istore 107 C dX3_copy_105 rfl [(6, .int (nI 0)), (0, .ref (a 0)), (1, .int (nI k)), (2, .int (nI i2)), (3, .int (nI o)), (4, .int (nI j2)), (5, .int (nI n2))] (by decide) rfl ?_
                refine hd_eqS (show (N, Z, E, G, T) = (N, rZ Z 27 (Z 27), E, G, T) from by rw [rZ_self]) ?_
                have L : ∀ (fuel : Nat) (q : Nat) (g : Nat → Int32) (hq : q ≤ n2) (hG : ∀ y, y < q → g y = E k (i2 + y)), n2 - q < fuel → XW p l e (rmk 2 45) s m args below meth c 7 0 0 A D (MQ below (va_Qi (fun (r : Int32) (u : sT) => (∃ g : Nat → Int32, u = (N, uZ (rZ Z 27 g) 0 1 (fzCopy Z (nI k) (nI i2) (nI o) (nI j2) (nI n2)), neCopy Z E (nI k) (nI i2) (nI o) (nI j2) (nI n2), G, T)) ∧ r = spCopy Z (nI k) (nI i2) (nI o) (nI j2) (nI n2)) (cB D (ty4 cI cJ cD cS) (wM cI a) A) A) args s 0 0 A) (wM cI a) (N, rZ Z 27 g, E, G, T) 107 [(0, .ref (a 0)), (1, .int (nI k)), (2, .int (nI i2)), (3, .int (nI o)), (4, .int (nI j2)), (5, .int (nI n2)), (6, .int (nI q))] [] := by
                  intro fuel
                  induction fuel with
                  | zero => intro q g hq hG hfu; exact absurd hfu (Nat.not_lt_zero _)
                  | succ fuel ih_L =>
                    intro q g hq hG hfu_L
                    refine hd_iload 109 C dX3_copy_107 rfl 6 rfl ?_
                    refine hd_iload 111 C dX3_copy_109 rfl 5 rfl ?_
                    refine hd_icmp_geN 114 141 C dX3_copy_111 rfl (by decide) (by omega) (by omega) (fun h111 => ?_) (fun h111 => ?_)
                    · skip
                      refine hd_iconst 142 C dX3_copy_141 rfl (nI 0) (by decide) ?_
                      refine hd_istore 144 C dX3_copy_142 rfl [(6, .int (nI 0)), (0, .ref (a 0)), (1, .int (nI k)), (2, .int (nI i2)), (3, .int (nI o)), (4, .int (nI j2)), (5, .int (nI n2))] (by decide) rfl ?_
                      refine hd_eqS (show (N, rZ Z 27 g, E, G, T) = (N, rZ Z 27 g, cpE E g o j2 0, G, T) from by rw [cpE_0]) ?_
                      have L2 : ∀ (fuel : Nat) (q : Nat) (hq2 : q ≤ n2), n2 - q < fuel → XW p l e (rmk 2 45) s m args below meth c 7 0 0 A D (MQ below (va_Qi (fun (r : Int32) (u : sT) => (∃ g : Nat → Int32, u = (N, uZ (rZ Z 27 g) 0 1 (fzCopy Z (nI k) (nI i2) (nI o) (nI j2) (nI n2)), neCopy Z E (nI k) (nI i2) (nI o) (nI j2) (nI n2), G, T)) ∧ r = spCopy Z (nI k) (nI i2) (nI o) (nI j2) (nI n2)) (cB D (ty4 cI cJ cD cS) (wM cI a) A) A) args s 0 0 A) (wM cI a) (N, rZ Z 27 g, cpE E g o j2 q, G, T) 144 [(0, .ref (a 0)), (1, .int (nI k)), (2, .int (nI i2)), (3, .int (nI o)), (4, .int (nI j2)), (5, .int (nI n2)), (6, .int (nI q))] [] := by
                        intro fuel
                        induction fuel with
                        | zero => intro q hq2 hfu; exact absurd hfu (Nat.not_lt_zero _)
                        | succ fuel ih_L2 =>
                          intro q hq2 hfu_L2
                          refine hd_iload 146 C dX3_copy_144 rfl 6 rfl ?_
                          refine hd_iload 148 C dX3_copy_146 rfl 5 rfl ?_
                          refine hd_icmp_geN 151 179 C dX3_copy_148 rfl (by decide) (by omega) (by omega) (fun h148 => ?_) (fun h148 => ?_)
                          · skip
                            refine hd_aload_n 180 C dX3_copy_179 rfl 0 rfl rfl ?_
                            refine hd_iload 182 C dX3_copy_180 rfl 5 rfl ?_
                            refine hd_callVI (rest := []) 185 C hK hZ hA ⟨Nat.zero_le _, Nat.zero_le _⟩ dX3_copy_182 rfl kc_X3_119 (m_refused (nI n2)) ⟨rfl, rfl⟩ ⟨by decide, by decide⟩ 0 3 rfl rfl rfl rfl rfl (Nat.le_of_ble_eq_true rfl) (fun r182 u182 h182 => ?_)
                            obtain ⟨rfl, rfl⟩ := h182
                            have eE : cpE E g o j2 q = rZ E o (va_cpy (E k) (E o) i2 j2 n2) := by rw [show q = n2 by omega]; exact cpE_eq (fun y hy => hG y (by omega))
                            exact hd_iret C hK dX3_copy_185 ⟨⟨g, by rw [eE]; simp [fzCopy, neCopy, cpN, nI_0, h4, hc_k, h11, hc_o, h26, h35, h56, h78, h95, hc_i2, hc_j2, hc_n2]⟩, by simp [spCopy, cpN, h4, hc_k, h11, hc_o, h26, h35, h56, h78, h95, hc_i2, hc_j2, hc_n2]⟩
                          · skip
                            refine hd_aload_n 152 C dX3_copy_151 rfl 0 rfl rfl ?_
                            refine gm_sheet 155 C hK dX3_copy_152 rfl ?_
                            refine hd_bipush 157 C dX3_copy_155 rfl (nI 60) (by decide) ?_
                            refine hd_iload_n 158 C dX3_copy_157 rfl 3 rfl rfl ?_
                            refine hd_imul 159 C dX3_copy_158 rfl (nI (60 * o)) (pk_mul _ _) ?_
                            refine hd_iload 161 C dX3_copy_159 rfl 4 rfl ?_
                            refine hd_iadd 162 C dX3_copy_161 rfl (nI ((60 * o) + j2)) (nI_add _ _) ?_
                            refine hd_iload 164 C dX3_copy_162 rfl 6 rfl ?_
                            refine hd_iadd 165 C dX3_copy_164 rfl (nI (((60 * o) + j2) + q)) (nI_add _ _) ?_
                            refine hd_aload_n 166 C dX3_copy_165 rfl 0 rfl rfl ?_
                            refine gm_hands 169 C hK dX3_copy_166 rfl ?_
                            refine hd_iload 171 C dX3_copy_169 rfl 6 rfl ?_
                            refine alm_hands 172 C hK dX3_copy_171 rfl (by omega) (g q) rfl ?_
                            refine asm_sheet 173 C hK dX3_copy_172 rfl o (j2 + q) (by omega) (by omega) (by omega) ?_
                            refine hd_eqS (show (N, rZ Z 27 g, uZ (cpE E g o j2 q) o (j2 + q) (g q), G, T) = (N, rZ Z 27 g, cpE E g o j2 (q + 1), G, T) from by rw [cpE_s]) ?_
                            refine hd_iinc 176 C dX3_copy_173 rfl 6 (nI (q + 1)) [(6, .int (nI (q + 1))), (0, .ref (a 0)), (1, .int (nI k)), (2, .int (nI i2)), (3, .int (nI o)), (4, .int (nI j2)), (5, .int (nI n2))] rfl (nI_add _ _) (by decide) rfl ?_
                            refine hd_goto 144 C dX3_copy_176 (by decide) ?_
                            refine hd_sub [(0, .ref (a 0)), (1, .int (nI k)), (2, .int (nI i2)), (3, .int (nI o)), (4, .int (nI j2)), (5, .int (nI n2)), (6, .int (nI (q + 1)))] [1, 2, 3, 4, 5, 6, 0] rfl ?_
                            exact ih_L2 (q + 1) (by omega) (by omega)
                      refine hd_sub [(0, .ref (a 0)), (1, .int (nI k)), (2, .int (nI i2)), (3, .int (nI o)), (4, .int (nI j2)), (5, .int (nI n2)), (6, .int (nI 0))] [1, 2, 3, 4, 5, 6, 0] rfl ?_
                      exact L2 (n2 + 1) 0 (Nat.zero_le _) (by omega)
                    · skip
                      refine hd_aload_n 115 C dX3_copy_114 rfl 0 rfl rfl ?_
                      refine gm_hands 118 C hK dX3_copy_115 rfl ?_
                      refine hd_iload 120 C dX3_copy_118 rfl 6 rfl ?_
                      refine hd_aload_n 121 C dX3_copy_120 rfl 0 rfl rfl ?_
                      refine gm_sheet 124 C hK dX3_copy_121 rfl ?_
                      refine hd_bipush 126 C dX3_copy_124 rfl (nI 60) (by decide) ?_
                      refine hd_iload_n 127 C dX3_copy_126 rfl 1 rfl rfl ?_
                      refine hd_imul 128 C dX3_copy_127 rfl (nI (60 * k)) (pk_mul _ _) ?_
                      refine hd_iload_n 129 C dX3_copy_128 rfl 2 rfl rfl ?_
                      refine hd_iadd 130 C dX3_copy_129 rfl (nI ((60 * k) + i2)) (nI_add _ _) ?_
                      refine hd_iload 132 C dX3_copy_130 rfl 6 rfl ?_
                      refine hd_iadd 133 C dX3_copy_132 rfl (nI (((60 * k) + i2) + q)) (nI_add _ _) ?_
                      refine alm_sheet 134 C hK dX3_copy_133 rfl k (i2 + q) (by omega) (by omega) (by omega) (E k (i2 + q)) rfl ?_
                      refine asm_hands 135 C hK dX3_copy_134 rfl (by omega) ?_
                      refine hd_eqS (show (N, uZ (rZ Z 27 g) 27 q (E k (i2 + q)), E, G, T) = (N, rZ Z 27 (upd g q (E k (i2 + q))), E, G, T) from by rw [uZ_rZ]) ?_
                      refine hd_iinc 138 C dX3_copy_135 rfl 6 (nI (q + 1)) [(6, .int (nI (q + 1))), (0, .ref (a 0)), (1, .int (nI k)), (2, .int (nI i2)), (3, .int (nI o)), (4, .int (nI j2)), (5, .int (nI n2))] rfl (nI_add _ _) (by decide) rfl ?_
                      refine hd_goto 107 C dX3_copy_138 (by decide) ?_
                      refine hd_sub [(0, .ref (a 0)), (1, .int (nI k)), (2, .int (nI i2)), (3, .int (nI o)), (4, .int (nI j2)), (5, .int (nI n2)), (6, .int (nI (q + 1)))] [1, 2, 3, 4, 5, 6, 0] rfl ?_
                      exact ih_L (q + 1) _ (by omega) (fun y hy => by by_cases e9 : y = q; rw [e9, pk_us]; rw [pk_un e9]; exact hG y (by omega)) (by omega)
                refine hd_sub [(0, .ref (a 0)), (1, .int (nI k)), (2, .int (nI i2)), (3, .int (nI o)), (4, .int (nI j2)), (5, .int (nI n2)), (6, .int (nI 0))] [1, 2, 3, 4, 5, 6, 0] rfl ?_
                exact L (n2 + 1) 0 _ (Nat.zero_le _) (fun y hy => absurd hy (Nat.not_lt_zero y)) (by omega)
              · skip
                simp only [Bool.not_eq_true', Bool.not_eq_false'] at h95
                refine hd_aload_n 99 C dX3_copy_98 rfl 0 rfl rfl ?_
                refine hd_iconst 100 C dX3_copy_99 rfl (nI 3) (by decide) ?_
                refine hd_callVI (rest := []) 103 C hK hZ hA ⟨Nat.zero_le _, Nat.zero_le _⟩ dX3_copy_100 rfl kc_X3_107 (m_failed (nI 3)) ⟨rfl, rfl⟩ ⟨by decide, by decide⟩ 0 3 rfl rfl rfl rfl rfl (Nat.le_of_ble_eq_true rfl) (fun r100 u100 h100 => ?_)
                obtain ⟨rfl, rfl⟩ := h100
                exact hd_iret C hK dX3_copy_103 ⟨⟨Z 27, by rw [rZ_self]; simp [fzCopy, neCopy, cpN, nI_0, h4, hc_k, h11, hc_o, h26, h35, h56, h78, h95]; try rfl⟩, by simp [spCopy, cpN, h4, hc_k, h11, hc_o, h26, h35, h56, h78, h95]; try rfl⟩
          · skip
            refine hd_aload_n 60 C dX3_copy_59 rfl 0 rfl rfl ?_
            refine hd_iconst 61 C dX3_copy_60 rfl (nI 2) (by decide) ?_
            refine hd_callVI (rest := []) 64 C hK hZ hA ⟨Nat.zero_le _, Nat.zero_le _⟩ dX3_copy_61 rfl kc_X3_107 (m_failed (nI 2)) ⟨rfl, rfl⟩ ⟨by decide, by decide⟩ 0 3 rfl rfl rfl rfl rfl (Nat.le_of_ble_eq_true rfl) (fun r61 u61 h61 => ?_)
            obtain ⟨rfl, rfl⟩ := h61
            exact hd_iret C hK dX3_copy_64 ⟨⟨Z 27, by rw [rZ_self]; simp [fzCopy, neCopy, cpN, nI_0, h4, hc_k, h11, hc_o, h26, h35, h56]; try rfl⟩, by simp [spCopy, cpN, h4, hc_k, h11, hc_o, h26, h35, h56]; try rfl⟩
        · skip
          have h35 : Z 2 o = -1 := (szOK_neg (hz _ (by omega))).mp (by rw [fa_lt]; rw [fa_le] at h35; omega)
          refine hd_aload_n 39 C dX3_copy_38 rfl 0 rfl rfl ?_
          refine hd_iconst 40 C dX3_copy_39 rfl (nI 1) (by decide) ?_
          refine hd_callVI (rest := []) 43 C hK hZ hA ⟨Nat.zero_le _, Nat.zero_le _⟩ dX3_copy_40 rfl kc_X3_107 (m_failed (nI 1)) ⟨rfl, rfl⟩ ⟨by decide, by decide⟩ 0 3 rfl rfl rfl rfl rfl (Nat.le_of_ble_eq_true rfl) (fun r40 u40 h40 => ?_)
          obtain ⟨rfl, rfl⟩ := h40
          exact hd_iret C hK dX3_copy_43 ⟨⟨Z 27, by rw [rZ_self]; simp [fzCopy, neCopy, cpN, nI_0, h4, hc_k, h11, hc_o, h26, h35]; try rfl⟩, by simp [spCopy, cpN, h4, hc_k, h11, hc_o, h26, h35]; try rfl⟩
    · skip
      simp only [Bool.not_eq_true', Bool.not_eq_false'] at h11
      refine hd_aload_n 15 C dX3_copy_14 rfl 0 rfl rfl ?_
      refine hd_iconst 16 C dX3_copy_15 rfl (-1) (by decide) ?_
      refine hd_callVI (rest := []) 19 C hK hZ hA ⟨Nat.zero_le _, Nat.zero_le _⟩ dX3_copy_16 rfl kc_X3_119 (m_refused (-1)) ⟨rfl, rfl⟩ ⟨by decide, by decide⟩ 0 3 rfl rfl rfl rfl rfl (Nat.le_of_ble_eq_true rfl) (fun r16 u16 h16 => ?_)
      obtain ⟨rfl, rfl⟩ := h16
      exact hd_iret C hK dX3_copy_19 ⟨⟨Z 27, by rw [rZ_self]; simp [fzCopy, neCopy, cpN, nI_0, h4, hc_k, h11]; try rfl⟩, by simp [spCopy, cpN, h4, hc_k, h11]; try rfl⟩

set_option maxHeartbeats 4000000 in
set_option maxRecDepth 100000 in
theorem m_cellsBarred {l : Launch} {D : va_G} {cI cJ cD cS : ClassId} {a : Nat → Nat} {N : Nat → Nat → Nat} {Z : Nat → Nat → Int32} {E : Nat → Nat → Int32} {G : Nat → Nat → Int64} {T : Nat → Nat} (k : Nat) (lane i n : Int32) (hk : k < 4) (hz : ∀ k, k < 4 → szOK (Z 2 k))  : ctI l D (ty4 cI cJ cD cS) none (wM cI a) yX3_cellsBarred cX3_cellsBarred 6 (some .int) (rmk 1 23) [.ref (a 0), .int (nI k), .int lane, .int i, .long n.toInt64] (N, Z, E, G, T) (fun (r : Int32) (u : sT) => u = (if ftN (Z 2 k) (Z 3 k) lane i n = 0 then (N, Z, E, G, T) else (N, uZ Z 0 1 (nI (ftN (Z 2 k) (Z 3 k) lane i n)), E, G, T)) ∧ r = (if ftN (Z 2 k) (Z 3 k) lane i n = 0 then 0 else -10 - nI (ftN (Z 2 k) (Z 3 k) lane i n))) := by
  refine ctI_of [(0, .ref (a 0)), (1, .int (nI k)), (2, .int lane), (3, .int i), (4, .long n.toInt64)] (by decide) (Nat.le_of_ble_eq_true rfl) rfl ?_
  intro p e s m args below meth c A C hK hZ hA
  refine hd_aload_n 1 C dX3_cellsBarred_0 rfl 0 rfl rfl ?_
  refine gm_sheetSize 4 C hK dX3_cellsBarred_1 rfl ?_
  refine hd_iload_n 5 C dX3_cellsBarred_4 rfl 1 rfl rfl ?_
  refine alm_sheetSize 6 C hK dX3_cellsBarred_5 rfl (by omega) (Z 2 k) rfl ?_
  refine hd_if_lt 9 25 C dX3_cellsBarred_6 rfl (by decide) (fun h6 => ?_) (fun h6 => ?_)
  · skip
    have h6 := (szOK_neg (hz _ (by omega))).mp h6
    refine hd_aload_n 26 C dX3_cellsBarred_25 rfl 0 rfl rfl ?_
    refine gm_sheetSize 29 C hK dX3_cellsBarred_26 rfl ?_
    refine hd_iload_n 30 C dX3_cellsBarred_29 rfl 1 rfl rfl ?_
    refine alm_sheetSize 31 C hK dX3_cellsBarred_30 rfl (by omega) (Z 2 k) rfl ?_
    refine hd_if_ge 34 40 C dX3_cellsBarred_31 rfl (by decide) (fun h31 => ?_) (fun h31 => ?_)
    · skip
      have h31 : ¬ Z 2 k = -1 := fun q => by rw [q] at h31; revert h31; decide
      refine hd_lload 42 C dX3_cellsBarred_40 rfl 4 rfl ?_
      refine hd_lconst 43 C dX3_cellsBarred_42 rfl 0 (by decide) ?_
      refine hd_lc_ge 47 53 C dX3_cellsBarred_43 dX3_cellsBarred_44 rfl (by decide) (fun h43 => ?_) (fun h43 => ?_)
      · skip
        have h43 : ¬ n < 0 := fun q => by rw [← beyond_n, fa_lt64] at q; rw [fa_le64] at h43; omega
        refine hd_iload_n 54 C dX3_cellsBarred_53 rfl 3 rfl rfl ?_
        refine hd_lload 56 C dX3_cellsBarred_54 rfl 4 rfl ?_
        refine hd_aload_n 57 C dX3_cellsBarred_56 rfl 0 rfl rfl ?_
        refine gm_sheetSize 60 C hK dX3_cellsBarred_57 rfl ?_
        refine hd_iload_n 61 C dX3_cellsBarred_60 rfl 1 rfl rfl ?_
        refine alm_sheetSize 62 C hK dX3_cellsBarred_61 rfl (by omega) (Z 2 k) rfl ?_
        refine hd_callSI (rest := []) 65 C hK hZ hA ⟨Nat.zero_le _, Nat.zero_le _⟩ dX3_cellsBarred_62 rfl kc_X3_111 (m_isBeyond i n (Z 2 k)) ⟨rfl, rfl⟩ ⟨by decide, by decide⟩ rfl rfl (Nat.le_of_ble_eq_true rfl) (fun r62 u62 h62 => ?_)
        obtain ⟨rfl, rfl⟩ := h62
        refine hd_if_eqB 68 76 C dX3_cellsBarred_65 rfl (by decide) (fun h65 => ?_) (fun h65 => ?_)
        · skip
          simp only [Bool.not_eq_true', Bool.not_eq_false'] at h65
          refine hd_iconst 77 C dX3_cellsBarred_76 rfl (nI 0) (by decide) ?_
          exact hd_iret C hK dX3_cellsBarred_77 ⟨by first | exact absurd h6 h31 | (simp [ftN, h6, h31, h43, h65]; try rfl), by first | exact absurd h6 h31 | (simp [ftN, h6, h31, h43, h65]; try rfl)⟩
        · skip
          simp only [Bool.not_eq_true', Bool.not_eq_false'] at h65
          refine hd_aload_n 69 C dX3_cellsBarred_68 rfl 0 rfl rfl ?_
          refine hd_iconst 70 C dX3_cellsBarred_69 rfl (nI 3) (by decide) ?_
          refine hd_callVI (rest := []) 73 C hK hZ hA ⟨Nat.zero_le _, Nat.zero_le _⟩ dX3_cellsBarred_70 rfl kc_X3_107 (m_failed (nI 3)) ⟨rfl, rfl⟩ ⟨by decide, by decide⟩ 0 3 rfl rfl rfl rfl rfl (Nat.le_of_ble_eq_true rfl) (fun r70 u70 h70 => ?_)
          obtain ⟨rfl, rfl⟩ := h70
          refine hd_goto 77 C dX3_cellsBarred_73 (by decide) ?_
          exact hd_iret C hK dX3_cellsBarred_77 ⟨by first | exact absurd h6 h31 | (simp [ftN, h6, h31, h43, h65]; try rfl), by first | exact absurd h6 h31 | (simp [ftN, h6, h31, h43, h65]; try rfl)⟩
      · skip
        have h43 : n < 0 := by rw [← beyond_n, fa_lt64]; rw [fa_le64] at h43; omega
        refine hd_aload_n 48 C dX3_cellsBarred_47 rfl 0 rfl rfl ?_
        refine hd_iconst 49 C dX3_cellsBarred_48 rfl (nI 4) (by decide) ?_
        refine hd_callVI (rest := []) 52 C hK hZ hA ⟨Nat.zero_le _, Nat.zero_le _⟩ dX3_cellsBarred_49 rfl kc_X3_107 (m_failed (nI 4)) ⟨rfl, rfl⟩ ⟨by decide, by decide⟩ 0 3 rfl rfl rfl rfl rfl (Nat.le_of_ble_eq_true rfl) (fun r49 u49 h49 => ?_)
        obtain ⟨rfl, rfl⟩ := h49
        exact hd_iret C hK dX3_cellsBarred_52 ⟨by first | exact absurd h6 h31 | (simp [ftN, h6, h31, h43]; try rfl), by first | exact absurd h6 h31 | (simp [ftN, h6, h31, h43]; try rfl)⟩
    · skip
      have h31 : Z 2 k = -1 := (szOK_neg (hz _ (by omega))).mp (by rw [fa_lt]; rw [fa_le] at h31; omega)
      refine hd_aload_n 35 C dX3_cellsBarred_34 rfl 0 rfl rfl ?_
      refine hd_iconst 36 C dX3_cellsBarred_35 rfl (nI 1) (by decide) ?_
      refine hd_callVI (rest := []) 39 C hK hZ hA ⟨Nat.zero_le _, Nat.zero_le _⟩ dX3_cellsBarred_36 rfl kc_X3_107 (m_failed (nI 1)) ⟨rfl, rfl⟩ ⟨by decide, by decide⟩ 0 3 rfl rfl rfl rfl rfl (Nat.le_of_ble_eq_true rfl) (fun r36 u36 h36 => ?_)
      obtain ⟨rfl, rfl⟩ := h36
      exact hd_iret C hK dX3_cellsBarred_39 ⟨by first | exact absurd h6 h31 | (simp [ftN, h6, h31]; try rfl), by first | exact absurd h6 h31 | (simp [ftN, h6, h31]; try rfl)⟩
  · skip
    have h6 : ¬ Z 2 k = -1 := fun q => h6 ((szOK_neg (hz _ (by omega))).mpr q)
    refine hd_aload_n 10 C dX3_cellsBarred_9 rfl 0 rfl rfl ?_
    refine gm_sheetLane 13 C hK dX3_cellsBarred_10 rfl ?_
    refine hd_iload_n 14 C dX3_cellsBarred_13 rfl 1 rfl rfl ?_
    refine alm_sheetLane 15 C hK dX3_cellsBarred_14 rfl (by omega) (Z 3 k) rfl ?_
    refine hd_iload_n 16 C dX3_cellsBarred_15 rfl 2 rfl rfl ?_
    refine hd_icmp_eq 19 25 C dX3_cellsBarred_16 rfl (by decide) (fun h16 => ?_) (fun h16 => ?_)
    · skip
      refine hd_aload_n 26 C dX3_cellsBarred_25 rfl 0 rfl rfl ?_
      refine gm_sheetSize 29 C hK dX3_cellsBarred_26 rfl ?_
      refine hd_iload_n 30 C dX3_cellsBarred_29 rfl 1 rfl rfl ?_
      refine alm_sheetSize 31 C hK dX3_cellsBarred_30 rfl (by omega) (Z 2 k) rfl ?_
      refine hd_if_ge 34 40 C dX3_cellsBarred_31 rfl (by decide) (fun h31 => ?_) (fun h31 => ?_)
      · skip
        have h31 : ¬ Z 2 k = -1 := fun q => by rw [q] at h31; revert h31; decide
        refine hd_lload 42 C dX3_cellsBarred_40 rfl 4 rfl ?_
        refine hd_lconst 43 C dX3_cellsBarred_42 rfl 0 (by decide) ?_
        refine hd_lc_ge 47 53 C dX3_cellsBarred_43 dX3_cellsBarred_44 rfl (by decide) (fun h43 => ?_) (fun h43 => ?_)
        · skip
          have h43 : ¬ n < 0 := fun q => by rw [← beyond_n, fa_lt64] at q; rw [fa_le64] at h43; omega
          refine hd_iload_n 54 C dX3_cellsBarred_53 rfl 3 rfl rfl ?_
          refine hd_lload 56 C dX3_cellsBarred_54 rfl 4 rfl ?_
          refine hd_aload_n 57 C dX3_cellsBarred_56 rfl 0 rfl rfl ?_
          refine gm_sheetSize 60 C hK dX3_cellsBarred_57 rfl ?_
          refine hd_iload_n 61 C dX3_cellsBarred_60 rfl 1 rfl rfl ?_
          refine alm_sheetSize 62 C hK dX3_cellsBarred_61 rfl (by omega) (Z 2 k) rfl ?_
          refine hd_callSI (rest := []) 65 C hK hZ hA ⟨Nat.zero_le _, Nat.zero_le _⟩ dX3_cellsBarred_62 rfl kc_X3_111 (m_isBeyond i n (Z 2 k)) ⟨rfl, rfl⟩ ⟨by decide, by decide⟩ rfl rfl (Nat.le_of_ble_eq_true rfl) (fun r62 u62 h62 => ?_)
          obtain ⟨rfl, rfl⟩ := h62
          refine hd_if_eqB 68 76 C dX3_cellsBarred_65 rfl (by decide) (fun h65 => ?_) (fun h65 => ?_)
          · skip
            simp only [Bool.not_eq_true', Bool.not_eq_false'] at h65
            refine hd_iconst 77 C dX3_cellsBarred_76 rfl (nI 0) (by decide) ?_
            exact hd_iret C hK dX3_cellsBarred_77 ⟨by first | exact absurd h6 h31 | (simp [ftN, h6, h16, h31, h43, h65]; try rfl), by first | exact absurd h6 h31 | (simp [ftN, h6, h16, h31, h43, h65]; try rfl)⟩
          · skip
            simp only [Bool.not_eq_true', Bool.not_eq_false'] at h65
            refine hd_aload_n 69 C dX3_cellsBarred_68 rfl 0 rfl rfl ?_
            refine hd_iconst 70 C dX3_cellsBarred_69 rfl (nI 3) (by decide) ?_
            refine hd_callVI (rest := []) 73 C hK hZ hA ⟨Nat.zero_le _, Nat.zero_le _⟩ dX3_cellsBarred_70 rfl kc_X3_107 (m_failed (nI 3)) ⟨rfl, rfl⟩ ⟨by decide, by decide⟩ 0 3 rfl rfl rfl rfl rfl (Nat.le_of_ble_eq_true rfl) (fun r70 u70 h70 => ?_)
            obtain ⟨rfl, rfl⟩ := h70
            refine hd_goto 77 C dX3_cellsBarred_73 (by decide) ?_
            exact hd_iret C hK dX3_cellsBarred_77 ⟨by first | exact absurd h6 h31 | (simp [ftN, h6, h16, h31, h43, h65]; try rfl), by first | exact absurd h6 h31 | (simp [ftN, h6, h16, h31, h43, h65]; try rfl)⟩
        · skip
          have h43 : n < 0 := by rw [← beyond_n, fa_lt64]; rw [fa_le64] at h43; omega
          refine hd_aload_n 48 C dX3_cellsBarred_47 rfl 0 rfl rfl ?_
          refine hd_iconst 49 C dX3_cellsBarred_48 rfl (nI 4) (by decide) ?_
          refine hd_callVI (rest := []) 52 C hK hZ hA ⟨Nat.zero_le _, Nat.zero_le _⟩ dX3_cellsBarred_49 rfl kc_X3_107 (m_failed (nI 4)) ⟨rfl, rfl⟩ ⟨by decide, by decide⟩ 0 3 rfl rfl rfl rfl rfl (Nat.le_of_ble_eq_true rfl) (fun r49 u49 h49 => ?_)
          obtain ⟨rfl, rfl⟩ := h49
          exact hd_iret C hK dX3_cellsBarred_52 ⟨by first | exact absurd h6 h31 | (simp [ftN, h6, h16, h31, h43]; try rfl), by first | exact absurd h6 h31 | (simp [ftN, h6, h16, h31, h43]; try rfl)⟩
      · skip
        have h31 : Z 2 k = -1 := (szOK_neg (hz _ (by omega))).mp (by rw [fa_lt]; rw [fa_le] at h31; omega)
        refine hd_aload_n 35 C dX3_cellsBarred_34 rfl 0 rfl rfl ?_
        refine hd_iconst 36 C dX3_cellsBarred_35 rfl (nI 1) (by decide) ?_
        refine hd_callVI (rest := []) 39 C hK hZ hA ⟨Nat.zero_le _, Nat.zero_le _⟩ dX3_cellsBarred_36 rfl kc_X3_107 (m_failed (nI 1)) ⟨rfl, rfl⟩ ⟨by decide, by decide⟩ 0 3 rfl rfl rfl rfl rfl (Nat.le_of_ble_eq_true rfl) (fun r36 u36 h36 => ?_)
        obtain ⟨rfl, rfl⟩ := h36
        exact hd_iret C hK dX3_cellsBarred_39 ⟨by first | exact absurd h6 h31 | (simp [ftN, h6, h16, h31]; try rfl), by first | exact absurd h6 h31 | (simp [ftN, h6, h16, h31]; try rfl)⟩
    · skip
      refine hd_aload_n 20 C dX3_cellsBarred_19 rfl 0 rfl rfl ?_
      refine hd_iconst 21 C dX3_cellsBarred_20 rfl (nI 2) (by decide) ?_
      refine hd_callVI (rest := []) 24 C hK hZ hA ⟨Nat.zero_le _, Nat.zero_le _⟩ dX3_cellsBarred_21 rfl kc_X3_107 (m_failed (nI 2)) ⟨rfl, rfl⟩ ⟨by decide, by decide⟩ 0 3 rfl rfl rfl rfl rfl (Nat.le_of_ble_eq_true rfl) (fun r21 u21 h21 => ?_)
      obtain ⟨rfl, rfl⟩ := h21
      exact hd_iret C hK dX3_cellsBarred_24 ⟨by simp [ftN, h6, h16]; try rfl, by simp [ftN, h6, h16]; try rfl⟩

set_option maxHeartbeats 4000000 in
set_option maxRecDepth 100000 in
theorem x_areActs {l : Launch} {D : va_G} {cI cJ cD cS : ClassId} {a : Nat → Nat} {N : Nat → Nat → Nat} {Z : Nat → Nat → Int32} {E : Nat → Nat → Int32} {G : Nat → Nat → Int64} {T : Nat → Nat} {t : Option Nat} (k i n : Nat) (hk : k < 4) (hI : inv N) (hin : i + n ≤ 60)  : ctI l D (ty4 cI cJ cD cS) t (wX cI cJ cD cS a) yX2_areActs cX2_areActs 6 (some .boolean) (rmk 0 0) [.ref (a 0), .ref (a (30 + k)), .int (nI i), .int (nI n)] (N, Z, E, G, T) (fun (r : Int32) (u : sT) => u = (N, Z, E, G, T) ∧ r = bI (aaB (E k) i (N 0 1) n)) := by
  refine ctI_of [(0, .ref (a 0)), (1, .ref (a (30 + k))), (2, .int (nI i)), (3, .int (nI n))] (by decide) (Nat.le_of_ble_eq_true rfl) rfl ?_
  intro p e s m args below meth c A C hK hZ hA
  have hDn := hI.D
  refine hd_iconst 1 C dX2_areActs_0 rfl (nI 0) (by decide) ?_
  refine hd_istore 3 C dX2_areActs_1 rfl [(4, .int (nI 0)), (0, .ref (a 0)), (1, .ref (a (30 + k))), (2, .int (nI i)), (3, .int (nI n))] (by decide) rfl ?_
  have L : ∀ (fuel : Nat) (q : Nat) (hq : q ≤ n) (hF : aaB (E k) i (N 0 1) q = true), n - q < fuel → XW p l e (rmk 0 0) s m args below meth c 6 0 0 A D (MQ below (va_Qi (fun (r : Int32) (u : sT) => u = (N, Z, E, G, T) ∧ r = bI (aaB (E k) i (N 0 1) n)) (cB D (ty4 cI cJ cD cS) (wX cI cJ cD cS a) A) A) args s 0 0 A) (wX cI cJ cD cS a) (N, Z, E, G, T) 3 [(0, .ref (a 0)), (1, .ref (a (30 + k))), (2, .int (nI i)), (3, .int (nI n)), (4, .int (nI q))] [] := by
    intro fuel
    induction fuel with
    | zero => intro q hq hF hfu; exact absurd hfu (Nat.not_lt_zero _)
    | succ fuel ih_L =>
      intro q hq hF hfu_L
      refine hd_iload 5 C dX2_areActs_3 rfl 4 rfl ?_
      refine hd_iload_n 6 C dX2_areActs_5 rfl 3 rfl rfl ?_
      refine hd_icmp_geN 9 42 C dX2_areActs_6 rfl (by decide) (by omega) (by omega) (fun h6 => ?_) (fun h6 => ?_)
      · skip
        refine hd_iconst 43 C dX2_areActs_42 rfl (nI 1) (by decide) ?_
        exact hd_zret C hK dX2_areActs_43 (by decide) ⟨rfl, bI_is1 (by rw [show n = q by omega]; exact hF)⟩
      · skip
        refine hd_aload_n 10 C dX2_areActs_9 rfl 1 rfl rfl ?_
        refine gs2_cells (by omega) 13 C hK dX2_areActs_10 rfl ?_
        refine hd_iload_n 14 C dX2_areActs_13 rfl 2 rfl rfl ?_
        refine hd_iload 16 C dX2_areActs_14 rfl 4 rfl ?_
        refine hd_iadd 17 C dX2_areActs_16 rfl (nI (i + q)) (nI_add _ _) ?_
        refine alx_cells (by omega) 18 C hK dX2_areActs_17 rfl (by omega) (E k (i + q)) rfl ?_
        refine hd_istore 20 C dX2_areActs_18 rfl [(5, .int (E k (i + q))), (0, .ref (a 0)), (1, .ref (a (30 + k))), (2, .int (nI i)), (3, .int (nI n)), (4, .int (nI q))] (by decide) rfl ?_
        refine hd_iload 22 C dX2_areActs_20 rfl 0 rfl ?_
        refine hd_if_lt 25 34 C dX2_areActs_22 rfl (by decide) (fun h22 => ?_) (fun h22 => ?_)
        · skip
          refine hd_iconst 35 C dX2_areActs_34 rfl (nI 0) (by decide) ?_
          exact hd_zret C hK dX2_areActs_35 (by decide) ⟨rfl, bI_is0 (aaB_f n h6 (inB_neg h22))⟩
        · skip
          refine hd_iload 27 C dX2_areActs_25 rfl 0 rfl ?_
          refine hd_aload_n 28 C dX2_areActs_27 rfl 1 rfl rfl ?_
          refine gx_doorCount 31 C hK dX2_areActs_28 rfl (nI (N 0 1)) rfl ?_
          refine hd_icmp_le 34 36 C dX2_areActs_31 rfl (by decide) (fun h31 => ?_) (fun h31 => ?_)
          · skip
            refine hd_iinc 39 C dX2_areActs_36 rfl 5 (nI (q + 1)) [(4, .int (nI (q + 1))), (5, .int (E k (i + q))), (0, .ref (a 0)), (1, .ref (a (30 + k))), (2, .int (nI i)), (3, .int (nI n))] rfl (nI_add _ _) (by decide) rfl ?_
            refine hd_goto 3 C dX2_areActs_39 (by decide) ?_
            refine hd_sub [(0, .ref (a 0)), (1, .ref (a (30 + k))), (2, .int (nI i)), (3, .int (nI n)), (4, .int (nI (q + 1)))] [2, 3, 4, 5, 0] rfl ?_
            exact ih_L (q + 1) (by omega) (by rw [aaB, hF, inB_le (n := N 0 1) (by omega) h22 h31]; rfl) (by omega)
          · skip
            refine hd_iconst 35 C dX2_areActs_34 rfl (nI 0) (by decide) ?_
            exact hd_zret C hK dX2_areActs_35 (by decide) ⟨rfl, bI_is0 (aaB_f n h6 (inB_gt (n := N 0 1) (by omega) h31))⟩
  refine hd_sub [(0, .ref (a 0)), (1, .ref (a (30 + k))), (2, .int (nI i)), (3, .int (nI n)), (4, .int (nI 0))] [1, 2, 3, 4, 0] rfl ?_
  exact L (n + 1) 0 (Nat.zero_le _) rfl (by omega)

set_option maxHeartbeats 4000000 in
set_option maxRecDepth 100000 in
theorem x_walked {l : Launch} {D : va_G} {cI cJ cD cS : ClassId} {a : Nat → Nat} {N : Nat → Nat → Nat} {Z : Nat → Nat → Int32} {E : Nat → Nat → Int32} {G : Nat → Nat → Int64} {T : Nat → Nat} {t : Option Nat} (room h k i n w : Nat) (ac : Nat → Nat) (hI : inv N) (hr : room < N 0 0) (hh : h < 12) (hk : k < 4) (hin : i + n ≤ 60) (hw : w < 5) (hac : ∀ x, x < n → E k (i + x) = nI (ac x) ∧ ac x ≤ N 0 1)  : ctI l D (ty4 cI cJ cD cS) t (wX cI cJ cD cS a) yX2_walked cX2_walked 13 (some .int) (rmk 2 46) [.ref (a 0), .int (nI room), .int (nI h), .ref (a (30 + k)), .int (nI i), .int (nI n), .int (nI w)] (N, Z, E, G, T) (fun (r : Int32) (u : sT) => u = (N, Z, E, G, T) ∧ r = wres w n h (wkM N h ac n 0 room (2 ^ room) 0)) := by
  refine ctI_of [(0, .ref (a 0)), (1, .int (nI room)), (2, .int (nI h)), (3, .ref (a (30 + k))), (4, .int (nI i)), (5, .int (nI n)), (6, .int (nI w))] (by decide) (Nat.le_of_ble_eq_true rfl) rfl ?_
  intro p e s m args below meth c A C hK hZ hA
  have hR := hI.R
  have hDn := hI.D
  refine hd_iload_n 1 C dX2_walked_0 rfl 1 rfl rfl ?_
  refine hd_istore 3 C dX2_walked_1 rfl [(7, .int (nI room)), (0, .ref (a 0)), (1, .int (nI room)), (2, .int (nI h)), (3, .ref (a (30 + k))), (4, .int (nI i)), (5, .int (nI n)), (6, .int (nI w))] (by decide) rfl ?_
  refine hd_iconst 4 C dX2_walked_3 rfl (nI 1) (by decide) ?_
  refine hd_iload_n 5 C dX2_walked_4 rfl 2 rfl rfl ?_
  refine hd_ishl 6 C dX2_walked_5 rfl (nI (2 ^ room)) (nI_shl1 (by omega)) ?_
  refine hd_istore 8 C dX2_walked_6 rfl [(8, .int (nI (2 ^ room))), (7, .int (nI room)), (0, .ref (a 0)), (1, .int (nI room)), (2, .int (nI h)), (3, .ref (a (30 + k))), (4, .int (nI i)), (5, .int (nI n)), (6, .int (nI w))] (by decide) rfl ?_
  refine hd_iconst 9 C dX2_walked_8 rfl (nI 0) (by decide) ?_
  refine hd_istore 11 C dX2_walked_9 rfl [(9, .int (nI 0)), (8, .int (nI (2 ^ room))), (7, .int (nI room)), (0, .ref (a 0)), (1, .int (nI room)), (2, .int (nI h)), (3, .ref (a (30 + k))), (4, .int (nI i)), (5, .int (nI n)), (6, .int (nI w))] (by decide) rfl ?_
  refine hd_iconst 12 C dX2_walked_11 rfl (nI 0) (by decide) ?_
  refine hd_istore 14 C dX2_walked_12 rfl [(10, .int (nI 0)), (9, .int (nI 0)), (8, .int (nI (2 ^ room))), (7, .int (nI room)), (0, .ref (a 0)), (1, .int (nI room)), (2, .int (nI h)), (3, .ref (a (30 + k))), (4, .int (nI i)), (5, .int (nI n)), (6, .int (nI w))] (by decide) rfl ?_
  have L : ∀ (fuel : Nat) (q x7 x8 x9 : Nat) (hq : q ≤ n) (hat : x7 < N 0 0) (hbn : x8 < 64) (hcn : x9 ≤ q) (hF : wkM N h ac n 0 room (2 ^ room) 0 = wkM N h ac (n - q) q x7 x8 x9), n - q < fuel → XW p l e (rmk 2 46) s m args below meth c 13 0 0 A D (MQ below (va_Qi (fun (r : Int32) (u : sT) => u = (N, Z, E, G, T) ∧ r = wres w n h (wkM N h ac n 0 room (2 ^ room) 0)) (cB D (ty4 cI cJ cD cS) (wX cI cJ cD cS a) A) A) args s 0 0 A) (wX cI cJ cD cS a) (N, Z, E, G, T) 14 [(0, .ref (a 0)), (1, .int (nI room)), (2, .int (nI h)), (3, .ref (a (30 + k))), (4, .int (nI i)), (5, .int (nI n)), (6, .int (nI w)), (7, .int (nI x7)), (8, .int (nI x8)), (9, .int (nI x9)), (10, .int (nI q))] [] := by
    intro fuel
    induction fuel with
    | zero => intro q x7 x8 x9 hq hat hbn hcn hF hfu; exact absurd hfu (Nat.not_lt_zero _)
    | succ fuel ih_L =>
      intro q x7 x8 x9 hq hat hbn hcn hF hfu_L
      refine hd_iload 16 C dX2_walked_14 rfl 10 rfl ?_
      refine hd_iload 18 C dX2_walked_16 rfl 5 rfl ?_
      refine hd_icmp_geN 21 105 C dX2_walked_18 rfl (by decide) (by omega) (by omega) (fun h18 => ?_) (fun h18 => ?_)
      · skip
        refine hd_iload 107 C dX2_walked_105 rfl 6 rfl ?_
        have e9 : wkM N h ac (n - q) q x7 x8 x9 = (none, x7, x8, x9) := by rw [show n - q = 0 by omega]; rfl
        rcases sw5 hw with rfl | rfl | rfl | rfl | rfl
        · skip
          refine hd_tableIn 136 C dX2_walked_107 (by decide) (by decide) rfl (by decide) ?_
          refine hd_iload 138 C dX2_walked_136 rfl 7 rfl ?_
          exact hd_iret C hK dX2_walked_138 ⟨rfl, by rw [hF, e9]; rfl⟩
        · skip
          refine hd_tableIn 139 C dX2_walked_107 (by decide) (by decide) rfl (by decide) ?_
          refine hd_bipush 141 C dX2_walked_139 rfl (-9) (by decide) ?_
          exact hd_iret C hK dX2_walked_141 ⟨rfl, by rw [hF, e9]; rfl⟩
        · skip
          refine hd_tableIn 142 C dX2_walked_107 (by decide) (by decide) rfl (by decide) ?_
          refine hd_iload 144 C dX2_walked_142 rfl 8 rfl ?_
          exact hd_iret C hK dX2_walked_144 ⟨rfl, by rw [hF, e9]; rfl⟩
        · skip
          refine hd_tableIn 145 C dX2_walked_107 (by decide) (by decide) rfl (by decide) ?_
          refine hd_iload_n 146 C dX2_walked_145 rfl 2 rfl rfl ?_
          refine hd_iload 148 C dX2_walked_146 rfl 5 rfl ?_
          refine hd_iadd 149 C dX2_walked_148 rfl (nI (h + n)) (nI_add _ _) ?_
          refine hd_bipush 151 C dX2_walked_149 rfl (nI 12) (by decide) ?_
          refine hd_irem 152 C dX2_walked_151 rfl (nI ((h + n) % 12)) (nI_ne0 (by omega) (by omega)) (pk_rem (by omega) (by omega) (by omega)) ?_
          exact hd_iret C hK dX2_walked_152 ⟨rfl, by rw [hF, e9]; rfl⟩
        · skip
          refine hd_tableOut 153 C dX2_walked_107 (by decide) (by decide) ?_
          refine hd_iload 155 C dX2_walked_153 rfl 9 rfl ?_
          exact hd_iret C hK dX2_walked_155 ⟨rfl, by rw [hF, e9]; rfl⟩
      · skip
        refine hd_aload_n 22 C dX2_walked_21 rfl 3 rfl rfl ?_
        refine gs2_cells (by omega) 25 C hK dX2_walked_22 rfl ?_
        refine hd_iload 27 C dX2_walked_25 rfl 4 rfl ?_
        refine hd_iload 29 C dX2_walked_27 rfl 10 rfl ?_
        refine hd_iadd 30 C dX2_walked_29 rfl (nI (i + q)) (nI_add _ _) ?_
        refine alx_cells (by omega) 31 C hK dX2_walked_30 rfl (by omega) (nI (ac q)) (hac q h18).1 ?_
        have haq := (hac q h18).2
        refine hd_istore 33 C dX2_walked_31 rfl [(11, .int (nI (ac q))), (0, .ref (a 0)), (1, .int (nI room)), (2, .int (nI h)), (3, .ref (a (30 + k))), (4, .int (nI i)), (5, .int (nI n)), (6, .int (nI w)), (7, .int (nI x7)), (8, .int (nI x8)), (9, .int (nI x9)), (10, .int (nI q))] (by decide) rfl ?_
        refine hd_aload_n 34 C dX2_walked_33 rfl 1 rfl rfl ?_
        refine hd_iload 36 C dX2_walked_34 rfl 0 rfl ?_
        refine hd_iload 38 C dX2_walked_36 rfl 8 rfl ?_
        refine hd_iload_n 39 C dX2_walked_38 rfl 3 rfl rfl ?_
        refine hd_iload 41 C dX2_walked_39 rfl 11 rfl ?_
        refine hd_iadd 42 C dX2_walked_41 rfl (nI (h + q)) (nI_add _ _) ?_
        refine hd_bipush 44 C dX2_walked_42 rfl (nI 12) (by decide) ?_
        refine hd_irem 45 C dX2_walked_44 rfl (nI ((h + q) % 12)) (nI_ne0 (by omega) (by omega)) (pk_rem (by omega) (by omega) (by omega)) ?_
        refine hd_callVI (rest := []) 48 C hK hZ hA ⟨Nat.zero_le _, Nat.zero_le _⟩ dX2_walked_45 rfl kc_X2_205 (x_roomAfter (ac q) x7 ((h + q) % 12) hI (by omega) (by omega) (by omega)) ⟨rfl, rfl⟩ ⟨by decide, by decide⟩ 0 2 rfl rfl rfl rfl rfl (Nat.le_of_ble_eq_true rfl) (fun r45 u45 h45 => ?_)
        obtain ⟨rfl, rfl⟩ := h45
        rcases ho45 : bh N (-9) x7 ((h + q) % 12) (ac q) with _ | rv45
        · skip
          refine hd_istore 50 C dX2_walked_48 rfl [(12, .int (-9)), (11, .int (nI (ac q))), (0, .ref (a 0)), (1, .int (nI room)), (2, .int (nI h)), (3, .ref (a (30 + k))), (4, .int (nI i)), (5, .int (nI n)), (6, .int (nI w)), (7, .int (nI x7)), (8, .int (nI x8)), (9, .int (nI x9)), (10, .int (nI q))] (by decide) rfl ?_
          refine hd_iload 52 C dX2_walked_50 rfl 0 rfl ?_
          refine hd_bipush 54 C dX2_walked_52 rfl (-9) (by decide) ?_
          refine hd_icmp_ne 57 74 C dX2_walked_54 rfl (by decide) (fun q => absurd rfl q) (fun _ => ?_)
          refine hd_iload 59 C dX2_walked_57 rfl 8 rfl ?_
          refine hd_iconst 60 C dX2_walked_59 rfl (nI 1) (by decide) ?_
          refine hd_icmp_neN 63 68 C dX2_walked_60 rfl (by decide) (by omega) (by omega) (fun h60 => ?_) (fun h60 => ?_)
          · skip
            refine hd_bipush 70 C dX2_walked_68 rfl (-100) (by decide) ?_
            refine hd_iload 72 C dX2_walked_70 rfl 12 rfl ?_
            refine hd_isub 73 C dX2_walked_72 rfl (-100 - nI q) rfl ?_
            have e9 : wkM N h ac (n - q) q x7 x8 x9 = (some q, x7, x8, x9) := by rw [show n - q = (n - q - 1) + 1 by omega, wkM_s, ho45]
            exact hd_iret C hK dX2_walked_73 ⟨rfl, by rw [hF, e9]; simp [wres, oI, h60]⟩
          · skip
            refine hd_iload 65 C dX2_walked_63 rfl 12 rfl ?_
            refine hd_goto 73 C dX2_walked_65 (by decide) ?_
            have e9 : wkM N h ac (n - q) q x7 x8 x9 = (some q, x7, x8, x9) := by rw [show n - q = (n - q - 1) + 1 by omega, wkM_s, ho45]
            exact hd_iret C hK dX2_walked_73 ⟨rfl, by rw [hF, e9]; simp [wres, oI, h60]⟩
        · skip
          have hbrv45 := bh_lt hI (by omega) (by omega) _ ho45
          refine hd_istore 50 C dX2_walked_48 rfl [(12, .int (nI rv45)), (11, .int (nI (ac q))), (0, .ref (a 0)), (1, .int (nI room)), (2, .int (nI h)), (3, .ref (a (30 + k))), (4, .int (nI i)), (5, .int (nI n)), (6, .int (nI w)), (7, .int (nI x7)), (8, .int (nI x8)), (9, .int (nI x9)), (10, .int (nI q))] (by decide) rfl ?_
          refine hd_iload 52 C dX2_walked_50 rfl 0 rfl ?_
          refine hd_bipush 54 C dX2_walked_52 rfl (-9) (by decide) ?_
          refine hd_icmp_ne 57 74 C dX2_walked_54 rfl (by decide) (fun _ => ?_) (fun q => absurd q (nI_ne9 (by omega)))
          refine hd_iload 76 C dX2_walked_74 rfl 0 rfl ?_
          refine hd_istore 78 C dX2_walked_76 rfl [(7, .int (nI rv45)), (12, .int (nI rv45)), (11, .int (nI (ac q))), (0, .ref (a 0)), (1, .int (nI room)), (2, .int (nI h)), (3, .ref (a (30 + k))), (4, .int (nI i)), (5, .int (nI n)), (6, .int (nI w)), (8, .int (nI x8)), (9, .int (nI x9)), (10, .int (nI q))] (by decide) rfl ?_
          refine hd_iload 80 C dX2_walked_78 rfl 10 rfl ?_
          refine hd_iconst 81 C dX2_walked_80 rfl (nI 1) (by decide) ?_
          refine hd_iload 83 C dX2_walked_81 rfl 0 rfl ?_
          refine hd_ishl 84 C dX2_walked_83 rfl (nI (2 ^ rv45)) (nI_shl1 (by omega)) ?_
          refine hd_ior 85 C dX2_walked_84 rfl (nI (x8 ||| (2 ^ rv45))) (fa_or _ _) ?_
          refine hd_istore 87 C dX2_walked_85 rfl [(8, .int (nI (x8 ||| (2 ^ rv45)))), (7, .int (nI rv45)), (12, .int (nI rv45)), (11, .int (nI (ac q))), (0, .ref (a 0)), (1, .int (nI room)), (2, .int (nI h)), (3, .ref (a (30 + k))), (4, .int (nI i)), (5, .int (nI n)), (6, .int (nI w)), (9, .int (nI x9)), (10, .int (nI q))] (by decide) rfl ?_
          refine hd_iload 89 C dX2_walked_87 rfl 3 rfl ?_
          refine hd_aload_n 90 C dX2_walked_89 rfl 4 rfl rfl ?_
          refine gx_doorCount 93 C hK dX2_walked_90 rfl (nI (N 0 1)) rfl ?_
          refine hd_icmp_eqN 96 99 C dX2_walked_93 rfl (by decide) (by omega) (by omega) (fun h93 => ?_) (fun h93 => ?_)
          · skip
            refine hd_iinc 102 C dX2_walked_99 rfl 12 (nI (q + 1)) [(10, .int (nI (q + 1))), (8, .int (nI (x8 ||| (2 ^ rv45)))), (7, .int (nI rv45)), (12, .int (nI rv45)), (11, .int (nI (ac q))), (0, .ref (a 0)), (1, .int (nI room)), (2, .int (nI h)), (3, .ref (a (30 + k))), (4, .int (nI i)), (5, .int (nI n)), (6, .int (nI w)), (9, .int (nI x9))] rfl (nI_add _ _) (by decide) rfl ?_
            refine hd_goto 14 C dX2_walked_102 (by decide) ?_
            refine hd_sub [(0, .ref (a 0)), (1, .int (nI room)), (2, .int (nI h)), (3, .ref (a (30 + k))), (4, .int (nI i)), (5, .int (nI n)), (6, .int (nI w)), (7, .int (nI rv45)), (8, .int (nI (x8 ||| (2 ^ rv45)))), (9, .int (nI x9)), (10, .int (nI (q + 1)))] [5, 6, 7, 8, 9, 10, 11, 2, 1, 12, 0] rfl ?_
            exact ih_L (q + 1) rv45 _ _ (by omega) (by omega) (or_lt hbn (by omega)) (by omega) (by rw [hF, show n - q = (n - q - 1) + 1 by omega, show n - (q + 1) = n - q - 1 by omega, wkM_s, ho45]; simp [h93]) (by omega)
          · skip
            refine hd_iinc 99 C dX2_walked_96 rfl 11 (nI (x9 + 1)) [(9, .int (nI (x9 + 1))), (8, .int (nI (x8 ||| (2 ^ rv45)))), (7, .int (nI rv45)), (12, .int (nI rv45)), (11, .int (nI (ac q))), (0, .ref (a 0)), (1, .int (nI room)), (2, .int (nI h)), (3, .ref (a (30 + k))), (4, .int (nI i)), (5, .int (nI n)), (6, .int (nI w)), (10, .int (nI q))] rfl (nI_add _ _) (by decide) rfl ?_
            refine hd_iinc 102 C dX2_walked_99 rfl 12 (nI (q + 1)) [(10, .int (nI (q + 1))), (9, .int (nI (x9 + 1))), (8, .int (nI (x8 ||| (2 ^ rv45)))), (7, .int (nI rv45)), (12, .int (nI rv45)), (11, .int (nI (ac q))), (0, .ref (a 0)), (1, .int (nI room)), (2, .int (nI h)), (3, .ref (a (30 + k))), (4, .int (nI i)), (5, .int (nI n)), (6, .int (nI w))] rfl (nI_add _ _) (by decide) rfl ?_
            refine hd_goto 14 C dX2_walked_102 (by decide) ?_
            refine hd_sub [(0, .ref (a 0)), (1, .int (nI room)), (2, .int (nI h)), (3, .ref (a (30 + k))), (4, .int (nI i)), (5, .int (nI n)), (6, .int (nI w)), (7, .int (nI rv45)), (8, .int (nI (x8 ||| (2 ^ rv45)))), (9, .int (nI (x9 + 1))), (10, .int (nI (q + 1)))] [6, 7, 8, 9, 10, 11, 12, 3, 2, 1, 0] rfl ?_
            exact ih_L (q + 1) rv45 _ _ (by omega) (by omega) (or_lt hbn (by omega)) (by omega) (by rw [hF, show n - q = (n - q - 1) + 1 by omega, show n - (q + 1) = n - q - 1 by omega, wkM_s, ho45]; simp [h93]) (by omega)
  refine hd_sub [(0, .ref (a 0)), (1, .int (nI room)), (2, .int (nI h)), (3, .ref (a (30 + k))), (4, .int (nI i)), (5, .int (nI n)), (6, .int (nI w)), (7, .int (nI room)), (8, .int (nI (2 ^ room))), (9, .int (nI 0)), (10, .int (nI 0))] [4, 5, 6, 7, 8, 9, 10, 3, 2, 1, 0] rfl ?_
  exact L (n + 1) 0 _ _ _ (Nat.zero_le _) (by omega) (pow_lt6 (by omega)) (Nat.zero_le _) rfl (by omega)

set_option maxHeartbeats 4000000 in
set_option maxRecDepth 100000 in
theorem x_walk {l : Launch} {D : va_G} {cI cJ cD cS : ClassId} {a : Nat → Nat} {N : Nat → Nat → Nat} {Z : Nat → Nat → Int32} {E : Nat → Nat → Int32} {G : Nat → Nat → Int64} {T : Nat → Nat} {t : Option Nat} (xr xh xk ln xi xn xw : Int32) (hI : inv N) (hz : ∀ k, k < 4 → szOK (Z 2 k))  : ctI l D (ty4 cI cJ cD cS) t (wX cI cJ cD cS a) yX2_walk cX2_walk 10 (some .int) (rmk 3 78) [.ref (a 0), .int xr, .int xh, .int xk, .int ln, .int xi, .int xn, .int xw] (N, Z, E, G, T) (fun (r : Int32) (u : sT) => u = (N, uZ Z 0 1 (fzWalk N Z xr xh xk ln xi xn xw), E, G, T) ∧ r = spWalk N Z E xr xh xk ln xi xn xw) := by
  refine ctI_of [(0, .ref (a 0)), (1, .int xr), (2, .int xh), (3, .int xk), (4, .int ln), (5, .int xi), (6, .int xn), (7, .int xw)] (by decide) (Nat.le_of_ble_eq_true rfl) rfl ?_
  intro p e s m args below meth c A C hK hZ hA
  have hR := hI.R
  have hDn := hI.D
  have hQn := hI.Q
  refine hd_aload_n 1 C dX2_walk_0 rfl 0 rfl rfl ?_
  refine hd_iconst 2 C dX2_walk_1 rfl (nI 0) (by decide) ?_
  refine px_latestFault 5 C hK dX2_walk_2 rfl ?_
  refine hd_aload_n 6 C dX2_walk_5 rfl 0 rfl rfl ?_
  refine hd_iload_n 7 C dX2_walk_6 rfl 1 rfl rfl ?_
  refine hd_callVI (rest := []) 10 C hK hZ hA ⟨Nat.zero_le _, Nat.zero_le _⟩ dX2_walk_7 rfl kc_X2_104 (x_isRoom xr hI) ⟨rfl, rfl⟩ ⟨by decide, by decide⟩ 0 2 rfl rfl rfl rfl rfl (Nat.le_of_ble_eq_true rfl) (fun r7 u7 h7 => ?_)
  obtain ⟨rfl, rfl⟩ := h7
  refine hd_if_eqB 13 20 C dX2_walk_10 rfl (by decide) (fun h10 => ?_) (fun h10 => ?_)
  · skip
    refine hd_iconst 21 C dX2_walk_20 rfl (-1) (by decide) ?_
    exact hd_iret C hK dX2_walk_21 ⟨by simp [fzWalk, uZ_uZ, nI_0, h10], by simp [spWalk, h10]⟩
  · skip
    obtain ⟨r2, hj_r2, rfl⟩ := inB_t h10 (by omega)
    have hc_r2 : (nI r2).toNatClampNeg = r2 := nI_clamp (by omega)
    refine hd_iload_n 14 C dX2_walk_13 rfl 3 rfl rfl ?_
    refine hd_callSI (rest := []) 17 C hK hZ hA ⟨Nat.zero_le _, Nat.zero_le _⟩ dX2_walk_14 rfl kc_X2_53 (x_isSheet xk) ⟨rfl, rfl⟩ ⟨by decide, by decide⟩ rfl rfl (Nat.le_of_ble_eq_true rfl) (fun r14 u14 h14 => ?_)
    obtain ⟨rfl, rfl⟩ := h14
    refine hd_if_neB 20 22 C dX2_walk_17 rfl (by decide) (fun h17 => ?_) (fun h17 => ?_)
    · skip
      obtain ⟨k, hj_k, rfl⟩ := inB_t h17 (by decide)
      have hc_k : (nI k).toNatClampNeg = k := nI_clamp (by omega)
      refine hd_iload_n 23 C dX2_walk_22 rfl 2 rfl rfl ?_
      refine hd_callSI (rest := []) 26 C hK hZ hA ⟨Nat.zero_le _, Nat.zero_le _⟩ dX2_walk_23 rfl kc_X2_94 (x_isHour xh) ⟨rfl, rfl⟩ ⟨by decide, by decide⟩ rfl rfl (Nat.le_of_ble_eq_true rfl) (fun r23 u23 h23 => ?_)
      obtain ⟨rfl, rfl⟩ := h23
      refine hd_if_eqB 29 37 C dX2_walk_26 rfl (by decide) (fun h26 => ?_) (fun h26 => ?_)
      · skip
        refine hd_bipush 39 C dX2_walk_37 rfl (-2) (by decide) ?_
        exact hd_iret C hK dX2_walk_39 ⟨by simp [fzWalk, uZ_uZ, nI_0, h10, hc_r2, h17, hc_k, h26], by simp [spWalk, h10, hc_r2, h17, hc_k, h26]⟩
      · skip
        obtain ⟨h2, hj_h2, rfl⟩ := inB_t h26 (by decide)
        have hc_h2 : (nI h2).toNatClampNeg = h2 := nI_clamp (by omega)
        refine hd_iload 31 C dX2_walk_29 rfl 4 rfl ?_
        refine hd_callSI (rest := []) 34 C hK hZ hA ⟨Nat.zero_le _, Nat.zero_le _⟩ dX2_walk_31 rfl kc_X2_57 (x_isLane ln) ⟨rfl, rfl⟩ ⟨by decide, by decide⟩ rfl rfl (Nat.le_of_ble_eq_true rfl) (fun r31 u31 h31 => ?_)
        obtain ⟨rfl, rfl⟩ := h31
        refine hd_if_neB 37 40 C dX2_walk_34 rfl (by decide) (fun h34 => ?_) (fun h34 => ?_)
        · skip
          refine hd_iload 42 C dX2_walk_40 rfl 6 rfl ?_
          refine hd_if_lt 45 63 C dX2_walk_42 rfl (by decide) (fun h42 => ?_) (fun h42 => ?_)
          · skip
            have hb1 : inB xn 41 = false := inB_neg h42
            refine hd_bipush 65 C dX2_walk_63 rfl (-2) (by decide) ?_
            exact hd_iret C hK dX2_walk_65 ⟨by simp [fzWalk, uZ_uZ, nI_0, h10, hc_r2, h17, hc_k, h26, hc_h2, h34, hb1], by simp [spWalk, h10, hc_r2, h17, hc_k, h26, hc_h2, h34, hb1]⟩
          · skip
            refine hd_iload 47 C dX2_walk_45 rfl 6 rfl ?_
            refine hd_bipush 49 C dX2_walk_47 rfl (nI 40) (by decide) ?_
            refine hd_icmp_gt 52 63 C dX2_walk_49 rfl (by decide) (fun h49 => ?_) (fun h49 => ?_)
            · skip
              have hb1 : inB xn 41 = false := inB_gt (n := 40) (by decide) (fa_of_lt h49).2.1
              refine hd_bipush 65 C dX2_walk_63 rfl (-2) (by decide) ?_
              exact hd_iret C hK dX2_walk_65 ⟨by simp [fzWalk, uZ_uZ, nI_0, h10, hc_r2, h17, hc_k, h26, hc_h2, h34, hb1], by simp [spWalk, h10, hc_r2, h17, hc_k, h26, hc_h2, h34, hb1]⟩
            · skip
              have hb1 := inB_le (n := 40) (by decide) h42 (fa_of_nlt h49)
              obtain ⟨n2, hj_n2, rfl⟩ := inB_t hb1 (by decide)
              have hc_n2 : (nI n2).toNatClampNeg = n2 := nI_clamp (by omega)
              refine hd_iload 54 C dX2_walk_52 rfl 7 rfl ?_
              refine hd_if_lt 57 63 C dX2_walk_54 rfl (by decide) (fun h54 => ?_) (fun h54 => ?_)
              · skip
                have hb2 : inB xw 5 = false := inB_neg h54
                refine hd_bipush 65 C dX2_walk_63 rfl (-2) (by decide) ?_
                exact hd_iret C hK dX2_walk_65 ⟨by simp [fzWalk, uZ_uZ, nI_0, h10, hc_r2, h17, hc_k, h26, hc_h2, h34, hb1, hc_n2, hb2], by simp [spWalk, h10, hc_r2, h17, hc_k, h26, hc_h2, h34, hb1, hc_n2, hb2]⟩
              · skip
                refine hd_iload 59 C dX2_walk_57 rfl 7 rfl ?_
                refine hd_iconst 60 C dX2_walk_59 rfl (nI 4) (by decide) ?_
                refine hd_icmp_le 63 66 C dX2_walk_60 rfl (by decide) (fun h60 => ?_) (fun h60 => ?_)
                · skip
                  have hb2 := inB_le (n := 4) (by decide) h54 h60
                  obtain ⟨w2, hj_w2, rfl⟩ := inB_t hb2 (by decide)
                  have hc_w2 : (nI w2).toNatClampNeg = w2 := nI_clamp (by omega)
                  refine hd_aload_n 67 C dX2_walk_66 rfl 0 rfl rfl ?_
                  refine gx_sheets 70 C hK dX2_walk_67 rfl ?_
                  refine hd_iload_n 71 C dX2_walk_70 rfl 3 rfl rfl ?_
                  refine alx_sheets 72 C hK dX2_walk_71 rfl (by omega) ?_
                  refine hd_astore 74 C dX2_walk_72 rfl [(8, .ref (a (30 + k))), (0, .ref (a 0)), (1, .int (nI r2)), (2, .int (nI h2)), (3, .int (nI k)), (4, .int ln), (5, .int xi), (6, .int (nI n2)), (7, .int (nI w2))] (by decide) rfl ?_
                  refine hd_aload 76 C dX2_walk_74 rfl 0 rfl ?_
                  refine hd_iload 78 C dX2_walk_76 rfl 5 rfl ?_
                  refine hd_iload 80 C dX2_walk_78 rfl 6 rfl ?_
                  refine hd_iload 82 C dX2_walk_80 rfl 7 rfl ?_
                  refine hd_callVI (rest := []) 85 C hK hZ hA ⟨Nat.zero_le _, Nat.zero_le _⟩ dX2_walk_82 rfl kc_X2_60 (x_faultOfTaking k (by omega) ln xi (nI n2) (Z 2 k) (Z 3 k) rfl rfl (hz _ (by omega))) ⟨rfl, rfl⟩ ⟨by decide, by decide⟩ (18 + k) 1 (wX_sheet _ (by omega)) rfl rfl rfl rfl (Nat.le_of_ble_eq_true rfl) (fun r82 u82 h82 => ?_)
                  obtain ⟨rfl, rfl⟩ := h82
                  have hft82 := ftN_lt (Z 2 k) (Z 3 k) ln xi (nI n2)
                  refine hd_istore 87 C dX2_walk_85 rfl [(9, .int (nI (ftN (Z 2 k) (Z 3 k) ln xi (nI n2)))), (8, .ref (a (30 + k))), (0, .ref (a 0)), (1, .int (nI r2)), (2, .int (nI h2)), (3, .int (nI k)), (4, .int ln), (5, .int xi), (6, .int (nI n2)), (7, .int (nI w2))] (by decide) rfl ?_
                  refine hd_iload 89 C dX2_walk_87 rfl 0 rfl ?_
                  refine hd_if_eqN 92 99 C dX2_walk_89 rfl (by decide) (by omega) (fun h89 => ?_) (fun h89 => ?_)
                  · skip
                    obtain ⟨hn1, hl9, -, hok⟩ := ftN_0 h89
                    obtain ⟨mz, i2, n3, ez, rfl, en, hm60, hsum⟩ := okC_nat (hz k (by omega)) hok
                    have en : n2 = n3 := (nI_eq (by omega) (by omega)).mp en
                    have hc_i2 : (nI i2).toNatClampNeg = i2 := nI_clamp (by omega)
                    refine hd_aload_n 100 C dX2_walk_99 rfl 2 rfl rfl ?_
                    refine hd_aload 102 C dX2_walk_100 rfl 1 rfl ?_
                    refine hd_iload 104 C dX2_walk_102 rfl 7 rfl ?_
                    refine hd_iload 106 C dX2_walk_104 rfl 8 rfl ?_
                    refine hd_callVI (rest := []) 109 C hK hZ hA ⟨Nat.zero_le _, Nat.zero_le _⟩ dX2_walk_106 rfl kc_X2_107 (x_areActs k i2 n2 (by omega) hI (by omega)) ⟨rfl, rfl⟩ ⟨by decide, by decide⟩ 0 2 rfl rfl rfl rfl rfl (Nat.le_of_ble_eq_true rfl) (fun r106 u106 h106 => ?_)
                    obtain ⟨rfl, rfl⟩ := h106
                    refine hd_if_neB 112 115 C dX2_walk_109 rfl (by decide) (fun h109 => ?_) (fun h109 => ?_)
                    · skip
                      have hac := aaB_all (by omega) n2 h109
                      refine hd_aload_n 116 C dX2_walk_115 rfl 2 rfl rfl ?_
                      refine hd_iload_n 117 C dX2_walk_116 rfl 3 rfl rfl ?_
                      refine hd_iload_n 118 C dX2_walk_117 rfl 4 rfl rfl ?_
                      refine hd_aload 120 C dX2_walk_118 rfl 1 rfl ?_
                      refine hd_iload 122 C dX2_walk_120 rfl 7 rfl ?_
                      refine hd_iload 124 C dX2_walk_122 rfl 8 rfl ?_
                      refine hd_iload 126 C dX2_walk_124 rfl 9 rfl ?_
                      refine hd_callVI (rest := []) 129 C hK hZ hA ⟨Nat.zero_le _, Nat.zero_le _⟩ dX2_walk_126 rfl kc_X2_111 (x_walked r2 h2 k i2 n2 w2 (fun x => cl (E k (i2 + x))) hI (by omega) (by omega) (by omega) (by omega) (by omega) hac) ⟨rfl, rfl⟩ ⟨by decide, by decide⟩ 0 2 rfl rfl rfl rfl rfl (Nat.le_of_ble_eq_true rfl) (fun r126 u126 h126 => ?_)
                      obtain ⟨rfl, rfl⟩ := h126
                      exact hd_iret C hK dX2_walk_129 ⟨by simp [fzWalk, uZ_uZ, nI_0, h10, hc_r2, h17, hc_k, h26, hc_h2, h34, hb1, hc_n2, hb2, hc_w2, h89, hc_i2, h109], by simp [spWalk, h10, hc_r2, h17, hc_k, h26, hc_h2, h34, hb1, hc_n2, hb2, hc_w2, h89, hc_i2, h109]⟩
                    · skip
                      refine hd_bipush 114 C dX2_walk_112 rfl (-2) (by decide) ?_
                      exact hd_iret C hK dX2_walk_114 ⟨by simp [fzWalk, uZ_uZ, nI_0, h10, hc_r2, h17, hc_k, h26, hc_h2, h34, hb1, hc_n2, hb2, hc_w2, h89, hc_i2, h109], by simp [spWalk, h10, hc_r2, h17, hc_k, h26, hc_h2, h34, hb1, hc_n2, hb2, hc_w2, h89, hc_i2, h109]⟩
                  · skip
                    refine hd_aload_n 93 C dX2_walk_92 rfl 2 rfl rfl ?_
                    refine hd_iload 95 C dX2_walk_93 rfl 0 rfl ?_
                    refine hd_callVI (rest := []) 98 C hK hZ hA ⟨Nat.zero_le _, Nat.zero_le _⟩ dX2_walk_95 rfl kc_X2_64 (x_faulted (nI (ftN (Z 2 k) (Z 3 k) ln xi (nI n2)))) ⟨rfl, rfl⟩ ⟨by decide, by decide⟩ 0 2 rfl rfl rfl rfl rfl (Nat.le_of_ble_eq_true rfl) (fun r95 u95 h95 => ?_)
                    obtain ⟨rfl, rfl⟩ := h95
                    exact hd_iret C hK dX2_walk_98 ⟨by simp [fzWalk, uZ_uZ, nI_0, h10, hc_r2, h17, hc_k, h26, hc_h2, h34, hb1, hc_n2, hb2, hc_w2, h89], by simp [spWalk, h10, hc_r2, h17, hc_k, h26, hc_h2, h34, hb1, hc_n2, hb2, hc_w2, h89]⟩
                · skip
                  have hb2 : inB xw 5 = false := inB_gt (n := 4) (by decide) h60
                  refine hd_bipush 65 C dX2_walk_63 rfl (-2) (by decide) ?_
                  exact hd_iret C hK dX2_walk_65 ⟨by simp [fzWalk, uZ_uZ, nI_0, h10, hc_r2, h17, hc_k, h26, hc_h2, h34, hb1, hc_n2, hb2], by simp [spWalk, h10, hc_r2, h17, hc_k, h26, hc_h2, h34, hb1, hc_n2, hb2]⟩
        · skip
          refine hd_bipush 39 C dX2_walk_37 rfl (-2) (by decide) ?_
          exact hd_iret C hK dX2_walk_39 ⟨by simp [fzWalk, uZ_uZ, nI_0, h10, hc_r2, h17, hc_k, h26, hc_h2, h34], by simp [spWalk, h10, hc_r2, h17, hc_k, h26, hc_h2, h34]⟩
    · skip
      refine hd_iconst 21 C dX2_walk_20 rfl (-1) (by decide) ?_
      exact hd_iret C hK dX2_walk_21 ⟨by simp [fzWalk, uZ_uZ, nI_0, h10, hc_r2, h17], by simp [spWalk, h10, hc_r2, h17]⟩

set_option maxHeartbeats 4000000 in
set_option maxRecDepth 100000 in
theorem m_goWalk {l : Launch} {D : va_G} {cI cJ cD cS : ClassId} {a : Nat → Nat} {N : Nat → Nat → Nat} {Z : Nat → Nat → Int32} {E : Nat → Nat → Int32} {G : Nat → Nat → Int64} {T : Nat → Nat} (room h k i n : Nat) (ac : Nat → Nat) (hI : inv N) (hr : room < N 0 0) (hh : h < 12) (hk : k < 4) (hin : i + n ≤ 60) (hac : ∀ x, x < n → E k (i + x) = nI (ac x) ∧ ac x ≤ N 0 1) (hg : Z 0 2 = -9)  : ctV l D (ty4 cI cJ cD cS) none (wM cI a) yX3_goWalk cX3_goWalk 8 none (rmk 2 46) [.ref (a 0), .int (nI room), .int (nI h), .int (nI (60 * k + i)), .int (nI n)] (N, Z, E, G, T) (fun (u : sT) => ∃ Q : Option Nat × Nat × Nat × Nat, Q = wkM N h ac n 0 room (2 ^ room) 0 ∧ u = (N, g4 Z (oI Q.1) (nI Q.2.1) (nI Q.2.2.1) (nI Q.2.2.2), E, G, T)) := by
  refine ctV_of [(0, .ref (a 0)), (1, .int (nI room)), (2, .int (nI h)), (3, .int (nI (60 * k + i))), (4, .int (nI n))] (by decide) (Nat.le_of_ble_eq_true rfl) rfl ?_
  intro p e s m args below meth c A C hK hZ hA
  have hR := hI.R
  have hDn := hI.D
  refine hd_aload_n 1 C dX3_goWalk_0 rfl 0 rfl rfl ?_
  refine hd_bipush 3 C dX3_goWalk_1 rfl (-9) (by decide) ?_
  refine pm_firstWrong 6 C hK dX3_goWalk_3 rfl ?_
  refine hd_aload_n 7 C dX3_goWalk_6 rfl 0 rfl rfl ?_
  refine hd_iload_n 8 C dX3_goWalk_7 rfl 1 rfl rfl ?_
  refine pm_endsAt 11 C hK dX3_goWalk_8 rfl ?_
  refine hd_aload_n 12 C dX3_goWalk_11 rfl 0 rfl rfl ?_
  refine hd_iconst 13 C dX3_goWalk_12 rfl (nI 1) (by decide) ?_
  refine hd_iload_n 14 C dX3_goWalk_13 rfl 1 rfl rfl ?_
  refine hd_ishl 15 C dX3_goWalk_14 rfl (nI (2 ^ room)) (nI_shl1 (by omega)) ?_
  refine pm_seen 18 C hK dX3_goWalk_15 rfl ?_
  refine hd_aload_n 19 C dX3_goWalk_18 rfl 0 rfl rfl ?_
  refine hd_iconst 20 C dX3_goWalk_19 rfl (nI 0) (by decide) ?_
  refine pm_goings 23 C hK dX3_goWalk_20 rfl ?_
  refine hd_iconst 24 C dX3_goWalk_23 rfl (nI 0) (by decide) ?_
  refine hd_istore 26 C dX3_goWalk_24 rfl [(5, .int (nI 0)), (0, .ref (a 0)), (1, .int (nI room)), (2, .int (nI h)), (3, .int (nI (60 * k + i))), (4, .int (nI n))] (by decide) rfl ?_
  refine hd_eqS (show (N, uZ (uZ (uZ (uZ Z 0 6 (-9)) 0 7 (nI room)) 0 8 (nI (2 ^ room))) 0 9 (nI 0), E, G, T) = (N, g4 Z (-9) (nI room) (nI (2 ^ room)) (nI 0), E, G, T) from rfl) ?_
  have L : ∀ (fuel : Nat) (q x7 x8 x9 : Nat) (v6 : Int32) (hq : q ≤ n) (hF : (v6 = -9 ∧ x7 < N 0 0 ∧ x8 < 64 ∧ x9 ≤ q ∧ wkM N h ac n 0 room (2 ^ room) 0 = wkM N h ac (n - q) q x7 x8 x9) ∨ (∃ t, t < n ∧ v6 = nI t ∧ wkM N h ac n 0 room (2 ^ room) 0 = (some t, x7, x8, x9))), n - q < fuel → XW p l e (rmk 2 46) s m args below meth c 8 0 0 A D (MQ below (va_Qv (fun (u : sT) => ∃ Q : Option Nat × Nat × Nat × Nat, Q = wkM N h ac n 0 room (2 ^ room) 0 ∧ u = (N, g4 Z (oI Q.1) (nI Q.2.1) (nI Q.2.2.1) (nI Q.2.2.2), E, G, T)) (cB D (ty4 cI cJ cD cS) (wM cI a) A) A) args s 0 0 A) (wM cI a) (N, g4 Z v6 (nI x7) (nI x8) (nI x9), E, G, T) 26 [(0, .ref (a 0)), (1, .int (nI room)), (2, .int (nI h)), (3, .int (nI (60 * k + i))), (4, .int (nI n)), (5, .int (nI q))] [] := by
    intro fuel
    induction fuel with
    | zero => intro q x7 x8 x9 v6 hq hF hfu; exact absurd hfu (Nat.not_lt_zero _)
    | succ fuel ih_L =>
      intro q x7 x8 x9 v6 hq hF hfu_L
      refine hd_iload 28 C dX3_goWalk_26 rfl 5 rfl ?_
      refine hd_iload 30 C dX3_goWalk_28 rfl 4 rfl ?_
      refine hd_icmp_geN 33 132 C dX3_goWalk_30 rfl (by decide) (by omega) (by omega) (fun h30 => ?_) (fun h30 => ?_)
      · skip
        have hE : v6 = oI (wkM N h ac n 0 room (2 ^ room) 0).1 ∧ x7 = (wkM N h ac n 0 room (2 ^ room) 0).2.1 ∧ x8 = (wkM N h ac n 0 room (2 ^ room) 0).2.2.1 ∧ x9 = (wkM N h ac n 0 room (2 ^ room) 0).2.2.2 := by
          rcases hF with ⟨h6, -, -, -, hF1⟩ | ⟨t, ht, h6, hF1⟩
          · rw [hF1, show n - q = 0 by omega]; exact ⟨h6, rfl, rfl, rfl⟩
          · rw [hF1]; exact ⟨h6, rfl, rfl, rfl⟩
        exact hd_vret C hK dX3_goWalk_132 ⟨_, rfl, by rw [← hE.1, ← hE.2.1, ← hE.2.2.1, ← hE.2.2.2]⟩
      · skip
        refine hd_aload_n 34 C dX3_goWalk_33 rfl 0 rfl rfl ?_
        refine gm_firstWrong 37 C hK dX3_goWalk_34 rfl v6 rfl ?_
        refine hd_if_ge 40 132 C dX3_goWalk_37 rfl (by decide) (fun h37 => ?_) (fun h37 => ?_)
        · skip
          obtain ⟨t, ht, h6, hF1⟩ := hF.resolve_left (fun hc => by rw [hc.1] at h37; revert h37; decide)
          exact hd_vret C hK dX3_goWalk_132 ⟨_, rfl, by rw [hF1, h6]; rfl⟩
        · skip
          obtain ⟨h6, hat, hbn, hcn, hF1⟩ := hF.resolve_right (fun ⟨t, ht, h6, _⟩ => h37 (by rw [h6]; exact nI_pos' (by omega)))
          subst h6
          clear hF
          have haq := (hac q h30).2
          refine hd_aload_n 41 C dX3_goWalk_40 rfl 0 rfl rfl ?_
          refine gm_sheet 44 C hK dX3_goWalk_41 rfl ?_
          refine hd_iload_n 45 C dX3_goWalk_44 rfl 3 rfl rfl ?_
          refine hd_iload 47 C dX3_goWalk_45 rfl 5 rfl ?_
          refine hd_iadd 48 C dX3_goWalk_47 rfl (nI ((60 * k + i) + q)) (nI_add _ _) ?_
          refine alm_sheet 49 C hK dX3_goWalk_48 rfl k (i + q) (by omega) (by omega) (by omega) (nI (ac q)) (hac q h30).1 ?_
          refine hd_istore 51 C dX3_goWalk_49 rfl [(6, .int (nI (ac q))), (0, .ref (a 0)), (1, .int (nI room)), (2, .int (nI h)), (3, .int (nI (60 * k + i))), (4, .int (nI n)), (5, .int (nI q))] (by decide) rfl ?_
          refine hd_aload_n 52 C dX3_goWalk_51 rfl 1 rfl rfl ?_
          refine hd_aload_n 53 C dX3_goWalk_52 rfl 1 rfl rfl ?_
          refine gm_endsAt 56 C hK dX3_goWalk_53 rfl (nI x7) rfl ?_
          refine hd_iload_n 57 C dX3_goWalk_56 rfl 3 rfl rfl ?_
          refine hd_iload 59 C dX3_goWalk_57 rfl 6 rfl ?_
          refine hd_iadd 60 C dX3_goWalk_59 rfl (nI (h + q)) (nI_add _ _) ?_
          refine hd_bipush 62 C dX3_goWalk_60 rfl (nI 12) (by decide) ?_
          refine hd_irem 63 C dX3_goWalk_62 rfl (nI ((h + q) % 12)) (nI_ne0 (by omega) (by omega)) (pk_rem (by omega) (by omega) (by omega)) ?_
          refine hd_iload 65 C dX3_goWalk_63 rfl 0 rfl ?_
          refine hd_callVI (rest := []) 68 C hK hZ hA ⟨Nat.zero_le _, Nat.zero_le _⟩ dX3_goWalk_65 rfl kc_X3_160 (m_behindW x7 ((h + q) % 12) (ac q) hI (by omega) (by omega) (by omega) (-9) hg) ⟨rfl, rfl⟩ ⟨by decide, by decide⟩ 0 3 rfl rfl rfl rfl rfl (Nat.le_of_ble_eq_true rfl) (fun r65 u65 h65 => ?_)
          obtain ⟨rfl, rfl⟩ := h65
          rcases ho65 : bh N (-9) x7 ((h + q) % 12) (ac q) with _ | rv65
          · skip
            refine hd_istore 70 C dX3_goWalk_68 rfl [(7, .int (-9)), (6, .int (nI (ac q))), (0, .ref (a 0)), (1, .int (nI room)), (2, .int (nI h)), (3, .int (nI (60 * k + i))), (4, .int (nI n)), (5, .int (nI q))] (by decide) rfl ?_
            refine hd_iload 72 C dX3_goWalk_70 rfl 0 rfl ?_
            refine hd_if_ge 75 84 C dX3_goWalk_72 rfl (by decide) (fun q => absurd q (by decide)) (fun _ => ?_)
            refine hd_aload_n 76 C dX3_goWalk_75 rfl 2 rfl rfl ?_
            refine hd_iload 78 C dX3_goWalk_76 rfl 7 rfl ?_
            refine pm_firstWrong 81 C hK dX3_goWalk_78 rfl ?_
            refine hd_eqS (show (N, uZ (g4 Z (-9) (nI x7) (nI x8) (nI x9)) 0 6 (nI q), E, G, T) = (N, g4 Z (nI q) (nI x7) (nI x8) (nI x9), E, G, T) from by rw [g4_6]) ?_
            refine hd_goto 126 C dX3_goWalk_81 (by decide) ?_
            refine hd_iinc 129 C dX3_goWalk_126 rfl 7 (nI (q + 1)) [(5, .int (nI (q + 1))), (7, .int (-9)), (6, .int (nI (ac q))), (0, .ref (a 0)), (1, .int (nI room)), (2, .int (nI h)), (3, .int (nI (60 * k + i))), (4, .int (nI n))] rfl (nI_add _ _) (by decide) rfl ?_
            refine hd_goto 26 C dX3_goWalk_129 (by decide) ?_
            refine hd_sub [(0, .ref (a 0)), (1, .int (nI room)), (2, .int (nI h)), (3, .int (nI (60 * k + i))), (4, .int (nI n)), (5, .int (nI (q + 1)))] [3, 4, 5, 6, 7, 0] rfl ?_
            exact ih_L (q + 1) x7 x8 x9 _ (by omega) (Or.inr ⟨q, h30, rfl, by rw [hF1, show n - q = (n - q - 1) + 1 by omega, wkM_s, ho65]⟩) (by omega)
          · skip
            have hbrv65 := bh_lt hI (by omega) (by omega) _ ho65
            refine hd_istore 70 C dX3_goWalk_68 rfl [(7, .int (nI rv65)), (6, .int (nI (ac q))), (0, .ref (a 0)), (1, .int (nI room)), (2, .int (nI h)), (3, .int (nI (60 * k + i))), (4, .int (nI n)), (5, .int (nI q))] (by decide) rfl ?_
            refine hd_iload 72 C dX3_goWalk_70 rfl 0 rfl ?_
            refine hd_if_geP 75 84 C dX3_goWalk_72 rfl (by decide) (by omega) ?_
            refine hd_aload_n 85 C dX3_goWalk_84 rfl 2 rfl rfl ?_
            refine hd_iload 87 C dX3_goWalk_85 rfl 0 rfl ?_
            refine pm_endsAt 90 C hK dX3_goWalk_87 rfl ?_
            refine hd_eqS (show (N, uZ (g4 Z (-9) (nI x7) (nI x8) (nI x9)) 0 7 (nI rv65), E, G, T) = (N, g4 Z (-9) (nI rv65) (nI x8) (nI x9), E, G, T) from by rw [g4_7]) ?_
            refine hd_aload_n 91 C dX3_goWalk_90 rfl 2 rfl rfl ?_
            refine hd_dup 92 C dX3_goWalk_91 rfl rfl ?_
            refine gm_seen 95 C hK dX3_goWalk_92 rfl (nI x8) rfl ?_
            refine hd_iconst 96 C dX3_goWalk_95 rfl (nI 1) (by decide) ?_
            refine hd_iload 98 C dX3_goWalk_96 rfl 0 rfl ?_
            refine hd_ishl 99 C dX3_goWalk_98 rfl (nI (2 ^ rv65)) (nI_shl1 (by omega)) ?_
            refine hd_ior 100 C dX3_goWalk_99 rfl (nI (x8 ||| (2 ^ rv65))) (fa_or _ _) ?_
            refine pm_seen 103 C hK dX3_goWalk_100 rfl ?_
            refine hd_eqS (show (N, uZ (g4 Z (-9) (nI rv65) (nI x8) (nI x9)) 0 8 (nI (x8 ||| (2 ^ rv65))), E, G, T) = (N, g4 Z (-9) (nI rv65) (nI (x8 ||| (2 ^ rv65))) (nI x9), E, G, T) from by rw [g4_8]) ?_
            refine hd_aload_n 104 C dX3_goWalk_103 rfl 2 rfl rfl ?_
            refine hd_dup 105 C dX3_goWalk_104 rfl rfl ?_
            refine gm_goings 108 C hK dX3_goWalk_105 rfl (nI x9) rfl ?_
            refine hd_iload 110 C dX3_goWalk_108 rfl 1 rfl ?_
            refine hd_aload_n 111 C dX3_goWalk_110 rfl 2 rfl rfl ?_
            refine gm_doors 114 C hK dX3_goWalk_111 rfl (nI (N 0 1)) rfl ?_
            refine hd_icmp_geN 117 121 C dX3_goWalk_114 rfl (by decide) (by omega) (by omega) (fun h114 => ?_) (fun h114 => ?_)
            · skip
              have he9 : ac q = N 0 1 := by omega
              refine hd_iconst 122 C dX3_goWalk_121 rfl (nI 0) (by decide) ?_
              refine hd_iadd 123 C dX3_goWalk_122 rfl (nI (x9 + 0)) (nI_add _ _) ?_
              refine pm_goings 126 C hK dX3_goWalk_123 rfl ?_
              refine hd_eqS (show (N, uZ (g4 Z (-9) (nI rv65) (nI (x8 ||| (2 ^ rv65))) (nI x9)) 0 9 (nI (x9 + 0)), E, G, T) = (N, g4 Z (-9) (nI rv65) (nI (x8 ||| (2 ^ rv65))) (nI (x9 + 0)), E, G, T) from by rw [g4_9]) ?_
              refine hd_iinc 129 C dX3_goWalk_126 rfl 7 (nI (q + 1)) [(5, .int (nI (q + 1))), (7, .int (nI rv65)), (6, .int (nI (ac q))), (0, .ref (a 0)), (1, .int (nI room)), (2, .int (nI h)), (3, .int (nI (60 * k + i))), (4, .int (nI n))] rfl (nI_add _ _) (by decide) rfl ?_
              refine hd_goto 26 C dX3_goWalk_129 (by decide) ?_
              refine hd_sub [(0, .ref (a 0)), (1, .int (nI room)), (2, .int (nI h)), (3, .int (nI (60 * k + i))), (4, .int (nI n)), (5, .int (nI (q + 1)))] [3, 4, 5, 6, 7, 0] rfl ?_
              exact ih_L (q + 1) rv65 _ _ _ (by omega) (Or.inl ⟨rfl, by omega, or_lt hbn (by omega), by omega, by rw [hF1, show n - q = (n - q - 1) + 1 by omega, wkM_s, ho65]; simp [he9, show n - (q + 1) = n - q - 1 by omega]⟩) (by omega)
            · skip
              have he9 : ¬ ac q = N 0 1 := by omega
              refine hd_iconst 118 C dX3_goWalk_117 rfl (nI 1) (by decide) ?_
              refine hd_goto 122 C dX3_goWalk_118 (by decide) ?_
              refine hd_iadd 123 C dX3_goWalk_122 rfl (nI (x9 + 1)) (nI_add _ _) ?_
              refine pm_goings 126 C hK dX3_goWalk_123 rfl ?_
              refine hd_eqS (show (N, uZ (g4 Z (-9) (nI rv65) (nI (x8 ||| (2 ^ rv65))) (nI x9)) 0 9 (nI (x9 + 1)), E, G, T) = (N, g4 Z (-9) (nI rv65) (nI (x8 ||| (2 ^ rv65))) (nI (x9 + 1)), E, G, T) from by rw [g4_9]) ?_
              refine hd_iinc 129 C dX3_goWalk_126 rfl 7 (nI (q + 1)) [(5, .int (nI (q + 1))), (7, .int (nI rv65)), (6, .int (nI (ac q))), (0, .ref (a 0)), (1, .int (nI room)), (2, .int (nI h)), (3, .int (nI (60 * k + i))), (4, .int (nI n))] rfl (nI_add _ _) (by decide) rfl ?_
              refine hd_goto 26 C dX3_goWalk_129 (by decide) ?_
              refine hd_sub [(0, .ref (a 0)), (1, .int (nI room)), (2, .int (nI h)), (3, .int (nI (60 * k + i))), (4, .int (nI n)), (5, .int (nI (q + 1)))] [3, 4, 5, 6, 7, 0] rfl ?_
              exact ih_L (q + 1) rv65 _ _ _ (by omega) (Or.inl ⟨rfl, by omega, or_lt hbn (by omega), by omega, by rw [hF1, show n - q = (n - q - 1) + 1 by omega, wkM_s, ho65]; simp [he9, show n - (q + 1) = n - q - 1 by omega]⟩) (by omega)
  refine hd_sub [(0, .ref (a 0)), (1, .int (nI room)), (2, .int (nI h)), (3, .int (nI (60 * k + i))), (4, .int (nI n)), (5, .int (nI 0))] [1, 2, 3, 4, 5, 0] rfl ?_
  exact L (n + 1) 0 _ _ _ _ (Nat.zero_le _) (Or.inl ⟨rfl, by omega, pow_lt6 (by omega), Nat.le_refl _, rfl⟩) (by omega)

set_option maxHeartbeats 4000000 in
set_option maxRecDepth 100000 in
theorem m_walk {l : Launch} {D : va_G} {cI cJ cD cS : ClassId} {a : Nat → Nat} {N : Nat → Nat → Nat} {Z : Nat → Nat → Int32} {E : Nat → Nat → Int32} {G : Nat → Nat → Int64} {T : Nat → Nat} (xr xh xk ln xi xn xw : Int32) (hI : inv N) (hz : ∀ k, k < 4 → szOK (Z 2 k)) (hg : Z 0 2 = -9)  : ctI l D (ty4 cI cJ cD cS) none (wM cI a) yX3_walk cX3_walk 10 (some .int) (rmk 3 73) [.ref (a 0), .int xr, .int xh, .int xk, .int ln, .int xi, .int xn, .int xw] (N, Z, E, G, T) (fun (r : Int32) (u : sT) => (∃ q6 q7 q8 q9 : Int32, u = (N, uZ (g4 Z q6 q7 q8 q9) 0 1 (fzWalk N Z xr xh xk ln xi xn xw), E, G, T)) ∧ r = spWalk N Z E xr xh xk ln xi xn xw) := by
  refine ctI_of [(0, .ref (a 0)), (1, .int xr), (2, .int xh), (3, .int xk), (4, .int ln), (5, .int xi), (6, .int xn), (7, .int xw)] (by decide) (Nat.le_of_ble_eq_true rfl) rfl ?_
  intro p e s m args below meth c A C hK hZ hA
  have hR := hI.R
  have hDn := hI.D
  have hQn := hI.Q
  refine hd_aload_n 1 C dX3_walk_0 rfl 0 rfl rfl ?_
  refine hd_iload_n 2 C dX3_walk_1 rfl 1 rfl rfl ?_
  refine hd_callVI (rest := []) 5 C hK hZ hA ⟨Nat.zero_le _, Nat.zero_le _⟩ dX3_walk_2 rfl kc_X3_145 (m_noRoom xr hI) ⟨rfl, rfl⟩ ⟨by decide, by decide⟩ 0 3 rfl rfl rfl rfl rfl (Nat.le_of_ble_eq_true rfl) (fun r2 u2 h2 => ?_)
  obtain ⟨rfl, rfl⟩ := h2
  refine hd_if_neB 8 15 C dX3_walk_5 rfl (by decide) (fun h5 => ?_) (fun h5 => ?_)
  · skip
    simp only [Bool.not_eq_true', Bool.not_eq_false'] at h5
    refine hd_aload_n 16 C dX3_walk_15 rfl 0 rfl rfl ?_
    refine hd_iconst 17 C dX3_walk_16 rfl (-1) (by decide) ?_
    refine hd_callVI (rest := []) 20 C hK hZ hA ⟨Nat.zero_le _, Nat.zero_le _⟩ dX3_walk_17 rfl kc_X3_119 (m_refused (-1)) ⟨rfl, rfl⟩ ⟨by decide, by decide⟩ 0 3 rfl rfl rfl rfl rfl (Nat.le_of_ble_eq_true rfl) (fun r17 u17 h17 => ?_)
    obtain ⟨rfl, rfl⟩ := h17
    exact hd_iret C hK dX3_walk_20 ⟨⟨Z 0 6, Z 0 7, Z 0 8, Z 0 9, by rw [g4_self]; simp [fzWalk, nI_0, h5]⟩, by simp [spWalk, h5]⟩
  · skip
    simp only [Bool.not_eq_true', Bool.not_eq_false'] at h5
    obtain ⟨r2, hj_r2, rfl⟩ := inB_t h5 (by omega)
    have hc_r2 : (nI r2).toNatClampNeg = r2 := nI_clamp (by omega)
    refine hd_iload_n 9 C dX3_walk_8 rfl 3 rfl rfl ?_
    refine hd_callSI (rest := []) 12 C hK hZ hA ⟨Nat.zero_le _, Nat.zero_le _⟩ dX3_walk_9 rfl kc_X3_115 (m_noSheet xk) ⟨rfl, rfl⟩ ⟨by decide, by decide⟩ rfl rfl (Nat.le_of_ble_eq_true rfl) (fun r9 u9 h9 => ?_)
    obtain ⟨rfl, rfl⟩ := h9
    refine hd_if_eqB 15 21 C dX3_walk_12 rfl (by decide) (fun h12 => ?_) (fun h12 => ?_)
    · skip
      simp only [Bool.not_eq_true', Bool.not_eq_false'] at h12
      obtain ⟨k, hj_k, rfl⟩ := inB_t h12 (by decide)
      have hc_k : (nI k).toNatClampNeg = k := nI_clamp (by omega)
      refine hd_iload_n 22 C dX3_walk_21 rfl 2 rfl rfl ?_
      refine hd_callSI (rest := []) 25 C hK hZ hA ⟨Nat.zero_le _, Nat.zero_le _⟩ dX3_walk_22 rfl kc_X3_137 (m_noHour xh) ⟨rfl, rfl⟩ ⟨by decide, by decide⟩ rfl rfl (Nat.le_of_ble_eq_true rfl) (fun r22 u22 h22 => ?_)
      obtain ⟨rfl, rfl⟩ := h22
      refine hd_if_neB 28 67 C dX3_walk_25 rfl (by decide) (fun h25 => ?_) (fun h25 => ?_)
      · skip
        simp only [Bool.not_eq_true', Bool.not_eq_false'] at h25
        refine hd_aload_n 68 C dX3_walk_67 rfl 0 rfl rfl ?_
        refine hd_bipush 70 C dX3_walk_68 rfl (-2) (by decide) ?_
        refine hd_callVI (rest := []) 73 C hK hZ hA ⟨Nat.zero_le _, Nat.zero_le _⟩ dX3_walk_70 rfl kc_X3_119 (m_refused (-2)) ⟨rfl, rfl⟩ ⟨by decide, by decide⟩ 0 3 rfl rfl rfl rfl rfl (Nat.le_of_ble_eq_true rfl) (fun r70 u70 h70 => ?_)
        obtain ⟨rfl, rfl⟩ := h70
        exact hd_iret C hK dX3_walk_73 ⟨⟨Z 0 6, Z 0 7, Z 0 8, Z 0 9, by rw [g4_self]; simp [fzWalk, nI_0, h5, hc_r2, h12, hc_k, h25]⟩, by simp [spWalk, h5, hc_r2, h12, hc_k, h25]⟩
      · skip
        simp only [Bool.not_eq_true', Bool.not_eq_false'] at h25
        obtain ⟨h2, hj_h2, rfl⟩ := inB_t h25 (by decide)
        have hc_h2 : (nI h2).toNatClampNeg = h2 := nI_clamp (by omega)
        refine hd_iload 30 C dX3_walk_28 rfl 4 rfl ?_
        refine hd_i2l 31 C dX3_walk_30 rfl ln.toInt64 rfl ?_
        refine hd_lconst 32 C dX3_walk_31 rfl 0 (by decide) ?_
        refine hd_ldc2 35 C dX3_walk_32 rfl kl_X3_122 ?_
        refine hd_callSI (rest := []) 38 C hK hZ hA ⟨Nat.zero_le _, Nat.zero_le _⟩ dX3_walk_35 rfl kc_X3_77 (m_in ln.toInt64 0 (2)) ⟨rfl, rfl⟩ ⟨by decide, by decide⟩ rfl rfl (Nat.le_of_ble_eq_true rfl) (fun r35 u35 h35 => ?_)
        obtain ⟨rfl, rfl⟩ := h35
        refine hd_if_eqB 41 67 C dX3_walk_38 rfl (by decide) (fun h38 => ?_) (fun h38 => ?_)
        · skip
          rw [inL_k ln 2 3 (by decide)] at h38
          refine hd_aload_n 68 C dX3_walk_67 rfl 0 rfl rfl ?_
          refine hd_bipush 70 C dX3_walk_68 rfl (-2) (by decide) ?_
          refine hd_callVI (rest := []) 73 C hK hZ hA ⟨Nat.zero_le _, Nat.zero_le _⟩ dX3_walk_70 rfl kc_X3_119 (m_refused (-2)) ⟨rfl, rfl⟩ ⟨by decide, by decide⟩ 0 3 rfl rfl rfl rfl rfl (Nat.le_of_ble_eq_true rfl) (fun r70 u70 h70 => ?_)
          obtain ⟨rfl, rfl⟩ := h70
          exact hd_iret C hK dX3_walk_73 ⟨⟨Z 0 6, Z 0 7, Z 0 8, Z 0 9, by rw [g4_self]; simp [fzWalk, nI_0, h5, hc_r2, h12, hc_k, h25, hc_h2, h38]⟩, by simp [spWalk, h5, hc_r2, h12, hc_k, h25, hc_h2, h38]⟩
        · skip
          rw [inL_k ln 2 3 (by decide)] at h38
          refine hd_iload 43 C dX3_walk_41 rfl 6 rfl ?_
          refine hd_i2l 44 C dX3_walk_43 rfl xn.toInt64 rfl ?_
          refine hd_lconst 45 C dX3_walk_44 rfl 0 (by decide) ?_
          refine hd_ldc2 48 C dX3_walk_45 rfl kl_X3_164 ?_
          refine hd_callSI (rest := []) 51 C hK hZ hA ⟨Nat.zero_le _, Nat.zero_le _⟩ dX3_walk_48 rfl kc_X3_77 (m_in xn.toInt64 0 (40)) ⟨rfl, rfl⟩ ⟨by decide, by decide⟩ rfl rfl (Nat.le_of_ble_eq_true rfl) (fun r48 u48 h48 => ?_)
          obtain ⟨rfl, rfl⟩ := h48
          refine hd_if_eqB 54 67 C dX3_walk_51 rfl (by decide) (fun h51 => ?_) (fun h51 => ?_)
          · skip
            rw [inL_k xn 40 41 (by decide)] at h51
            refine hd_aload_n 68 C dX3_walk_67 rfl 0 rfl rfl ?_
            refine hd_bipush 70 C dX3_walk_68 rfl (-2) (by decide) ?_
            refine hd_callVI (rest := []) 73 C hK hZ hA ⟨Nat.zero_le _, Nat.zero_le _⟩ dX3_walk_70 rfl kc_X3_119 (m_refused (-2)) ⟨rfl, rfl⟩ ⟨by decide, by decide⟩ 0 3 rfl rfl rfl rfl rfl (Nat.le_of_ble_eq_true rfl) (fun r70 u70 h70 => ?_)
            obtain ⟨rfl, rfl⟩ := h70
            exact hd_iret C hK dX3_walk_73 ⟨⟨Z 0 6, Z 0 7, Z 0 8, Z 0 9, by rw [g4_self]; simp [fzWalk, nI_0, h5, hc_r2, h12, hc_k, h25, hc_h2, h38, h51]⟩, by simp [spWalk, h5, hc_r2, h12, hc_k, h25, hc_h2, h38, h51]⟩
          · skip
            rw [inL_k xn 40 41 (by decide)] at h51
            obtain ⟨n2, hj_n2, rfl⟩ := inB_t h51 (by decide)
            have hc_n2 : (nI n2).toNatClampNeg = n2 := nI_clamp (by omega)
            refine hd_iload 56 C dX3_walk_54 rfl 7 rfl ?_
            refine hd_i2l 57 C dX3_walk_56 rfl xw.toInt64 rfl ?_
            refine hd_lconst 58 C dX3_walk_57 rfl 0 (by decide) ?_
            refine hd_ldc2 61 C dX3_walk_58 rfl kl_X3_166 ?_
            refine hd_callSI (rest := []) 64 C hK hZ hA ⟨Nat.zero_le _, Nat.zero_le _⟩ dX3_walk_61 rfl kc_X3_77 (m_in xw.toInt64 0 (4)) ⟨rfl, rfl⟩ ⟨by decide, by decide⟩ rfl rfl (Nat.le_of_ble_eq_true rfl) (fun r61 u61 h61 => ?_)
            obtain ⟨rfl, rfl⟩ := h61
            refine hd_if_neB 67 74 C dX3_walk_64 rfl (by decide) (fun h64 => ?_) (fun h64 => ?_)
            · skip
              rw [inL_k xw 4 5 (by decide)] at h64
              obtain ⟨w2, hj_w2, rfl⟩ := inB_t h64 (by decide)
              have hc_w2 : (nI w2).toNatClampNeg = w2 := nI_clamp (by omega)
              refine hd_aload_n 75 C dX3_walk_74 rfl 0 rfl rfl ?_
              refine hd_iload_n 76 C dX3_walk_75 rfl 3 rfl rfl ?_
              refine hd_iload 78 C dX3_walk_76 rfl 4 rfl ?_
              refine hd_iload 80 C dX3_walk_78 rfl 5 rfl ?_
              refine hd_iload 82 C dX3_walk_80 rfl 6 rfl ?_
              refine hd_i2l 83 C dX3_walk_82 rfl ((nI n2).toInt64) rfl ?_
              refine hd_callVI (rest := []) 86 C hK hZ hA ⟨Nat.zero_le _, Nat.zero_le _⟩ dX3_walk_83 rfl kc_X3_124 (m_cellsBarred k ln xi (nI n2) (by omega) hz) ⟨rfl, rfl⟩ ⟨by decide, by decide⟩ 0 3 rfl rfl rfl rfl rfl (Nat.le_of_ble_eq_true rfl) (fun r83 u83 h83 => ?_)
              obtain ⟨hu83, hr83⟩ := h83
              have hft := ftN_lt (Z 2 k) (Z 3 k) ln xi (nI n2)
              by_cases hf : ftN (Z 2 k) (Z 3 k) ln xi (nI n2) = 0
              · skip
                rw [if_pos hf] at hu83 hr83
                subst hu83; subst hr83
                obtain ⟨hn1, hl9, -, hok⟩ := ftN_0 hf
                obtain ⟨mz, i2, n3, ez, rfl, en, hm60, hsum⟩ := okC_nat (hz k (by omega)) hok
                have en : n2 = n3 := (nI_eq (by omega) (by omega)).mp en
                have hc_i2 : (nI i2).toNatClampNeg = i2 := nI_clamp (by omega)
                refine hd_istore 88 C dX3_walk_86 rfl [(8, .int 0), (0, .ref (a 0)), (1, .int (nI r2)), (2, .int (nI h2)), (3, .int (nI k)), (4, .int ln), (5, .int (nI i2)), (6, .int (nI n2)), (7, .int (nI w2))] (by decide) rfl ?_
                refine hd_iload 90 C dX3_walk_88 rfl 0 rfl ?_
                refine hd_if_ge 93 96 C dX3_walk_90 rfl (by decide) (fun _ => ?_) (fun q => absurd (by decide) q)
                refine hd_iconst 97 C dX3_walk_96 rfl (nI 0) (by decide) ?_
                refine hd_istore 99 C dX3_walk_97 rfl [(9, .int (nI 0)), (8, .int 0), (0, .ref (a 0)), (1, .int (nI r2)), (2, .int (nI h2)), (3, .int (nI k)), (4, .int ln), (5, .int (nI i2)), (6, .int (nI n2)), (7, .int (nI w2))] (by decide) rfl ?_
                have L : ∀ (fuel : Nat) (q : Nat) (hq : q ≤ n2) (hF : aaB (E k) i2 (N 0 1) q = true), n2 - q < fuel → XW p l e (rmk 3 73) s m args below meth c 10 0 0 A D (MQ below (va_Qi (fun (r : Int32) (u : sT) => (∃ q6 q7 q8 q9 : Int32, u = (N, uZ (g4 Z q6 q7 q8 q9) 0 1 (fzWalk N Z (nI r2) (nI h2) (nI k) ln (nI i2) (nI n2) (nI w2)), E, G, T)) ∧ r = spWalk N Z E (nI r2) (nI h2) (nI k) ln (nI i2) (nI n2) (nI w2)) (cB D (ty4 cI cJ cD cS) (wM cI a) A) A) args s 0 0 A) (wM cI a) (N, Z, E, G, T) 99 [(0, .ref (a 0)), (1, .int (nI r2)), (2, .int (nI h2)), (3, .int (nI k)), (4, .int ln), (5, .int (nI i2)), (6, .int (nI n2)), (7, .int (nI w2)), (8, .int 0), (9, .int (nI q))] [] := by
                  intro fuel
                  induction fuel with
                  | zero => intro q hq hF hfu; exact absurd hfu (Nat.not_lt_zero _)
                  | succ fuel ih_L =>
                    intro q hq hF hfu_L
                    refine hd_iload 101 C dX3_walk_99 rfl 9 rfl ?_
                    refine hd_iload 103 C dX3_walk_101 rfl 6 rfl ?_
                    refine hd_icmp_geN 106 147 C dX3_walk_103 rfl (by decide) (by omega) (by omega) (fun h103 => ?_) (fun h103 => ?_)
                    · skip
                      have haa : aaB (E k) i2 (N 0 1) n2 = true := by rw [show n2 = q by omega]; exact hF
                      have hac := aaB_all (by omega) n2 haa
                      refine hd_aload_n 148 C dX3_walk_147 rfl 0 rfl rfl ?_
                      refine hd_iload_n 149 C dX3_walk_148 rfl 1 rfl rfl ?_
                      refine hd_iload_n 150 C dX3_walk_149 rfl 2 rfl rfl ?_
                      refine hd_bipush 152 C dX3_walk_150 rfl (nI 60) (by decide) ?_
                      refine hd_iload_n 153 C dX3_walk_152 rfl 3 rfl rfl ?_
                      refine hd_imul 154 C dX3_walk_153 rfl (nI (60 * k)) (pk_mul _ _) ?_
                      refine hd_iload 156 C dX3_walk_154 rfl 5 rfl ?_
                      refine hd_iadd 157 C dX3_walk_156 rfl (nI ((60 * k) + i2)) (nI_add _ _) ?_
                      refine hd_iload 159 C dX3_walk_157 rfl 6 rfl ?_
                      refine hd_callVV (rest := []) 162 C hK hZ hA ⟨Nat.zero_le _, Nat.zero_le _⟩ dX3_walk_159 rfl kc_X3_168 (m_goWalk r2 h2 k i2 n2 (fun x => cl (E k (i2 + x))) hI (by omega) (by omega) (by omega) (by omega) hac hg) ⟨rfl, rfl⟩ ⟨by decide, by decide⟩ 0 3 rfl rfl rfl rfl rfl (Nat.le_of_ble_eq_true rfl) (fun u159 h159 => ?_)
                      obtain ⟨QW, hQW, rfl⟩ := h159
                      have hQL := wkM_lt hI (h := h2) (ac := fun x => cl (E k (i2 + x))) n2 0 r2 (2 ^ r2) 0 (fun x hx => (hac x (by omega)).2) (by omega) (pow_lt6 (by omega))
                      rw [← hQW] at hQL
                      refine hd_iload 164 C dX3_walk_162 rfl 7 rfl ?_
                      refine hd_iconst 165 C dX3_walk_164 rfl (nI 1) (by decide) ?_
                      refine hd_icmp_neN 168 177 C dX3_walk_165 rfl (by decide) (by omega) (by omega) (fun h165 => ?_) (fun h165 => ?_)
                      · skip
                        refine hd_aload_n 178 C dX3_walk_177 rfl 0 rfl rfl ?_
                        refine gm_firstWrong 181 C hK dX3_walk_178 rfl (oI QW.1) rfl ?_
                        rcases hq1 : QW.1 with _ | t9
                        · skip
                          refine hd_if_lt 184 196 C dX3_walk_181 rfl (by decide) (fun _ => ?_) (fun q => absurd (by decide) q)
                          refine hd_iload 198 C dX3_walk_196 rfl 7 rfl ?_
                          rcases sw5 (show w2 < 5 by omega) with rfl | rfl | rfl | rfl | rfl
                          · skip
                            refine hd_tableIn 228 C dX3_walk_198 (by decide) (by decide) rfl (by decide) ?_
                            refine hd_aload_n 229 C dX3_walk_228 rfl 0 rfl rfl ?_
                            refine hd_aload_n 230 C dX3_walk_229 rfl 0 rfl rfl ?_
                            refine gm_endsAt 233 C hK dX3_walk_230 rfl (nI QW.2.1) rfl ?_
                            refine hd_callVI (rest := []) 236 C hK hZ hA ⟨Nat.zero_le _, Nat.zero_le _⟩ dX3_walk_233 rfl kc_X3_119 (m_refused (nI QW.2.1)) ⟨rfl, rfl⟩ ⟨by decide, by decide⟩ 0 3 rfl rfl rfl rfl rfl (Nat.le_of_ble_eq_true rfl) (fun r233 u233 h233 => ?_)
                            obtain ⟨rfl, rfl⟩ := h233
                            exact hd_iret C hK dX3_walk_236 ⟨⟨oI none, nI QW.2.1, nI QW.2.2.1, nI QW.2.2.2, by simp [fzWalk, nI_0, h5, hc_r2, h12, hc_k, h25, hc_h2, h38, h51, hc_n2, h64, hc_w2, hf, hc_i2, haa]⟩, by simp only [spWalk, h5, hc_r2, h12, hc_k, h25, hc_h2, h38, h51, hc_n2, h64, hc_w2, hf, hc_i2, haa, and_self, if_true]; rw [← hQW]; simp [wres, oI, h165, hq1]⟩
                          · skip
                            exact absurd rfl h165
                          · skip
                            refine hd_tableIn 237 C dX3_walk_198 (by decide) (by decide) rfl (by decide) ?_
                            refine hd_aload_n 238 C dX3_walk_237 rfl 0 rfl rfl ?_
                            refine hd_aload_n 239 C dX3_walk_238 rfl 0 rfl rfl ?_
                            refine gm_seen 242 C hK dX3_walk_239 rfl (nI QW.2.2.1) rfl ?_
                            refine hd_callVI (rest := []) 245 C hK hZ hA ⟨Nat.zero_le _, Nat.zero_le _⟩ dX3_walk_242 rfl kc_X3_119 (m_refused (nI QW.2.2.1)) ⟨rfl, rfl⟩ ⟨by decide, by decide⟩ 0 3 rfl rfl rfl rfl rfl (Nat.le_of_ble_eq_true rfl) (fun r242 u242 h242 => ?_)
                            obtain ⟨rfl, rfl⟩ := h242
                            exact hd_iret C hK dX3_walk_245 ⟨⟨oI none, nI QW.2.1, nI QW.2.2.1, nI QW.2.2.2, by simp [fzWalk, nI_0, h5, hc_r2, h12, hc_k, h25, hc_h2, h38, h51, hc_n2, h64, hc_w2, hf, hc_i2, haa]⟩, by simp only [spWalk, h5, hc_r2, h12, hc_k, h25, hc_h2, h38, h51, hc_n2, h64, hc_w2, hf, hc_i2, haa, and_self, if_true]; rw [← hQW]; simp [wres, oI, h165, hq1]⟩
                          · skip
                            refine hd_tableIn 246 C dX3_walk_198 (by decide) (by decide) rfl (by decide) ?_
                            refine hd_aload_n 247 C dX3_walk_246 rfl 0 rfl rfl ?_
                            refine hd_iload_n 248 C dX3_walk_247 rfl 2 rfl rfl ?_
                            refine hd_iload 250 C dX3_walk_248 rfl 6 rfl ?_
                            refine hd_iadd 251 C dX3_walk_250 rfl (nI (h2 + n2)) (nI_add _ _) ?_
                            refine hd_bipush 253 C dX3_walk_251 rfl (nI 12) (by decide) ?_
                            refine hd_irem 254 C dX3_walk_253 rfl (nI ((h2 + n2) % 12)) (nI_ne0 (by omega) (by omega)) (pk_rem (by omega) (by omega) (by omega)) ?_
                            refine hd_callVI (rest := []) 257 C hK hZ hA ⟨Nat.zero_le _, Nat.zero_le _⟩ dX3_walk_254 rfl kc_X3_119 (m_refused (nI ((h2 + n2) % 12))) ⟨rfl, rfl⟩ ⟨by decide, by decide⟩ 0 3 rfl rfl rfl rfl rfl (Nat.le_of_ble_eq_true rfl) (fun r254 u254 h254 => ?_)
                            obtain ⟨rfl, rfl⟩ := h254
                            exact hd_iret C hK dX3_walk_257 ⟨⟨oI none, nI QW.2.1, nI QW.2.2.1, nI QW.2.2.2, by simp [fzWalk, nI_0, h5, hc_r2, h12, hc_k, h25, hc_h2, h38, h51, hc_n2, h64, hc_w2, hf, hc_i2, haa]⟩, by simp only [spWalk, h5, hc_r2, h12, hc_k, h25, hc_h2, h38, h51, hc_n2, h64, hc_w2, hf, hc_i2, haa, and_self, if_true]; rw [← hQW]; simp [wres, oI, h165, hq1]⟩
                          · skip
                            refine hd_tableOut 258 C dX3_walk_198 (by decide) (by decide) ?_
                            refine hd_aload_n 259 C dX3_walk_258 rfl 0 rfl rfl ?_
                            refine hd_aload_n 260 C dX3_walk_259 rfl 0 rfl rfl ?_
                            refine gm_goings 263 C hK dX3_walk_260 rfl (nI QW.2.2.2) rfl ?_
                            refine hd_callVI (rest := []) 266 C hK hZ hA ⟨Nat.zero_le _, Nat.zero_le _⟩ dX3_walk_263 rfl kc_X3_119 (m_refused (nI QW.2.2.2)) ⟨rfl, rfl⟩ ⟨by decide, by decide⟩ 0 3 rfl rfl rfl rfl rfl (Nat.le_of_ble_eq_true rfl) (fun r263 u263 h263 => ?_)
                            obtain ⟨rfl, rfl⟩ := h263
                            exact hd_iret C hK dX3_walk_266 ⟨⟨oI none, nI QW.2.1, nI QW.2.2.1, nI QW.2.2.2, by simp [fzWalk, nI_0, h5, hc_r2, h12, hc_k, h25, hc_h2, h38, h51, hc_n2, h64, hc_w2, hf, hc_i2, haa]⟩, by simp only [spWalk, h5, hc_r2, h12, hc_k, h25, hc_h2, h38, h51, hc_n2, h64, hc_w2, hf, hc_i2, haa, and_self, if_true]; rw [← hQW]; simp [wres, oI, h165, hq1]⟩
                        · skip
                          have ht9 := hQL.2.2.2 t9 hq1
                          refine hd_if_ltP 184 196 C dX3_walk_181 rfl (by decide) (by omega) ?_
                          refine hd_aload_n 185 C dX3_walk_184 rfl 0 rfl rfl ?_
                          refine hd_bipush 187 C dX3_walk_185 rfl (-100) (by decide) ?_
                          refine hd_aload_n 188 C dX3_walk_187 rfl 0 rfl rfl ?_
                          refine gm_firstWrong 191 C hK dX3_walk_188 rfl (nI t9) rfl ?_
                          refine hd_isub 192 C dX3_walk_191 rfl (-100 - nI t9) rfl ?_
                          refine hd_callVI (rest := []) 195 C hK hZ hA ⟨Nat.zero_le _, Nat.zero_le _⟩ dX3_walk_192 rfl kc_X3_119 (m_refused (-100 - nI t9)) ⟨rfl, rfl⟩ ⟨by decide, by decide⟩ 0 3 rfl rfl rfl rfl rfl (Nat.le_of_ble_eq_true rfl) (fun r192 u192 h192 => ?_)
                          obtain ⟨rfl, rfl⟩ := h192
                          exact hd_iret C hK dX3_walk_195 ⟨⟨oI (some t9), nI QW.2.1, nI QW.2.2.1, nI QW.2.2.2, by simp [fzWalk, nI_0, h5, hc_r2, h12, hc_k, h25, hc_h2, h38, h51, hc_n2, h64, hc_w2, hf, hc_i2, haa]⟩, by simp only [spWalk, h5, hc_r2, h12, hc_k, h25, hc_h2, h38, h51, hc_n2, h64, hc_w2, hf, hc_i2, haa, and_self, if_true]; rw [← hQW]; simp [wres, oI, h165, hq1]⟩
                      · skip
                        refine hd_aload_n 169 C dX3_walk_168 rfl 0 rfl rfl ?_
                        refine hd_aload_n 170 C dX3_walk_169 rfl 0 rfl rfl ?_
                        refine gm_firstWrong 173 C hK dX3_walk_170 rfl (oI QW.1) rfl ?_
                        refine hd_callVI (rest := []) 176 C hK hZ hA ⟨Nat.zero_le _, Nat.zero_le _⟩ dX3_walk_173 rfl kc_X3_119 (m_refused (oI QW.1)) ⟨rfl, rfl⟩ ⟨by decide, by decide⟩ 0 3 rfl rfl rfl rfl rfl (Nat.le_of_ble_eq_true rfl) (fun r173 u173 h173 => ?_)
                        obtain ⟨rfl, rfl⟩ := h173
                        exact hd_iret C hK dX3_walk_176 ⟨⟨oI QW.1, nI QW.2.1, nI QW.2.2.1, nI QW.2.2.2, by simp [fzWalk, nI_0, h5, hc_r2, h12, hc_k, h25, hc_h2, h38, h51, hc_n2, h64, hc_w2, hf, hc_i2, haa]⟩, by simp only [spWalk, h5, hc_r2, h12, hc_k, h25, hc_h2, h38, h51, hc_n2, h64, hc_w2, hf, hc_i2, haa, and_self, if_true]; rw [← hQW]; simp [wres, oI, h165]⟩
                    · skip
                      refine hd_aload_n 107 C dX3_walk_106 rfl 0 rfl rfl ?_
                      refine gm_sheet 110 C hK dX3_walk_107 rfl ?_
                      refine hd_bipush 112 C dX3_walk_110 rfl (nI 60) (by decide) ?_
                      refine hd_iload_n 113 C dX3_walk_112 rfl 3 rfl rfl ?_
                      refine hd_imul 114 C dX3_walk_113 rfl (nI (60 * k)) (pk_mul _ _) ?_
                      refine hd_iload 116 C dX3_walk_114 rfl 5 rfl ?_
                      refine hd_iadd 117 C dX3_walk_116 rfl (nI ((60 * k) + i2)) (nI_add _ _) ?_
                      refine hd_iload 119 C dX3_walk_117 rfl 9 rfl ?_
                      refine hd_iadd 120 C dX3_walk_119 rfl (nI (((60 * k) + i2) + q)) (nI_add _ _) ?_
                      refine alm_sheet 121 C hK dX3_walk_120 rfl k (i2 + q) (by omega) (by omega) (by omega) (E k (i2 + q)) rfl ?_
                      refine hd_i2l 122 C dX3_walk_121 rfl ((E k (i2 + q)).toInt64) rfl ?_
                      refine hd_lconst 123 C dX3_walk_122 rfl 0 (by decide) ?_
                      refine hd_aload_n 124 C dX3_walk_123 rfl 0 rfl rfl ?_
                      refine gm_doors 127 C hK dX3_walk_124 rfl (nI (N 0 1)) rfl ?_
                      refine hd_i2l 128 C dX3_walk_127 rfl ((nI (N 0 1)).toInt64) rfl ?_
                      refine hd_callSI (rest := []) 131 C hK hZ hA ⟨Nat.zero_le _, Nat.zero_le _⟩ dX3_walk_128 rfl kc_X3_77 (m_in ((E k (i2 + q)).toInt64) 0 ((nI (N 0 1)).toInt64)) ⟨rfl, rfl⟩ ⟨by decide, by decide⟩ rfl rfl (Nat.le_of_ble_eq_true rfl) (fun r128 u128 h128 => ?_)
                      obtain ⟨rfl, rfl⟩ := h128
                      refine hd_if_neB 134 141 C dX3_walk_131 rfl (by decide) (fun h131 => ?_) (fun h131 => ?_)
                      · skip
                        rw [inL_k _ ((nI (N 0 1)).toInt64) (N 0 1 + 1) (by rw [Int32.toInt_toInt64, nI_toInt (by omega)]; rfl)] at h131
                        refine hd_iinc 144 C dX3_walk_141 rfl 9 (nI (q + 1)) [(9, .int (nI (q + 1))), (0, .ref (a 0)), (1, .int (nI r2)), (2, .int (nI h2)), (3, .int (nI k)), (4, .int ln), (5, .int (nI i2)), (6, .int (nI n2)), (7, .int (nI w2)), (8, .int 0)] rfl (nI_add _ _) (by decide) rfl ?_
                        refine hd_goto 99 C dX3_walk_144 (by decide) ?_
                        refine hd_sub [(0, .ref (a 0)), (1, .int (nI r2)), (2, .int (nI h2)), (3, .int (nI k)), (4, .int ln), (5, .int (nI i2)), (6, .int (nI n2)), (7, .int (nI w2)), (8, .int 0), (9, .int (nI (q + 1)))] [1, 2, 3, 4, 5, 6, 7, 8, 9, 0] rfl ?_
                        exact ih_L (q + 1) (by omega) (by rw [aaB, hF, h131]; rfl) (by omega)
                      · skip
                        rw [inL_k _ ((nI (N 0 1)).toInt64) (N 0 1 + 1) (by rw [Int32.toInt_toInt64, nI_toInt (by omega)]; rfl)] at h131
                        have haa : aaB (E k) i2 (N 0 1) n2 = false := aaB_f n2 h103 h131
                        refine hd_aload_n 135 C dX3_walk_134 rfl 0 rfl rfl ?_
                        refine hd_bipush 137 C dX3_walk_135 rfl (-2) (by decide) ?_
                        refine hd_callVI (rest := []) 140 C hK hZ hA ⟨Nat.zero_le _, Nat.zero_le _⟩ dX3_walk_137 rfl kc_X3_119 (m_refused (-2)) ⟨rfl, rfl⟩ ⟨by decide, by decide⟩ 0 3 rfl rfl rfl rfl rfl (Nat.le_of_ble_eq_true rfl) (fun r137 u137 h137 => ?_)
                        obtain ⟨rfl, rfl⟩ := h137
                        exact hd_iret C hK dX3_walk_140 ⟨⟨Z 0 6, Z 0 7, Z 0 8, Z 0 9, by rw [g4_self]; simp [fzWalk, nI_0, h5, hc_r2, h12, hc_k, h25, hc_h2, h38, h51, hc_n2, h64, hc_w2, hf, hc_i2, haa]⟩, by simp [spWalk, h5, hc_r2, h12, hc_k, h25, hc_h2, h38, h51, hc_n2, h64, hc_w2, hf, hc_i2, haa]⟩
                refine hd_sub [(0, .ref (a 0)), (1, .int (nI r2)), (2, .int (nI h2)), (3, .int (nI k)), (4, .int ln), (5, .int (nI i2)), (6, .int (nI n2)), (7, .int (nI w2)), (8, .int 0), (9, .int (nI 0))] [2, 3, 4, 5, 6, 7, 8, 9, 1, 0] rfl ?_
                exact L (n2 + 1) 0 (Nat.zero_le _) rfl (by omega)
              · skip
                rw [if_neg hf] at hu83 hr83
                subst hu83; subst hr83
                refine hd_istore 88 C dX3_walk_86 rfl [(8, .int (-10 - nI (ftN (Z 2 k) (Z 3 k) ln xi (nI n2)))), (0, .ref (a 0)), (1, .int (nI r2)), (2, .int (nI h2)), (3, .int (nI k)), (4, .int ln), (5, .int xi), (6, .int (nI n2)), (7, .int (nI w2))] (by decide) rfl ?_
                refine hd_iload 90 C dX3_walk_88 rfl 0 rfl ?_
                refine hd_if_ge 93 96 C dX3_walk_90 rfl (by decide) (fun h90 => ?_) (fun h90 => ?_)
                · skip
                  exact absurd h90 (neg_fp hft)
                · skip
                  refine hd_iload 95 C dX3_walk_93 rfl 0 rfl ?_
                  exact hd_iret C hK dX3_walk_95 ⟨⟨Z 0 6, Z 0 7, Z 0 8, Z 0 9, by rw [g4_self]; simp [fzWalk, nI_0, h5, hc_r2, h12, hc_k, h25, hc_h2, h38, h51, hc_n2, h64, hc_w2, hf, h90]⟩, by simp [spWalk, h5, hc_r2, h12, hc_k, h25, hc_h2, h38, h51, hc_n2, h64, hc_w2, hf, h90]⟩
            · skip
              rw [inL_k xw 4 5 (by decide)] at h64
              refine hd_aload_n 68 C dX3_walk_67 rfl 0 rfl rfl ?_
              refine hd_bipush 70 C dX3_walk_68 rfl (-2) (by decide) ?_
              refine hd_callVI (rest := []) 73 C hK hZ hA ⟨Nat.zero_le _, Nat.zero_le _⟩ dX3_walk_70 rfl kc_X3_119 (m_refused (-2)) ⟨rfl, rfl⟩ ⟨by decide, by decide⟩ 0 3 rfl rfl rfl rfl rfl (Nat.le_of_ble_eq_true rfl) (fun r70 u70 h70 => ?_)
              obtain ⟨rfl, rfl⟩ := h70
              exact hd_iret C hK dX3_walk_73 ⟨⟨Z 0 6, Z 0 7, Z 0 8, Z 0 9, by rw [g4_self]; simp [fzWalk, nI_0, h5, hc_r2, h12, hc_k, h25, hc_h2, h38, h51, hc_n2, h64]⟩, by simp [spWalk, h5, hc_r2, h12, hc_k, h25, hc_h2, h38, h51, hc_n2, h64]⟩
    · skip
      simp only [Bool.not_eq_true', Bool.not_eq_false'] at h12
      refine hd_aload_n 16 C dX3_walk_15 rfl 0 rfl rfl ?_
      refine hd_iconst 17 C dX3_walk_16 rfl (-1) (by decide) ?_
      refine hd_callVI (rest := []) 20 C hK hZ hA ⟨Nat.zero_le _, Nat.zero_le _⟩ dX3_walk_17 rfl kc_X3_119 (m_refused (-1)) ⟨rfl, rfl⟩ ⟨by decide, by decide⟩ 0 3 rfl rfl rfl rfl rfl (Nat.le_of_ble_eq_true rfl) (fun r17 u17 h17 => ?_)
      obtain ⟨rfl, rfl⟩ := h17
      exact hd_iret C hK dX3_walk_20 ⟨⟨Z 0 6, Z 0 7, Z 0 8, Z 0 9, by rw [g4_self]; simp [fzWalk, nI_0, h5, hc_r2, h12]⟩, by simp [spWalk, h5, hc_r2, h12]⟩

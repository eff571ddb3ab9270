set_option maxHeartbeats 4000000 in
set_option maxRecDepth 100000 in
theorem m_codeAt {l : Launch} {D : va_G} {cI cJ cD cS : ClassId} {a : Nat → Nat} {N : Nat → Nat → Nat} {Z : Nat → Nat → Int32} {E : Nat → Nat → Int32} {G : Nat → Nat → Int64} {T : Nat → Nat} (k i n p2 : Nat) (hk : k < 4) (hin : i + n ≤ 60) (hp : Z 0 3 = nI p2) (hpn : p2 ≤ n)  : ctI l D (ty4 cI cJ cD cS) none (wM cI a) yX3_codeAt cX3_codeAt 3 (some .int) (rmk 0 0) [.ref (a 0), .int (nI (60 * k + i)), .int (nI n)] (N, Z, E, G, T) (fun (r : Int32) (u : sT) => u = (N, Z, E, G, T) ∧ r = tx (fun q => E k (i + q)) n p2) := by
  refine ctI_of [(0, .ref (a 0)), (1, .int (nI (60 * k + i))), (2, .int (nI n))] (by decide) (Nat.le_of_ble_eq_true rfl) rfl ?_
  intro p e s m args below meth c A C hK hZ hA
  refine hd_aload_n 1 C dX3_codeAt_0 rfl 0 rfl rfl ?_
  refine gm_readAt 4 C hK dX3_codeAt_1 rfl (nI p2) hp ?_
  refine hd_iload_n 5 C dX3_codeAt_4 rfl 2 rfl rfl ?_
  refine hd_icmp_geN 8 22 C dX3_codeAt_5 rfl (by decide) (by omega) (by omega) (fun h5 => ?_) (fun h5 => ?_)
  · skip
    refine hd_bipush 24 C dX3_codeAt_22 rfl (-9) (by decide) ?_
    exact hd_iret C hK dX3_codeAt_24 ⟨rfl, (tx_ge (f := (fun q => E k (i + q))) (Nat.not_lt.mpr h5)).symm⟩
  · skip
    refine hd_aload_n 9 C dX3_codeAt_8 rfl 0 rfl rfl ?_
    refine gm_sheet 12 C hK dX3_codeAt_9 rfl ?_
    refine hd_iload_n 13 C dX3_codeAt_12 rfl 1 rfl rfl ?_
    refine hd_aload_n 14 C dX3_codeAt_13 rfl 0 rfl rfl ?_
    refine gm_readAt 17 C hK dX3_codeAt_14 rfl (nI p2) hp ?_
    refine hd_iadd 18 C dX3_codeAt_17 rfl (nI ((60 * k + i) + p2)) (nI_add _ _) ?_
    refine alm_sheet 19 C hK dX3_codeAt_18 rfl k (i + p2) (by omega) (by omega) (by omega) (E k (i + p2)) rfl ?_
    refine hd_goto 24 C dX3_codeAt_19 (by decide) ?_
    exact hd_iret C hK dX3_codeAt_24 ⟨rfl, (tx_lt (f := (fun q => E k (i + q))) h5).symm⟩

set_option maxHeartbeats 4000000 in
set_option maxRecDepth 100000 in
theorem m_figure {l : Launch} {D : va_G} {cI cJ cD cS : ClassId} {a : Nat → Nat} {N : Nat → Nat → Nat} {Z : Nat → Nat → Int32} {E : Nat → Nat → Int32} {G : Nat → Nat → Int64} {T : Nat → Nat} (k i n p2 lo hi : Nat) (hk : k < 4) (hin : i + n ≤ 60) (hp : Z 0 3 = nI p2) (hpn : p2 ≤ n) (hlo : lo < 1000) (hhi : hi < 1000)  : ctI l D (ty4 cI cJ cD cS) none (wM cI a) yX3_figure cX3_figure 7 (some .int) (rmk 1 25) [.ref (a 0), .int (nI (60 * k + i)), .int (nI n), .int (nI lo), .int (nI hi)] (N, Z, E, G, T) (fun (r : Int32) (u : sT) => u = (N, uZ Z 0 3 (nI (p2 + og (fgo (tx (fun q => E k (i + q)) n p2) lo hi))), E, G, T) ∧ r = oI (fgo (tx (fun q => E k (i + q)) n p2) lo hi)) := by
  refine ctI_of [(0, .ref (a 0)), (1, .int (nI (60 * k + i))), (2, .int (nI n)), (3, .int (nI lo)), (4, .int (nI hi))] (by decide) (Nat.le_of_ble_eq_true rfl) rfl ?_
  intro p e s m args below meth c A C hK hZ hA
  refine hd_aload_n 1 C dX3_figure_0 rfl 0 rfl rfl ?_
  refine hd_iload_n 2 C dX3_figure_1 rfl 1 rfl rfl ?_
  refine hd_iload_n 3 C dX3_figure_2 rfl 2 rfl rfl ?_
  refine hd_callVI (rest := []) 6 C hK hZ hA ⟨Nat.zero_le _, Nat.zero_le _⟩ dX3_figure_3 rfl kc_X3_89 (m_codeAt k i n p2 hk hin hp hpn) ⟨rfl, rfl⟩ ⟨by decide, by decide⟩ 0 3 rfl rfl rfl rfl rfl (Nat.le_of_ble_eq_true rfl) (fun r3 u3 h3 => ?_)
  obtain ⟨rfl, rfl⟩ := h3
  refine hd_bipush 8 C dX3_figure_6 rfl (nI 48) (by decide) ?_
  refine hd_isub 9 C dX3_figure_8 rfl ((tx (fun q => E k (i + q)) n p2) - (nI 48)) rfl ?_
  refine hd_istore 11 C dX3_figure_9 rfl [(5, .int ((tx (fun q => E k (i + q)) n p2) - (nI 48))), (0, .ref (a 0)), (1, .int (nI (60 * k + i))), (2, .int (nI n)), (3, .int (nI lo)), (4, .int (nI hi))] (by decide) rfl ?_
  refine hd_iload 13 C dX3_figure_11 rfl 0 rfl ?_
  refine hd_i2l 14 C dX3_figure_13 rfl (((tx (fun q => E k (i + q)) n p2) - (nI 48)).toInt64) rfl ?_
  refine hd_iload_n 15 C dX3_figure_14 rfl 4 rfl rfl ?_
  refine hd_i2l 16 C dX3_figure_15 rfl ((nI lo).toInt64) rfl ?_
  refine hd_iload 18 C dX3_figure_16 rfl 5 rfl ?_
  refine hd_i2l 19 C dX3_figure_18 rfl ((nI hi).toInt64) rfl ?_
  refine hd_callSI (rest := []) 22 C hK hZ hA ⟨Nat.zero_le _, Nat.zero_le _⟩ dX3_figure_19 rfl kc_X3_77 (m_in (((tx (fun q => E k (i + q)) n p2) - (nI 48)).toInt64) ((nI lo).toInt64) ((nI hi).toInt64)) ⟨rfl, rfl⟩ ⟨by decide, by decide⟩ rfl rfl (Nat.le_of_ble_eq_true rfl) (fun r19 u19 h19 => ?_)
  obtain ⟨rfl, rfl⟩ := h19
  refine hd_istore 24 C dX3_figure_22 rfl [(6, .int (bI (inL (((tx (fun q => E k (i + q)) n p2) - (nI 48)).toInt64) ((nI lo).toInt64) ((nI hi).toInt64)))), (5, .int ((tx (fun q => E k (i + q)) n p2) - (nI 48))), (0, .ref (a 0)), (1, .int (nI (60 * k + i))), (2, .int (nI n)), (3, .int (nI lo)), (4, .int (nI hi))] (by decide) rfl ?_
  refine hd_aload_n 25 C dX3_figure_24 rfl 2 rfl rfl ?_
  refine hd_dup 26 C dX3_figure_25 rfl rfl ?_
  refine gm_readAt 29 C hK dX3_figure_26 rfl (nI p2) hp ?_
  refine hd_iload 31 C dX3_figure_29 rfl 0 rfl ?_
  refine hd_if_eqB 34 38 C dX3_figure_31 rfl (by decide) (fun h31 => ?_) (fun h31 => ?_)
  · skip
    refine hd_iconst 39 C dX3_figure_38 rfl (nI 0) (by decide) ?_
    refine hd_iadd 40 C dX3_figure_39 rfl (nI (p2 + 0)) (nI_add _ _) ?_
    refine pm_readAt 43 C hK dX3_figure_40 rfl ?_
    refine hd_iload 45 C dX3_figure_43 rfl 0 rfl ?_
    refine hd_if_eqB 48 53 C dX3_figure_45 rfl (by decide) (fun h45 => ?_) (fun h45 => ?_)
    · skip
      refine hd_bipush 55 C dX3_figure_53 rfl (-9) (by decide) ?_
      exact hd_iret C hK dX3_figure_55 ⟨by rw [fgo_f h45, og_n], by rw [fgo_f h45]; rfl⟩
    · skip
      exact absurd (h31.symm.trans h45) (by decide)
  · skip
    refine hd_iconst 35 C dX3_figure_34 rfl (nI 1) (by decide) ?_
    refine hd_goto 39 C dX3_figure_35 (by decide) ?_
    refine hd_iadd 40 C dX3_figure_39 rfl (nI (p2 + 1)) (nI_add _ _) ?_
    refine pm_readAt 43 C hK dX3_figure_40 rfl ?_
    refine hd_iload 45 C dX3_figure_43 rfl 0 rfl ?_
    refine hd_if_eqB 48 53 C dX3_figure_45 rfl (by decide) (fun h45 => ?_) (fun h45 => ?_)
    · skip
      exact absurd (h31.symm.trans h45) (by decide)
    · skip
      refine hd_iload 50 C dX3_figure_48 rfl 1 rfl ?_
      refine hd_goto 55 C dX3_figure_50 (by decide) ?_
      exact hd_iret C hK dX3_figure_55 ⟨by rw [fgo_t h45, og_s], by rw [fgo_t h45]; exact (fgo_v hlo hhi h45).1⟩

set_option maxHeartbeats 4000000 in
set_option maxRecDepth 100000 in
theorem m_readsDoor {l : Launch} {D : va_G} {cI cJ cD cS : ClassId} {a : Nat → Nat} {N : Nat → Nat → Nat} {Z : Nat → Nat → Int32} {E : Nat → Nat → Int32} {G : Nat → Nat → Int64} {T : Nat → Nat} (k i n p2 D2 R2 : Nat) (Kd Rm To Sp : Nat → Int32) (hk : k < 4) (hin : i + n ≤ 60) (hp2 : p2 = 2 + 5 * D2) (hD8 : D2 ≤ 8) (hpn : p2 ≤ n) (hDn : D2 = 0 ∨ p2 < n) (hR2 : 2 ≤ R2) (hR6 : R2 ≤ 6) (hR1 : R2 = dg (E k (i + 1))) (hgd : ∀ q, q < p2 → gd (fun q => E k (i + q)) q = true)  : ctI l D (ty4 cI cJ cD cS) none (wM cI a) yX3_readsDoor cX3_readsDoor 7 (some .boolean) (rmk 2 51) [.ref (a 0), .int (nI (60 * k + i)), .int (nI n)] (N, hs Z (nI p2) (nI R2) (nI D2) Kd Rm To Sp, E, G, T) (fun (r : Int32) (u : sT) => (r = nI 1 ∧ D2 < 8 ∧ p2 + 5 ≤ n ∧ (∀ q, q < p2 + 5 → gd (fun q => E k (i + q)) q = true) ∧ u = (N, hs Z (nI (p2 + 5)) (nI R2) (nI (D2 + 1)) (upd Kd D2 (nI (kdL (E k (i + (p2 + 1)))))) (upd Rm D2 (nI (dg (E k (i + (p2 + 2)))))) (upd To D2 (nI (dg (E k (i + (p2 + 3)))))) (upd Sp D2 (nI (dg (E k (i + (p2 + 4)))))), E, G, T)) ∨ (r = nI 0 ∧ ∃ p9, RS (fun q => E k (i + q)) n p9 ∧ u = (N, hs Z (nI p9) (nI R2) (nI D2) Kd Rm To Sp, E, G, T))) := by
  refine ctI_of [(0, .ref (a 0)), (1, .int (nI (60 * k + i))), (2, .int (nI n))] (by decide) (Nat.le_of_ble_eq_true rfl) rfl ?_
  intro p e s m args below meth c A C hK hZ hA
  refine hd_aload_n 1 C dX3_readsDoor_0 rfl 0 rfl rfl ?_
  refine gm_readDoors 4 C hK dX3_readsDoor_1 rfl (nI D2) rfl ?_
  refine hd_bipush 6 C dX3_readsDoor_4 rfl (nI 8) (by decide) ?_
  refine hd_icmp_eqN 9 20 C dX3_readsDoor_6 rfl (by decide) (by omega) (by omega) (fun h6 => ?_) (fun h6 => ?_)
  · skip
    refine hd_iconst 21 C dX3_readsDoor_20 rfl (nI 0) (by decide) ?_
    exact hd_zret C hK dX3_readsDoor_21 (by decide) (Or.inr ⟨rfl, p2, RS_of hpn hgd (fun _ => by cases hb : gd (fun q => E k (i + q)) p2; rfl; exact absurd (gd_lt hb) (by omega)) (fun e9 => by omega), rfl⟩)
  · skip
    refine hd_aload_n 10 C dX3_readsDoor_9 rfl 0 rfl rfl ?_
    refine hd_iload_n 11 C dX3_readsDoor_10 rfl 1 rfl rfl ?_
    refine hd_iload_n 12 C dX3_readsDoor_11 rfl 2 rfl rfl ?_
    refine hd_callVI (rest := []) 15 C hK hZ hA ⟨Nat.zero_le _, Nat.zero_le _⟩ dX3_readsDoor_12 rfl kc_X3_89 (m_codeAt k i n p2 hk hin rfl (by omega)) ⟨rfl, rfl⟩ ⟨by decide, by decide⟩ 0 3 rfl rfl rfl rfl rfl (Nat.le_of_ble_eq_true rfl) (fun r12 u12 h12 => ?_)
    obtain ⟨rfl, rfl⟩ := h12
    refine hd_bipush 17 C dX3_readsDoor_15 rfl (nI 59) (by decide) ?_
    refine hd_icmp_eq 20 22 C dX3_readsDoor_17 rfl (by decide) (fun h17 => ?_) (fun h17 => ?_)
    · skip
      obtain ⟨hlt0, hf0⟩ := tx_eq (f := (fun q => E k (i + q))) (by decide) h17
      have hg0 : gd (fun q => E k (i + q)) p2 = true := by rw [gd_c0 (by omega) (by omega) (by omega)]; exact decide_eq_true hf0
      have hx1 := gd_ext hgd hg0
      refine hd_aload_n 23 C dX3_readsDoor_22 rfl 0 rfl rfl ?_
      refine hd_dup 24 C dX3_readsDoor_23 rfl rfl ?_
      refine gm_readAt 27 C hK dX3_readsDoor_24 rfl (nI p2) rfl ?_
      refine hd_iconst 28 C dX3_readsDoor_27 rfl (nI 1) (by decide) ?_
      refine hd_iadd 29 C dX3_readsDoor_28 rfl (nI (p2 + 1)) (nI_add _ _) ?_
      refine pm_readAt 32 C hK dX3_readsDoor_29 rfl ?_
      refine hd_eqS (show (N, uZ (hs Z (nI p2) (nI R2) (nI D2) Kd Rm To Sp) 0 3 (nI (p2 + 1)), E, G, T) = (N, hs Z (nI (p2 + 1)) (nI R2) (nI D2) Kd Rm To Sp, E, G, T) from by rw [hs_3]) ?_
      refine hd_aload_n 33 C dX3_readsDoor_32 rfl 0 rfl rfl ?_
      refine hd_iload_n 34 C dX3_readsDoor_33 rfl 1 rfl rfl ?_
      refine hd_iload_n 35 C dX3_readsDoor_34 rfl 2 rfl rfl ?_
      refine hd_callVI (rest := []) 38 C hK hZ hA ⟨Nat.zero_le _, Nat.zero_le _⟩ dX3_readsDoor_35 rfl kc_X3_89 (m_codeAt k i n (p2 + 1) hk hin rfl (by omega)) ⟨rfl, rfl⟩ ⟨by decide, by decide⟩ 0 3 rfl rfl rfl rfl rfl (Nat.le_of_ble_eq_true rfl) (fun r35 u35 h35 => ?_)
      obtain ⟨rfl, rfl⟩ := h35
      refine hd_istore_n 39 C dX3_readsDoor_38 rfl [(3, .int (tx (fun q => E k (i + q)) n (p2 + 1))), (0, .ref (a 0)), (1, .int (nI (60 * k + i))), (2, .int (nI n))] rfl (by decide) rfl ?_
      have J : ∀  (hk1 : tx (fun q => E k (i + q)) n (p2 + 1) = nI 112 ∨ tx (fun q => E k (i + q)) n (p2 + 1) = nI 108 ∨ tx (fun q => E k (i + q)) n (p2 + 1) = nI 99), XW p l e (rmk 2 51) s m args below meth c 7 0 0 A D (MQ below (va_Qi (fun (r : Int32) (u : sT) => (r = nI 1 ∧ D2 < 8 ∧ p2 + 5 ≤ n ∧ (∀ q, q < p2 + 5 → gd (fun q => E k (i + q)) q = true) ∧ u = (N, hs Z (nI (p2 + 5)) (nI R2) (nI (D2 + 1)) (upd Kd D2 (nI (kdL (E k (i + (p2 + 1)))))) (upd Rm D2 (nI (dg (E k (i + (p2 + 2)))))) (upd To D2 (nI (dg (E k (i + (p2 + 3)))))) (upd Sp D2 (nI (dg (E k (i + (p2 + 4)))))), E, G, T)) ∨ (r = nI 0 ∧ ∃ p9, RS (fun q => E k (i + q)) n p9 ∧ u = (N, hs Z (nI p9) (nI R2) (nI D2) Kd Rm To Sp, E, G, T))) (cB D (ty4 cI cJ cD cS) (wM cI a) A) A) args s 0 0 A) (wM cI a) (N, hs Z (nI (p2 + 1)) (nI R2) (nI D2) Kd Rm To Sp, E, G, T) 59 [(3, .int (tx (fun q => E k (i + q)) n (p2 + 1))), (0, .ref (a 0)), (1, .int (nI (60 * k + i))), (2, .int (nI n))] [] := by
        intro  hk1
        have hlt1 := tx_kd hk1
        have hg1 : gd (fun q => E k (i + q)) (p2 + 1) = true := by rw [gd_c1 (by omega) (by omega) (by omega)]; rw [tx_lt hlt1] at hk1; exact decide_eq_true hk1
        have hx2 := gd_ext hx1 hg1
        refine hd_aload_n 60 C dX3_readsDoor_59 rfl 1 rfl rfl ?_
        refine hd_dup 61 C dX3_readsDoor_60 rfl rfl ?_
        refine gm_readAt 64 C hK dX3_readsDoor_61 rfl (nI (p2 + 1)) rfl ?_
        refine hd_iconst 65 C dX3_readsDoor_64 rfl (nI 1) (by decide) ?_
        refine hd_iadd 66 C dX3_readsDoor_65 rfl (nI (p2 + 2)) (nI_add (p2 + 1) 1) ?_
        refine pm_readAt 69 C hK dX3_readsDoor_66 rfl ?_
        refine hd_eqS (show (N, uZ (hs Z (nI (p2 + 1)) (nI R2) (nI D2) Kd Rm To Sp) 0 3 (nI (p2 + 2)), E, G, T) = (N, hs Z (nI (p2 + 2)) (nI R2) (nI D2) Kd Rm To Sp, E, G, T) from by rw [hs_3]) ?_
        refine hd_aload_n 70 C dX3_readsDoor_69 rfl 1 rfl rfl ?_
        refine hd_iload_n 71 C dX3_readsDoor_70 rfl 2 rfl rfl ?_
        refine hd_iload_n 72 C dX3_readsDoor_71 rfl 3 rfl rfl ?_
        refine hd_iconst 73 C dX3_readsDoor_72 rfl (nI 0) (by decide) ?_
        refine hd_aload_n 74 C dX3_readsDoor_73 rfl 1 rfl rfl ?_
        refine gm_readRooms 77 C hK dX3_readsDoor_74 rfl (nI R2) rfl ?_
        refine hd_iconst 78 C dX3_readsDoor_77 rfl (nI 1) (by decide) ?_
        refine hd_isub 79 C dX3_readsDoor_78 rfl (nI (R2 - 1)) (pk_sub (by omega)) ?_
        refine hd_callVI (rest := []) 82 C hK hZ hA ⟨Nat.zero_le _, Nat.zero_le _⟩ dX3_readsDoor_79 rfl kc_X3_99 (m_figure k i n (p2 + 2) 0 (R2 - 1) hk hin rfl (by omega) (by decide) (by omega)) ⟨rfl, rfl⟩ ⟨by decide, by decide⟩ 0 3 rfl rfl rfl rfl rfl (Nat.le_of_ble_eq_true rfl) (fun r79 u79 h79 => ?_)
        obtain ⟨rfl, rfl⟩ := h79
        rcases ho79 : fgo (tx (fun q => E k (i + q)) n (p2 + 2)) 0 (R2 - 1) with _ | rv79
        · skip
          refine hd_eqS (show (N, uZ (hs Z (nI (p2 + 2)) (nI R2) (nI D2) Kd Rm To Sp) 0 3 (nI ((p2 + 2) + og (none))), E, G, T) = (N, hs Z (nI (p2 + 2)) (nI R2) (nI D2) Kd Rm To Sp, E, G, T) from by rw [hs_3]; rfl) ?_
          refine hd_istore 84 C dX3_readsDoor_82 rfl [(4, .int (-9)), (3, .int (tx (fun q => E k (i + q)) n (p2 + 1))), (0, .ref (a 0)), (1, .int (nI (60 * k + i))), (2, .int (nI n))] (by decide) rfl ?_
          refine hd_iload 86 C dX3_readsDoor_84 rfl 0 rfl ?_
          refine hd_if_ge 89 94 C dX3_readsDoor_86 rfl (by decide) (fun q => absurd q (by decide)) (fun _ => ?_)
          refine hd_bipush 91 C dX3_readsDoor_89 rfl (-9) (by decide) ?_
          refine hd_goto 107 C dX3_readsDoor_91 (by decide) ?_
          refine hd_istore 109 C dX3_readsDoor_107 rfl [(5, .int (-9)), (4, .int (-9)), (3, .int (tx (fun q => E k (i + q)) n (p2 + 1))), (0, .ref (a 0)), (1, .int (nI (60 * k + i))), (2, .int (nI n))] (by decide) rfl ?_
          refine hd_iload 111 C dX3_readsDoor_109 rfl 0 rfl ?_
          refine hd_if_ge 114 119 C dX3_readsDoor_111 rfl (by decide) (fun q => absurd q (by decide)) (fun _ => ?_)
          refine hd_bipush 116 C dX3_readsDoor_114 rfl (-9) (by decide) ?_
          refine hd_goto 127 C dX3_readsDoor_116 (by decide) ?_
          refine hd_istore 129 C dX3_readsDoor_127 rfl [(6, .int (-9)), (5, .int (-9)), (4, .int (-9)), (3, .int (tx (fun q => E k (i + q)) n (p2 + 1))), (0, .ref (a 0)), (1, .int (nI (60 * k + i))), (2, .int (nI n))] (by decide) rfl ?_
          refine hd_iload 131 C dX3_readsDoor_129 rfl 0 rfl ?_
          refine hd_if_ge 134 136 C dX3_readsDoor_131 rfl (by decide) (fun q => absurd q (by decide)) (fun _ => ?_)
          refine hd_iconst 135 C dX3_readsDoor_134 rfl (nI 0) (by decide) ?_
          exact hd_zret C hK dX3_readsDoor_135 (by decide) (Or.inr ⟨rfl, p2 + 2, RS_of (by omega) hx2 (fg_rmn (f := (fun q => E k (i + q))) hR1 hR2 hR6 (by omega) (by omega) (by omega) ho79) (fun e9 w9 => by have := w9.2; omega), rfl⟩)
        · skip
          obtain ⟨hl79, hg79, hj79, hb79⟩ := fg_rm (f := (fun q => E k (i + q))) hR1 hR2 hR6 (by omega) (by omega) (by omega) ho79
          have hx3 := gd_ext hx2 hg79
          refine hd_eqS (show (N, uZ (hs Z (nI (p2 + 2)) (nI R2) (nI D2) Kd Rm To Sp) 0 3 (nI ((p2 + 2) + og (some rv79))), E, G, T) = (N, hs Z (nI (p2 + 3)) (nI R2) (nI D2) Kd Rm To Sp, E, G, T) from by rw [hs_3]; rfl) ?_
          refine hd_istore 84 C dX3_readsDoor_82 rfl [(4, .int (nI rv79)), (3, .int (tx (fun q => E k (i + q)) n (p2 + 1))), (0, .ref (a 0)), (1, .int (nI (60 * k + i))), (2, .int (nI n))] (by decide) rfl ?_
          refine hd_iload 86 C dX3_readsDoor_84 rfl 0 rfl ?_
          refine hd_if_geP 89 94 C dX3_readsDoor_86 rfl (by decide) (by omega) ?_
          refine hd_aload_n 95 C dX3_readsDoor_94 rfl 2 rfl rfl ?_
          refine hd_iload_n 96 C dX3_readsDoor_95 rfl 3 rfl rfl ?_
          refine hd_iload_n 97 C dX3_readsDoor_96 rfl 4 rfl rfl ?_
          refine hd_iconst 98 C dX3_readsDoor_97 rfl (nI 0) (by decide) ?_
          refine hd_aload_n 99 C dX3_readsDoor_98 rfl 2 rfl rfl ?_
          refine gm_readRooms 102 C hK dX3_readsDoor_99 rfl (nI R2) rfl ?_
          refine hd_iconst 103 C dX3_readsDoor_102 rfl (nI 1) (by decide) ?_
          refine hd_isub 104 C dX3_readsDoor_103 rfl (nI (R2 - 1)) (pk_sub (by omega)) ?_
          refine hd_callVI (rest := []) 107 C hK hZ hA ⟨Nat.zero_le _, Nat.zero_le _⟩ dX3_readsDoor_104 rfl kc_X3_99 (m_figure k i n (p2 + 3) 0 (R2 - 1) hk hin rfl (by omega) (by decide) (by omega)) ⟨rfl, rfl⟩ ⟨by decide, by decide⟩ 0 3 rfl rfl rfl rfl rfl (Nat.le_of_ble_eq_true rfl) (fun r104 u104 h104 => ?_)
          obtain ⟨rfl, rfl⟩ := h104
          rcases ho104 : fgo (tx (fun q => E k (i + q)) n (p2 + 3)) 0 (R2 - 1) with _ | rv104
          · skip
            refine hd_eqS (show (N, uZ (hs Z (nI (p2 + 3)) (nI R2) (nI D2) Kd Rm To Sp) 0 3 (nI ((p2 + 3) + og (none))), E, G, T) = (N, hs Z (nI (p2 + 3)) (nI R2) (nI D2) Kd Rm To Sp, E, G, T) from by rw [hs_3]; rfl) ?_
            refine hd_istore 109 C dX3_readsDoor_107 rfl [(5, .int (-9)), (4, .int (nI rv79)), (3, .int (tx (fun q => E k (i + q)) n (p2 + 1))), (0, .ref (a 0)), (1, .int (nI (60 * k + i))), (2, .int (nI n))] (by decide) rfl ?_
            refine hd_iload 111 C dX3_readsDoor_109 rfl 0 rfl ?_
            refine hd_if_ge 114 119 C dX3_readsDoor_111 rfl (by decide) (fun q => absurd q (by decide)) (fun _ => ?_)
            refine hd_bipush 116 C dX3_readsDoor_114 rfl (-9) (by decide) ?_
            refine hd_goto 127 C dX3_readsDoor_116 (by decide) ?_
            refine hd_istore 129 C dX3_readsDoor_127 rfl [(6, .int (-9)), (5, .int (-9)), (4, .int (nI rv79)), (3, .int (tx (fun q => E k (i + q)) n (p2 + 1))), (0, .ref (a 0)), (1, .int (nI (60 * k + i))), (2, .int (nI n))] (by decide) rfl ?_
            refine hd_iload 131 C dX3_readsDoor_129 rfl 0 rfl ?_
            refine hd_if_ge 134 136 C dX3_readsDoor_131 rfl (by decide) (fun q => absurd q (by decide)) (fun _ => ?_)
            refine hd_iconst 135 C dX3_readsDoor_134 rfl (nI 0) (by decide) ?_
            exact hd_zret C hK dX3_readsDoor_135 (by decide) (Or.inr ⟨rfl, p2 + 3, RS_of (by omega) hx3 (fg_rmn (f := (fun q => E k (i + q))) hR1 hR2 hR6 (by omega) (by omega) (by omega) ho104) (fun e9 w9 => by have := w9.2; omega), rfl⟩)
          · skip
            obtain ⟨hl104, hg104, hj104, hb104⟩ := fg_rm (f := (fun q => E k (i + q))) hR1 hR2 hR6 (by omega) (by omega) (by omega) ho104
            have hx4 := gd_ext hx3 hg104
            refine hd_eqS (show (N, uZ (hs Z (nI (p2 + 3)) (nI R2) (nI D2) Kd Rm To Sp) 0 3 (nI ((p2 + 3) + og (some rv104))), E, G, T) = (N, hs Z (nI (p2 + 4)) (nI R2) (nI D2) Kd Rm To Sp, E, G, T) from by rw [hs_3]; rfl) ?_
            refine hd_istore 109 C dX3_readsDoor_107 rfl [(5, .int (nI rv104)), (4, .int (nI rv79)), (3, .int (tx (fun q => E k (i + q)) n (p2 + 1))), (0, .ref (a 0)), (1, .int (nI (60 * k + i))), (2, .int (nI n))] (by decide) rfl ?_
            refine hd_iload 111 C dX3_readsDoor_109 rfl 0 rfl ?_
            refine hd_if_geP 114 119 C dX3_readsDoor_111 rfl (by decide) (by omega) ?_
            refine hd_aload_n 120 C dX3_readsDoor_119 rfl 3 rfl rfl ?_
            refine hd_iload_n 121 C dX3_readsDoor_120 rfl 4 rfl rfl ?_
            refine hd_iload_n 122 C dX3_readsDoor_121 rfl 5 rfl rfl ?_
            refine hd_iconst 123 C dX3_readsDoor_122 rfl (nI 0) (by decide) ?_
            refine hd_iconst 124 C dX3_readsDoor_123 rfl (nI 5) (by decide) ?_
            refine hd_callVI (rest := []) 127 C hK hZ hA ⟨Nat.zero_le _, Nat.zero_le _⟩ dX3_readsDoor_124 rfl kc_X3_99 (m_figure k i n (p2 + 4) 0 5 hk hin rfl (by omega) (by decide) (by omega)) ⟨rfl, rfl⟩ ⟨by decide, by decide⟩ 0 3 rfl rfl rfl rfl rfl (Nat.le_of_ble_eq_true rfl) (fun r124 u124 h124 => ?_)
            obtain ⟨rfl, rfl⟩ := h124
            rcases ho124 : fgo (tx (fun q => E k (i + q)) n (p2 + 4)) 0 5 with _ | rv124
            · skip
              refine hd_eqS (show (N, uZ (hs Z (nI (p2 + 4)) (nI R2) (nI D2) Kd Rm To Sp) 0 3 (nI ((p2 + 4) + og (none))), E, G, T) = (N, hs Z (nI (p2 + 4)) (nI R2) (nI D2) Kd Rm To Sp, E, G, T) from by rw [hs_3]; rfl) ?_
              refine hd_istore 129 C dX3_readsDoor_127 rfl [(6, .int (-9)), (5, .int (nI rv104)), (4, .int (nI rv79)), (3, .int (tx (fun q => E k (i + q)) n (p2 + 1))), (0, .ref (a 0)), (1, .int (nI (60 * k + i))), (2, .int (nI n))] (by decide) rfl ?_
              refine hd_iload 131 C dX3_readsDoor_129 rfl 0 rfl ?_
              refine hd_if_ge 134 136 C dX3_readsDoor_131 rfl (by decide) (fun q => absurd q (by decide)) (fun _ => ?_)
              refine hd_iconst 135 C dX3_readsDoor_134 rfl (nI 0) (by decide) ?_
              exact hd_zret C hK dX3_readsDoor_135 (by decide) (Or.inr ⟨rfl, p2 + 4, RS_of (by omega) hx4 (fg_stn (f := (fun q => E k (i + q))) (by omega) (by omega) (by omega) ho124) (fun e9 w9 => by have := w9.2; omega), rfl⟩)
            · skip
              obtain ⟨hl124, hg124, hj124, hb124⟩ := fg_st (f := (fun q => E k (i + q))) (by omega) (by omega) (by omega) ho124
              have hx5 := gd_ext hx4 hg124
              refine hd_eqS (show (N, uZ (hs Z (nI (p2 + 4)) (nI R2) (nI D2) Kd Rm To Sp) 0 3 (nI ((p2 + 4) + og (some rv124))), E, G, T) = (N, hs Z (nI (p2 + 5)) (nI R2) (nI D2) Kd Rm To Sp, E, G, T) from by rw [hs_3]; rfl) ?_
              refine hd_istore 129 C dX3_readsDoor_127 rfl [(6, .int (nI rv124)), (5, .int (nI rv104)), (4, .int (nI rv79)), (3, .int (tx (fun q => E k (i + q)) n (p2 + 1))), (0, .ref (a 0)), (1, .int (nI (60 * k + i))), (2, .int (nI n))] (by decide) rfl ?_
              refine hd_iload 131 C dX3_readsDoor_129 rfl 0 rfl ?_
              refine hd_if_geP 134 136 C dX3_readsDoor_131 rfl (by decide) (by omega) ?_
              refine hd_aload_n 137 C dX3_readsDoor_136 rfl 4 rfl rfl ?_
              refine gm_readKind 140 C hK dX3_readsDoor_137 rfl ?_
              refine hd_aload_n 141 C dX3_readsDoor_140 rfl 4 rfl rfl ?_
              refine gm_readDoors 144 C hK dX3_readsDoor_141 rfl (nI D2) rfl ?_
              have K9 : ∀ (v9 : Nat) (hv9 : v9 = kdL (E k (i + (p2 + 1)))), XW p l e (rmk 2 51) s m args below meth c 7 0 0 A D (MQ below (va_Qi (fun (r : Int32) (u : sT) => (r = nI 1 ∧ D2 < 8 ∧ p2 + 5 ≤ n ∧ (∀ q, q < p2 + 5 → gd (fun q => E k (i + q)) q = true) ∧ u = (N, hs Z (nI (p2 + 5)) (nI R2) (nI (D2 + 1)) (upd Kd D2 (nI (kdL (E k (i + (p2 + 1)))))) (upd Rm D2 (nI (dg (E k (i + (p2 + 2)))))) (upd To D2 (nI (dg (E k (i + (p2 + 3)))))) (upd Sp D2 (nI (dg (E k (i + (p2 + 4)))))), E, G, T)) ∨ (r = nI 0 ∧ ∃ p9, RS (fun q => E k (i + q)) n p9 ∧ u = (N, hs Z (nI p9) (nI R2) (nI D2) Kd Rm To Sp, E, G, T))) (cB D (ty4 cI cJ cD cS) (wM cI a) A) A) args s 0 0 A) (wM cI a) (N, hs Z (nI (p2 + 5)) (nI R2) (nI D2) Kd Rm To Sp, E, G, T) 165 [(6, .int (nI rv124)), (5, .int (nI rv104)), (4, .int (nI rv79)), (3, .int (tx (fun q => E k (i + q)) n (p2 + 1))), (0, .ref (a 0)), (1, .int (nI (60 * k + i))), (2, .int (nI n))] [.int (nI v9), .int (nI D2), .ref (a 5)] := by
                intro v9 hv9
                refine asm_readKind 166 C hK dX3_readsDoor_165 rfl (by omega) ?_
                refine hd_eqS (show (N, uZ (hs Z (nI (p2 + 5)) (nI R2) (nI D2) Kd Rm To Sp) 21 D2 (nI v9), E, G, T) = (N, hs Z (nI (p2 + 5)) (nI R2) (nI D2) (upd Kd D2 (nI v9)) Rm To Sp, E, G, T) from by rw [hs_21]) ?_
                refine hd_aload_n 167 C dX3_readsDoor_166 rfl 4 rfl rfl ?_
                refine gm_readRoom 170 C hK dX3_readsDoor_167 rfl ?_
                refine hd_aload_n 171 C dX3_readsDoor_170 rfl 4 rfl rfl ?_
                refine gm_readDoors 174 C hK dX3_readsDoor_171 rfl (nI D2) rfl ?_
                refine hd_iload 176 C dX3_readsDoor_174 rfl 2 rfl ?_
                refine asm_readRoom 177 C hK dX3_readsDoor_176 rfl (by omega) ?_
                refine hd_eqS (show (N, uZ (hs Z (nI (p2 + 5)) (nI R2) (nI D2) (upd Kd D2 (nI v9)) Rm To Sp) 22 D2 (nI rv79), E, G, T) = (N, hs Z (nI (p2 + 5)) (nI R2) (nI D2) (upd Kd D2 (nI v9)) (upd Rm D2 (nI rv79)) To Sp, E, G, T) from by rw [hs_22]) ?_
                refine hd_aload_n 178 C dX3_readsDoor_177 rfl 4 rfl rfl ?_
                refine gm_readTo 181 C hK dX3_readsDoor_178 rfl ?_
                refine hd_aload_n 182 C dX3_readsDoor_181 rfl 4 rfl rfl ?_
                refine gm_readDoors 185 C hK dX3_readsDoor_182 rfl (nI D2) rfl ?_
                refine hd_iload 187 C dX3_readsDoor_185 rfl 1 rfl ?_
                refine asm_readTo 188 C hK dX3_readsDoor_187 rfl (by omega) ?_
                refine hd_eqS (show (N, uZ (hs Z (nI (p2 + 5)) (nI R2) (nI D2) (upd Kd D2 (nI v9)) (upd Rm D2 (nI rv79)) To Sp) 23 D2 (nI rv104), E, G, T) = (N, hs Z (nI (p2 + 5)) (nI R2) (nI D2) (upd Kd D2 (nI v9)) (upd Rm D2 (nI rv79)) (upd To D2 (nI rv104)) Sp, E, G, T) from by rw [hs_23]) ?_
                refine hd_aload_n 189 C dX3_readsDoor_188 rfl 4 rfl rfl ?_
                refine gm_readStep 192 C hK dX3_readsDoor_189 rfl ?_
                refine hd_aload_n 193 C dX3_readsDoor_192 rfl 4 rfl rfl ?_
                refine gm_readDoors 196 C hK dX3_readsDoor_193 rfl (nI D2) rfl ?_
                refine hd_iload 198 C dX3_readsDoor_196 rfl 0 rfl ?_
                refine asm_readStep 199 C hK dX3_readsDoor_198 rfl (by omega) ?_
                refine hd_eqS (show (N, uZ (hs Z (nI (p2 + 5)) (nI R2) (nI D2) (upd Kd D2 (nI v9)) (upd Rm D2 (nI rv79)) (upd To D2 (nI rv104)) Sp) 24 D2 (nI rv124), E, G, T) = (N, hs Z (nI (p2 + 5)) (nI R2) (nI D2) (upd Kd D2 (nI v9)) (upd Rm D2 (nI rv79)) (upd To D2 (nI rv104)) (upd Sp D2 (nI rv124)), E, G, T) from by rw [hs_24]) ?_
                refine hd_aload_n 200 C dX3_readsDoor_199 rfl 4 rfl rfl ?_
                refine hd_dup 201 C dX3_readsDoor_200 rfl rfl ?_
                refine gm_readDoors 204 C hK dX3_readsDoor_201 rfl (nI D2) rfl ?_
                refine hd_iconst 205 C dX3_readsDoor_204 rfl (nI 1) (by decide) ?_
                refine hd_iadd 206 C dX3_readsDoor_205 rfl (nI (D2 + 1)) (nI_add _ _) ?_
                refine pm_readDoors 209 C hK dX3_readsDoor_206 rfl ?_
                refine hd_eqS (show (N, uZ (hs Z (nI (p2 + 5)) (nI R2) (nI D2) (upd Kd D2 (nI v9)) (upd Rm D2 (nI rv79)) (upd To D2 (nI rv104)) (upd Sp D2 (nI rv124))) 0 5 (nI (D2 + 1)), E, G, T) = (N, hs Z (nI (p2 + 5)) (nI R2) (nI (D2 + 1)) (upd Kd D2 (nI v9)) (upd Rm D2 (nI rv79)) (upd To D2 (nI rv104)) (upd Sp D2 (nI rv124)), E, G, T) from by rw [hs_5]) ?_
                refine hd_iconst 210 C dX3_readsDoor_209 rfl (nI 1) (by decide) ?_
                exact hd_zret C hK dX3_readsDoor_210 (by decide) (Or.inl ⟨rfl, by omega, by omega, hx5, by rw [hv9, hj79, hj104, hj124]⟩)
              refine hd_iload_n 145 C dX3_readsDoor_144 rfl 3 rfl rfl ?_
              refine hd_bipush 147 C dX3_readsDoor_145 rfl (nI 112) (by decide) ?_
              refine hd_icmp_ne 150 154 C dX3_readsDoor_147 rfl (by decide) (fun h147 => ?_) (fun h147 => ?_)
              · skip
                refine hd_iload_n 155 C dX3_readsDoor_154 rfl 3 rfl rfl ?_
                refine hd_bipush 157 C dX3_readsDoor_155 rfl (nI 108) (by decide) ?_
                refine hd_icmp_ne 160 164 C dX3_readsDoor_157 rfl (by decide) (fun h157 => ?_) (fun h157 => ?_)
                · skip
                  refine hd_iconst 165 C dX3_readsDoor_164 rfl (nI 2) (by decide) ?_
                  refine hd_sub [(6, .int (nI rv124)), (5, .int (nI rv104)), (4, .int (nI rv79)), (3, .int (tx (fun q => E k (i + q)) n (p2 + 1))), (0, .ref (a 0)), (1, .int (nI (60 * k + i))), (2, .int (nI n))] [0, 1, 2, 3, 4, 5, 6] rfl ?_
                  exact K9 2 (by rw [← tx_lt (f := (fun q => E k (i + q))) hlt1]; exact kd_c ((hk1.resolve_left h147).resolve_left h157))
                · skip
                  refine hd_iconst 161 C dX3_readsDoor_160 rfl (nI 1) (by decide) ?_
                  refine hd_goto 165 C dX3_readsDoor_161 (by decide) ?_
                  refine hd_sub [(6, .int (nI rv124)), (5, .int (nI rv104)), (4, .int (nI rv79)), (3, .int (tx (fun q => E k (i + q)) n (p2 + 1))), (0, .ref (a 0)), (1, .int (nI (60 * k + i))), (2, .int (nI n))] [0, 1, 2, 3, 4, 5, 6] rfl ?_
                  exact K9 1 (by rw [← tx_lt (f := (fun q => E k (i + q))) hlt1]; exact kd_l h157)
              · skip
                refine hd_iconst 151 C dX3_readsDoor_150 rfl (nI 0) (by decide) ?_
                refine hd_goto 165 C dX3_readsDoor_151 (by decide) ?_
                refine hd_sub [(6, .int (nI rv124)), (5, .int (nI rv104)), (4, .int (nI rv79)), (3, .int (tx (fun q => E k (i + q)) n (p2 + 1))), (0, .ref (a 0)), (1, .int (nI (60 * k + i))), (2, .int (nI n))] [0, 1, 2, 3, 4, 5, 6] rfl ?_
                exact K9 0 (by rw [← tx_lt (f := (fun q => E k (i + q))) hlt1]; exact kd_p h147)
      refine hd_iload_n 40 C dX3_readsDoor_39 rfl 0 rfl rfl ?_
      refine hd_bipush 42 C dX3_readsDoor_40 rfl (nI 112) (by decide) ?_
      refine hd_icmp_eq 45 59 C dX3_readsDoor_42 rfl (by decide) (fun h42 => ?_) (fun h42 => ?_)
      · skip
        refine hd_sub [(3, .int (tx (fun q => E k (i + q)) n (p2 + 1))), (0, .ref (a 0)), (1, .int (nI (60 * k + i))), (2, .int (nI n))] [0, 1, 2, 3] rfl ?_
        exact J (Or.inl h42)
      · skip
        refine hd_iload_n 46 C dX3_readsDoor_45 rfl 0 rfl rfl ?_
        refine hd_bipush 48 C dX3_readsDoor_46 rfl (nI 108) (by decide) ?_
        refine hd_icmp_eq 51 59 C dX3_readsDoor_48 rfl (by decide) (fun h48 => ?_) (fun h48 => ?_)
        · skip
          refine hd_sub [(3, .int (tx (fun q => E k (i + q)) n (p2 + 1))), (0, .ref (a 0)), (1, .int (nI (60 * k + i))), (2, .int (nI n))] [0, 1, 2, 3] rfl ?_
          exact J (Or.inr (Or.inl h48))
        · skip
          refine hd_iload_n 52 C dX3_readsDoor_51 rfl 0 rfl rfl ?_
          refine hd_bipush 54 C dX3_readsDoor_52 rfl (nI 99) (by decide) ?_
          refine hd_icmp_eq 57 59 C dX3_readsDoor_54 rfl (by decide) (fun h54 => ?_) (fun h54 => ?_)
          · skip
            refine hd_sub [(3, .int (tx (fun q => E k (i + q)) n (p2 + 1))), (0, .ref (a 0)), (1, .int (nI (60 * k + i))), (2, .int (nI n))] [0, 1, 2, 3] rfl ?_
            exact J (Or.inr (Or.inr h54))
          · skip
            refine hd_iconst 58 C dX3_readsDoor_57 rfl (nI 0) (by decide) ?_
            exact hd_zret C hK dX3_readsDoor_58 (by decide) (Or.inr ⟨rfl, p2 + 1, RS_of hlt0 hx1 (fun q9 => by rw [gd_c1 (by omega) (by omega) (by omega)]; exact decide_eq_false (fun e9 => by rw [← tx_lt (f := (fun q => E k (i + q))) q9] at e9; exact e9.elim h42 (fun e9 => e9.elim h48 h54))) (fun e9 w9 => by have := w9.2; omega), rfl⟩)
    · skip
      refine hd_iconst 21 C dX3_readsDoor_20 rfl (nI 0) (by decide) ?_
      exact hd_zret C hK dX3_readsDoor_21 (by decide) (Or.inr ⟨rfl, p2, RS_of hpn hgd (fun q9 => by rw [gd_c0 (by omega) (by omega) (by omega)]; exact decide_eq_false (fun e9 => h17 (by rw [tx_lt q9]; exact e9))) (fun e9 w9 => by have := w9.1; omega), rfl⟩)

set_option maxHeartbeats 4000000 in
set_option maxRecDepth 100000 in
theorem m_readsHouse {l : Launch} {D : va_G} {cI cJ cD cS : ClassId} {a : Nat → Nat} {N : Nat → Nat → Nat} {Z : Nat → Nat → Int32} {E : Nat → Nat → Int32} {G : Nat → Nat → Int64} {T : Nat → Nat} (k i n : Nat) (hk : k < 4) (hin : i + n ≤ 60)  : ctI l D (ty4 cI cJ cD cS) none (wM cI a) yX3_readsHouse cX3_readsHouse 4 (some .boolean) (rmk 3 77) [.ref (a 0), .int (nI (60 * k + i)), .int (nI n)] (N, Z, E, G, T) (fun (r : Int32) (u : sT) => (r = nI 1 ∧ whl n ∧ (∀ q, q < n → gd (fun q => E k (i + q)) q = true) ∧ ∃ (v3 : Int32) (g1 g2 g3 g4 : Nat → Int32), HK (fun q => E k (i + q)) ((n - 2) / 5) g1 g2 g3 g4 ∧ u = (N, hs Z v3 (nI (dg (E k (i + 1)))) (nI ((n - 2) / 5)) g1 g2 g3 g4, E, G, T)) ∨ (r = nI 0 ∧ ∃ (p9 : Nat) (v4 v5 : Int32) (g1 g2 g3 g4 : Nat → Int32), RS (fun q => E k (i + q)) n p9 ∧ u = (N, hs Z (nI p9) v4 v5 g1 g2 g3 g4, E, G, T))) := by
  refine ctI_of [(0, .ref (a 0)), (1, .int (nI (60 * k + i))), (2, .int (nI n))] (by decide) (Nat.le_of_ble_eq_true rfl) rfl ?_
  intro p e s m args below meth c A C hK hZ hA
  refine hd_aload_n 1 C dX3_readsHouse_0 rfl 0 rfl rfl ?_
  refine hd_iconst 2 C dX3_readsHouse_1 rfl (nI 0) (by decide) ?_
  refine pm_readAt 5 C hK dX3_readsHouse_2 rfl ?_
  refine hd_aload_n 6 C dX3_readsHouse_5 rfl 0 rfl rfl ?_
  refine hd_iconst 7 C dX3_readsHouse_6 rfl (nI 0) (by decide) ?_
  refine pm_readDoors 10 C hK dX3_readsHouse_7 rfl ?_
  refine hd_eqS (show (N, uZ (uZ Z 0 3 (nI 0)) 0 5 (nI 0), E, G, T) = (N, hs Z (nI 0) (Z 0 4) (nI 0) (Z 21) (Z 22) (Z 23) (Z 24), E, G, T) from hs_00x Z _ _ N E G T) ?_
  refine hd_aload_n 11 C dX3_readsHouse_10 rfl 0 rfl rfl ?_
  refine hd_iload_n 12 C dX3_readsHouse_11 rfl 1 rfl rfl ?_
  refine hd_iload_n 13 C dX3_readsHouse_12 rfl 2 rfl rfl ?_
  refine hd_callVI (rest := []) 16 C hK hZ hA ⟨Nat.zero_le _, Nat.zero_le _⟩ dX3_readsHouse_13 rfl kc_X3_89 (m_codeAt k i n 0 hk hin rfl (by omega)) ⟨rfl, rfl⟩ ⟨by decide, by decide⟩ 0 3 rfl rfl rfl rfl rfl (Nat.le_of_ble_eq_true rfl) (fun r13 u13 h13 => ?_)
  obtain ⟨rfl, rfl⟩ := h13
  refine hd_bipush 18 C dX3_readsHouse_16 rfl (nI 100) (by decide) ?_
  refine hd_icmp_ne 21 25 C dX3_readsHouse_18 rfl (by decide) (fun h18 => ?_) (fun h18 => ?_)
  · skip
    refine hd_iconst 26 C dX3_readsHouse_25 rfl (nI 0) (by decide) ?_
    refine hd_istore_n 27 C dX3_readsHouse_26 rfl [(3, .int (nI 0)), (0, .ref (a 0)), (1, .int (nI (60 * k + i))), (2, .int (nI n))] rfl (by decide) rfl ?_
    refine hd_aload_n 28 C dX3_readsHouse_27 rfl 1 rfl rfl ?_
    refine hd_dup 29 C dX3_readsHouse_28 rfl rfl ?_
    refine gm_readAt 32 C hK dX3_readsHouse_29 rfl (nI 0) rfl ?_
    refine hd_iload_n 33 C dX3_readsHouse_32 rfl 0 rfl rfl ?_
    refine hd_if_eq 36 40 C dX3_readsHouse_33 rfl (by decide) (fun _ => ?_) (fun q => absurd (by decide) q)
    refine hd_iconst 41 C dX3_readsHouse_40 rfl (nI 0) (by decide) ?_
    refine hd_iadd 42 C dX3_readsHouse_41 rfl (nI 0) (nI_0a _) ?_
    refine pm_readAt 45 C hK dX3_readsHouse_42 rfl ?_
    refine hd_eqS (show (N, uZ (hs Z (nI 0) (Z 0 4) (nI 0) (Z 21) (Z 22) (Z 23) (Z 24)) 0 3 (nI 0), E, G, T) = (N, hs Z (nI 0) (Z 0 4) (nI 0) (Z 21) (Z 22) (Z 23) (Z 24), E, G, T) from by rw [hs_3]) ?_
    refine hd_aload_n 46 C dX3_readsHouse_45 rfl 1 rfl rfl ?_
    refine hd_iload_n 47 C dX3_readsHouse_46 rfl 0 rfl rfl ?_
    refine hd_if_eq 50 62 C dX3_readsHouse_47 rfl (by decide) (fun _ => ?_) (fun q => absurd (by decide) q)
    refine hd_bipush 64 C dX3_readsHouse_62 rfl (-9) (by decide) ?_
    refine pm_readRooms 67 C hK dX3_readsHouse_64 rfl ?_
    refine hd_eqS (show (N, uZ (hs Z (nI 0) (Z 0 4) (nI 0) (Z 21) (Z 22) (Z 23) (Z 24)) 0 4 (-9), E, G, T) = (N, hs Z (nI 0) (-9) (nI 0) (Z 21) (Z 22) (Z 23) (Z 24), E, G, T) from by rw [hs_4]) ?_
    refine hd_aload_n 68 C dX3_readsHouse_67 rfl 1 rfl rfl ?_
    refine gm_readRooms 71 C hK dX3_readsHouse_68 rfl (-9) rfl ?_
    refine hd_if_le 74 78 C dX3_readsHouse_71 rfl (by decide) (fun _ => ?_) (fun q => absurd (by decide) q)
    refine hd_iconst 79 C dX3_readsHouse_78 rfl (nI 0) (by decide) ?_
    refine hd_istore_n 80 C dX3_readsHouse_79 rfl [(3, .int (nI 0)), (0, .ref (a 0)), (1, .int (nI (60 * k + i))), (2, .int (nI n))] rfl (by decide) rfl ?_
    refine hd_iload_n 81 C dX3_readsHouse_80 rfl 0 rfl rfl ?_
    refine hd_if_eq 84 109 C dX3_readsHouse_81 rfl (by decide) (fun _ => ?_) (fun q => absurd (by decide) q)
    refine hd_iload_n 110 C dX3_readsHouse_109 rfl 0 rfl rfl ?_
    exact hd_zret C hK dX3_readsHouse_110 (by decide) (Or.inr ⟨rfl, 0, _, _, _, _, _, _, RS_of (Nat.zero_le _) (fun q hq => absurd hq (Nat.not_lt_zero q)) (fun q9 => by rw [gd_0]; exact decide_eq_false (fun e9 => h18 (by rw [tx_lt q9]; exact e9))) (fun e9 w9 => by have := w9.1; omega), rfl⟩)
  · skip
    obtain ⟨hl0, hf0⟩ := tx_eq (f := (fun q => E k (i + q))) (by decide) h18
    have hg0 : gd (fun q => E k (i + q)) 0 = true := by rw [gd_0]; exact decide_eq_true hf0
    have hx1 := gd_ext (f := (fun q => E k (i + q))) (p := 0) (fun q hq => absurd hq (Nat.not_lt_zero q)) hg0
    refine hd_iconst 22 C dX3_readsHouse_21 rfl (nI 1) (by decide) ?_
    refine hd_goto 26 C dX3_readsHouse_22 (by decide) ?_
    refine hd_istore_n 27 C dX3_readsHouse_26 rfl [(3, .int (nI 1)), (0, .ref (a 0)), (1, .int (nI (60 * k + i))), (2, .int (nI n))] rfl (by decide) rfl ?_
    refine hd_aload_n 28 C dX3_readsHouse_27 rfl 1 rfl rfl ?_
    refine hd_dup 29 C dX3_readsHouse_28 rfl rfl ?_
    refine gm_readAt 32 C hK dX3_readsHouse_29 rfl (nI 0) rfl ?_
    refine hd_iload_n 33 C dX3_readsHouse_32 rfl 0 rfl rfl ?_
    refine hd_if_eq 36 40 C dX3_readsHouse_33 rfl (by decide) (fun q => absurd q (by decide)) (fun _ => ?_)
    refine hd_iconst 37 C dX3_readsHouse_36 rfl (nI 1) (by decide) ?_
    refine hd_goto 41 C dX3_readsHouse_37 (by decide) ?_
    refine hd_iadd 42 C dX3_readsHouse_41 rfl (nI 1) (nI_0a _) ?_
    refine pm_readAt 45 C hK dX3_readsHouse_42 rfl ?_
    refine hd_eqS (show (N, uZ (hs Z (nI 0) (Z 0 4) (nI 0) (Z 21) (Z 22) (Z 23) (Z 24)) 0 3 (nI 1), E, G, T) = (N, hs Z (nI 1) (Z 0 4) (nI 0) (Z 21) (Z 22) (Z 23) (Z 24), E, G, T) from by rw [hs_3]) ?_
    refine hd_aload_n 46 C dX3_readsHouse_45 rfl 1 rfl rfl ?_
    refine hd_iload_n 47 C dX3_readsHouse_46 rfl 0 rfl rfl ?_
    refine hd_if_eq 50 62 C dX3_readsHouse_47 rfl (by decide) (fun q => absurd q (by decide)) (fun _ => ?_)
    refine hd_aload_n 51 C dX3_readsHouse_50 rfl 1 rfl rfl ?_
    refine hd_iload_n 52 C dX3_readsHouse_51 rfl 2 rfl rfl ?_
    refine hd_iload_n 53 C dX3_readsHouse_52 rfl 3 rfl rfl ?_
    refine hd_iconst 54 C dX3_readsHouse_53 rfl (nI 2) (by decide) ?_
    refine hd_bipush 56 C dX3_readsHouse_54 rfl (nI 6) (by decide) ?_
    refine hd_callVI (rest := [.ref (a 0)]) 59 C hK hZ hA ⟨Nat.zero_le _, Nat.zero_le _⟩ dX3_readsHouse_56 rfl kc_X3_99 (m_figure k i n 1 2 6 hk hin rfl (by omega) (by decide) (by omega)) ⟨rfl, rfl⟩ ⟨by decide, by decide⟩ 0 3 rfl rfl rfl rfl rfl (Nat.le_of_ble_eq_true rfl) (fun r56 u56 h56 => ?_)
    obtain ⟨rfl, rfl⟩ := h56
    rcases ho56 : fgo (tx (fun q => E k (i + q)) n 1) 2 6 with _ | rv56
    · skip
      refine hd_eqS (show (N, uZ (hs Z (nI 1) (Z 0 4) (nI 0) (Z 21) (Z 22) (Z 23) (Z 24)) 0 3 (nI (1 + og (none))), E, G, T) = (N, hs Z (nI (1)) (Z 0 4) (nI 0) (Z 21) (Z 22) (Z 23) (Z 24), E, G, T) from by rw [hs_3]; rfl) ?_
      refine hd_goto 64 C dX3_readsHouse_59 (by decide) ?_
      refine pm_readRooms 67 C hK dX3_readsHouse_64 rfl ?_
      refine hd_eqS (show (N, uZ (hs Z (nI (1)) (Z 0 4) (nI 0) (Z 21) (Z 22) (Z 23) (Z 24)) 0 4 (-9), E, G, T) = (N, hs Z (nI (1)) (-9) (nI 0) (Z 21) (Z 22) (Z 23) (Z 24), E, G, T) from by rw [hs_4]) ?_
      refine hd_aload_n 68 C dX3_readsHouse_67 rfl 1 rfl rfl ?_
      refine gm_readRooms 71 C hK dX3_readsHouse_68 rfl (-9) rfl ?_
      refine hd_if_le 74 78 C dX3_readsHouse_71 rfl (by decide) (fun _ => ?_) (fun q => absurd (by decide) q)
      refine hd_iconst 79 C dX3_readsHouse_78 rfl (nI 0) (by decide) ?_
      refine hd_istore_n 80 C dX3_readsHouse_79 rfl [(3, .int (nI 0)), (0, .ref (a 0)), (1, .int (nI (60 * k + i))), (2, .int (nI n))] rfl (by decide) rfl ?_
      refine hd_iload_n 81 C dX3_readsHouse_80 rfl 0 rfl rfl ?_
      refine hd_if_eq 84 109 C dX3_readsHouse_81 rfl (by decide) (fun _ => ?_) (fun q => absurd (by decide) q)
      refine hd_iload_n 110 C dX3_readsHouse_109 rfl 0 rfl rfl ?_
      exact hd_zret C hK dX3_readsHouse_110 (by decide) (Or.inr ⟨rfl, 1, _, _, _, _, _, _, RS_of hl0 hx1 (fg_1n (f := (fun q => E k (i + q))) ho56) (fun e9 w9 => by have := w9.1; omega), rfl⟩)
    · skip
      obtain ⟨hl1, hg1, hj, hj2, hj6⟩ := fg_1 (f := (fun q => E k (i + q))) ho56
      have hx2 := gd_ext hx1 hg1
      refine hd_eqS (show (N, uZ (hs Z (nI 1) (Z 0 4) (nI 0) (Z 21) (Z 22) (Z 23) (Z 24)) 0 3 (nI (1 + og (some rv56))), E, G, T) = (N, hs Z (nI (2)) (Z 0 4) (nI 0) (Z 21) (Z 22) (Z 23) (Z 24), E, G, T) from by rw [hs_3]; rfl) ?_
      refine hd_goto 64 C dX3_readsHouse_59 (by decide) ?_
      refine pm_readRooms 67 C hK dX3_readsHouse_64 rfl ?_
      refine hd_eqS (show (N, uZ (hs Z (nI (2)) (Z 0 4) (nI 0) (Z 21) (Z 22) (Z 23) (Z 24)) 0 4 (nI rv56), E, G, T) = (N, hs Z (nI (2)) (nI rv56) (nI 0) (Z 21) (Z 22) (Z 23) (Z 24), E, G, T) from by rw [hs_4]) ?_
      refine hd_aload_n 68 C dX3_readsHouse_67 rfl 1 rfl rfl ?_
      refine gm_readRooms 71 C hK dX3_readsHouse_68 rfl (nI rv56) rfl ?_
      refine hd_if_leN 74 78 C dX3_readsHouse_71 rfl (by decide) (by omega) (fun h71 => ?_) (fun h71 => ?_)
      · skip
        omega
      · skip
        refine hd_iconst 75 C dX3_readsHouse_74 rfl (nI 1) (by decide) ?_
        refine hd_goto 79 C dX3_readsHouse_75 (by decide) ?_
        refine hd_istore_n 80 C dX3_readsHouse_79 rfl [(3, .int (nI 1)), (0, .ref (a 0)), (1, .int (nI (60 * k + i))), (2, .int (nI n))] rfl (by decide) rfl ?_
        have L : ∀ (fuel : Nat) (D2 p2 : Nat) (Kd Rm To Sp : Nat → Int32) (hp2 : p2 = 2 + 5 * D2) (hD8 : D2 ≤ 8) (hpn : p2 ≤ n) (hgd : ∀ q, q < p2 → gd (fun q => E k (i + q)) q = true) (hK2 : HK (fun q => E k (i + q)) D2 Kd Rm To Sp), n - p2 < fuel → XW p l e (rmk 3 77) s m args below meth c 4 0 0 A D (MQ below (va_Qi (fun (r : Int32) (u : sT) => (r = nI 1 ∧ whl n ∧ (∀ q, q < n → gd (fun q => E k (i + q)) q = true) ∧ ∃ (v3 : Int32) (g1 g2 g3 g4 : Nat → Int32), HK (fun q => E k (i + q)) ((n - 2) / 5) g1 g2 g3 g4 ∧ u = (N, hs Z v3 (nI (dg (E k (i + 1)))) (nI ((n - 2) / 5)) g1 g2 g3 g4, E, G, T)) ∨ (r = nI 0 ∧ ∃ (p9 : Nat) (v4 v5 : Int32) (g1 g2 g3 g4 : Nat → Int32), RS (fun q => E k (i + q)) n p9 ∧ u = (N, hs Z (nI p9) v4 v5 g1 g2 g3 g4, E, G, T))) (cB D (ty4 cI cJ cD cS) (wM cI a) A) A) args s 0 0 A) (wM cI a) (N, hs Z (nI p2) (nI rv56) (nI D2) Kd Rm To Sp, E, G, T) 80 [(0, .ref (a 0)), (1, .int (nI (60 * k + i))), (2, .int (nI n)), (3, .int (nI 1))] [] := by
          intro fuel
          induction fuel with
          | zero => intro D2 p2 Kd Rm To Sp hp2 hD8 hpn hgd hK2 hfu; exact absurd hfu (Nat.not_lt_zero _)
          | succ fuel ih_L =>
            intro D2 p2 Kd Rm To Sp hp2 hD8 hpn hgd hK2 hfu_L
            refine hd_iload_n 81 C dX3_readsHouse_80 rfl 3 rfl rfl ?_
            refine hd_if_eq 84 109 C dX3_readsHouse_81 rfl (by decide) (fun q => absurd q (by decide)) (fun _ => ?_)
            refine hd_aload_n 85 C dX3_readsHouse_84 rfl 0 rfl rfl ?_
            refine gm_readDoors 88 C hK dX3_readsHouse_85 rfl (nI D2) rfl ?_
            refine hd_if_eqN 91 99 C dX3_readsHouse_88 rfl (by decide) (by omega) (fun h88 => ?_) (fun h88 => ?_)
            · skip
              refine hd_aload_n 100 C dX3_readsHouse_99 rfl 0 rfl rfl ?_
              refine hd_iload_n 101 C dX3_readsHouse_100 rfl 1 rfl rfl ?_
              refine hd_iload_n 102 C dX3_readsHouse_101 rfl 2 rfl rfl ?_
              refine hd_callVI (rest := []) 105 C hK hZ hA ⟨Nat.zero_le _, Nat.zero_le _⟩ dX3_readsHouse_102 rfl kc_X3_103 (m_readsDoor k i n p2 D2 rv56 Kd Rm To Sp hk hin hp2 hD8 hpn (Or.inl h88) (by omega) (by omega) hj hgd) ⟨rfl, rfl⟩ ⟨by decide, by decide⟩ 0 3 rfl rfl rfl rfl rfl (Nat.le_of_ble_eq_true rfl) (fun r102 u102 h102 => ?_)
              rcases h102 with ⟨hr, hd8, hp5, hx5, hu⟩ | ⟨hr, p9, hrs, hu⟩
              · skip
                subst hr; subst hu
                refine hd_istore_n 106 C dX3_readsHouse_105 rfl [(3, .int (nI 1)), (0, .ref (a 0)), (1, .int (nI (60 * k + i))), (2, .int (nI n))] rfl (by decide) rfl ?_
                refine hd_goto 80 C dX3_readsHouse_106 (by decide) ?_
                refine hd_sub [(0, .ref (a 0)), (1, .int (nI (60 * k + i))), (2, .int (nI n)), (3, .int (nI 1))] [1, 2, 3, 0] rfl ?_
                exact ih_L (D2 + 1) (p2 + 5) _ _ _ _ (by omega) (by omega) hp5 hx5 (HK_s hK2 hp2) (by omega)
              · skip
                subst hr; subst hu
                refine hd_istore_n 106 C dX3_readsHouse_105 rfl [(3, .int (nI 0)), (0, .ref (a 0)), (1, .int (nI (60 * k + i))), (2, .int (nI n))] rfl (by decide) rfl ?_
                refine hd_goto 80 C dX3_readsHouse_106 (by decide) ?_
                refine hd_iload_n 81 C dX3_readsHouse_80 rfl 0 rfl rfl ?_
                refine hd_if_eq 84 109 C dX3_readsHouse_81 rfl (by decide) (fun _ => ?_) (fun q => absurd (by decide) q)
                refine hd_iload_n 110 C dX3_readsHouse_109 rfl 0 rfl rfl ?_
                exact hd_zret C hK dX3_readsHouse_110 (by decide) (Or.inr ⟨rfl, p9, _, _, _, _, _, _, hrs, rfl⟩)
            · skip
              refine hd_aload_n 92 C dX3_readsHouse_91 rfl 0 rfl rfl ?_
              refine gm_readAt 95 C hK dX3_readsHouse_92 rfl (nI p2) rfl ?_
              refine hd_iload_n 96 C dX3_readsHouse_95 rfl 2 rfl rfl ?_
              refine hd_icmp_geN 99 109 C dX3_readsHouse_96 rfl (by decide) (by omega) (by omega) (fun h96 => ?_) (fun h96 => ?_)
              · skip
                refine hd_iload_n 110 C dX3_readsHouse_109 rfl 3 rfl rfl ?_
                have e5 : D2 = (n - 2) / 5 := by omega
                have en : p2 = n := by omega
                exact hd_zret C hK dX3_readsHouse_110 (by decide) (Or.inl ⟨rfl, ⟨by omega, by omega⟩, by rw [← en]; exact hgd, nI p2, Kd, Rm, To, Sp, by rw [← e5]; exact hK2, by rw [← e5, ← hj]⟩)
              · skip
                refine hd_aload_n 100 C dX3_readsHouse_99 rfl 0 rfl rfl ?_
                refine hd_iload_n 101 C dX3_readsHouse_100 rfl 1 rfl rfl ?_
                refine hd_iload_n 102 C dX3_readsHouse_101 rfl 2 rfl rfl ?_
                refine hd_callVI (rest := []) 105 C hK hZ hA ⟨Nat.zero_le _, Nat.zero_le _⟩ dX3_readsHouse_102 rfl kc_X3_103 (m_readsDoor k i n p2 D2 rv56 Kd Rm To Sp hk hin hp2 hD8 hpn (Or.inr h96) (by omega) (by omega) hj hgd) ⟨rfl, rfl⟩ ⟨by decide, by decide⟩ 0 3 rfl rfl rfl rfl rfl (Nat.le_of_ble_eq_true rfl) (fun r102 u102 h102 => ?_)
                rcases h102 with ⟨hr, hd8, hp5, hx5, hu⟩ | ⟨hr, p9, hrs, hu⟩
                · skip
                  subst hr; subst hu
                  refine hd_istore_n 106 C dX3_readsHouse_105 rfl [(3, .int (nI 1)), (0, .ref (a 0)), (1, .int (nI (60 * k + i))), (2, .int (nI n))] rfl (by decide) rfl ?_
                  refine hd_goto 80 C dX3_readsHouse_106 (by decide) ?_
                  refine hd_sub [(0, .ref (a 0)), (1, .int (nI (60 * k + i))), (2, .int (nI n)), (3, .int (nI 1))] [1, 2, 3, 0] rfl ?_
                  exact ih_L (D2 + 1) (p2 + 5) _ _ _ _ (by omega) (by omega) hp5 hx5 (HK_s hK2 hp2) (by omega)
                · skip
                  subst hr; subst hu
                  refine hd_istore_n 106 C dX3_readsHouse_105 rfl [(3, .int (nI 0)), (0, .ref (a 0)), (1, .int (nI (60 * k + i))), (2, .int (nI n))] rfl (by decide) rfl ?_
                  refine hd_goto 80 C dX3_readsHouse_106 (by decide) ?_
                  refine hd_iload_n 81 C dX3_readsHouse_80 rfl 0 rfl rfl ?_
                  refine hd_if_eq 84 109 C dX3_readsHouse_81 rfl (by decide) (fun _ => ?_) (fun q => absurd (by decide) q)
                  refine hd_iload_n 110 C dX3_readsHouse_109 rfl 0 rfl rfl ?_
                  exact hd_zret C hK dX3_readsHouse_110 (by decide) (Or.inr ⟨rfl, p9, _, _, _, _, _, _, hrs, rfl⟩)
        refine hd_sub [(0, .ref (a 0)), (1, .int (nI (60 * k + i))), (2, .int (nI n)), (3, .int (nI 1))] [1, 2, 3, 0] rfl ?_
        exact L (n + 1) 0 2 _ _ _ _ rfl (Nat.zero_le _) hl1 hx2 (fun d hd => absurd hd (Nat.not_lt_zero d)) (by omega)

set_option maxHeartbeats 4000000 in
set_option maxRecDepth 100000 in
theorem m_house {l : Launch} {D : va_G} {cI cJ cD cS : ClassId} {a : Nat → Nat} {N : Nat → Nat → Nat} {Z : Nat → Nat → Int32} {E : Nat → Nat → Int32} {G : Nat → Nat → Int64} {T : Nat → Nat} (xk ln xi xn : Int32) (hI : inv N) (hz : ∀ k, k < 4 → szOK (Z 2 k))  : ctI l D (ty4 cI cJ cD cS) none (wM cI a) yX3_house cX3_house 7 (some .int) (rmk 4 100) [.ref (a 0), .int xk, .int ln, .int xi, .int xn] (N, Z, E, G, T) (fun (r : Int32) (u : sT) => (∃ (v3 v4 v5 : Int32) (g1 g2 g3 g4 : Nat → Int32), u = (nnHouse N Z E xk ln xi xn, uZ (hs Z v3 v4 v5 g1 g2 g3 g4) 0 1 (fzHouse Z xk ln xi xn), E, G, T)) ∧ r = spHouse Z E xk ln xi xn) := by
  refine ctI_of [(0, .ref (a 0)), (1, .int xk), (2, .int ln), (3, .int xi), (4, .int xn)] (by decide) (Nat.le_of_ble_eq_true rfl) rfl ?_
  intro p e s m args below meth c A C hK hZ hA
  have hR := hI.R
  have hDn := hI.D
  have hQn := hI.Q
  refine hd_iload_n 1 C dX3_house_0 rfl 1 rfl rfl ?_
  refine hd_callSI (rest := []) 4 C hK hZ hA ⟨Nat.zero_le _, Nat.zero_le _⟩ dX3_house_1 rfl kc_X3_115 (m_noSheet xk) ⟨rfl, rfl⟩ ⟨by decide, by decide⟩ rfl rfl (Nat.le_of_ble_eq_true rfl) (fun r1 u1 h1 => ?_)
  obtain ⟨rfl, rfl⟩ := h1
  refine hd_if_eqB 7 13 C dX3_house_4 rfl (by decide) (fun h4 => ?_) (fun h4 => ?_)
  · skip
    simp only [Bool.not_eq_true', Bool.not_eq_false'] at h4
    obtain ⟨k, hj_k, rfl⟩ := inB_t h4 (by decide)
    have hc_k : (nI k).toNatClampNeg = k := nI_clamp (by omega)
    refine hd_iload_n 14 C dX3_house_13 rfl 2 rfl rfl ?_
    refine hd_i2l 15 C dX3_house_14 rfl ln.toInt64 rfl ?_
    refine hd_lconst 16 C dX3_house_15 rfl 0 (by decide) ?_
    refine hd_ldc2 19 C dX3_house_16 rfl kl_X3_122 ?_
    refine hd_callSI (rest := []) 22 C hK hZ hA ⟨Nat.zero_le _, Nat.zero_le _⟩ dX3_house_19 rfl kc_X3_77 (m_in ln.toInt64 0 (2)) ⟨rfl, rfl⟩ ⟨by decide, by decide⟩ rfl rfl (Nat.le_of_ble_eq_true rfl) (fun r19 u19 h19 => ?_)
    obtain ⟨rfl, rfl⟩ := h19
    refine hd_if_neB 25 32 C dX3_house_22 rfl (by decide) (fun h22 => ?_) (fun h22 => ?_)
    · skip
      rw [inL_k ln 2 3 (by decide)] at h22
      refine hd_aload_n 33 C dX3_house_32 rfl 0 rfl rfl ?_
      refine hd_iload_n 34 C dX3_house_33 rfl 1 rfl rfl ?_
      refine hd_iload_n 35 C dX3_house_34 rfl 2 rfl rfl ?_
      refine hd_iload_n 36 C dX3_house_35 rfl 3 rfl rfl ?_
      refine hd_iload 38 C dX3_house_36 rfl 4 rfl ?_
      refine hd_i2l 39 C dX3_house_38 rfl xn.toInt64 rfl ?_
      refine hd_callVI (rest := []) 42 C hK hZ hA ⟨Nat.zero_le _, Nat.zero_le _⟩ dX3_house_39 rfl kc_X3_124 (m_cellsBarred k ln xi xn (by omega) hz) ⟨rfl, rfl⟩ ⟨by decide, by decide⟩ 0 3 rfl rfl rfl rfl rfl (Nat.le_of_ble_eq_true rfl) (fun r39 u39 h39 => ?_)
      obtain ⟨hu39, hr39⟩ := h39
      have hft := ftN_lt (Z 2 k) (Z 3 k) ln xi xn
      by_cases hf : ftN (Z 2 k) (Z 3 k) ln xi xn = 0
      · skip
        rw [if_pos hf] at hu39 hr39
        subst hu39; subst hr39
        obtain ⟨hn1, hl9, -, hok⟩ := ftN_0 hf
        obtain ⟨mz, i2, n2, ez, rfl, rfl, hm60, hsum⟩ := okC_nat (hz k (by omega)) hok
        have hc_i2 : (nI i2).toNatClampNeg = i2 := nI_clamp (by omega)
        have hc_n2 : (nI n2).toNatClampNeg = n2 := nI_clamp (by omega)
        have htx : txt E (nI k) (nI i2) = fun q => E k (i2 + q) := by funext q; simp [txt, hc_k, hc_i2]
        refine hd_istore 44 C dX3_house_42 rfl [(5, .int 0), (0, .ref (a 0)), (1, .int (nI k)), (2, .int ln), (3, .int (nI i2)), (4, .int (nI n2))] (by decide) rfl ?_
        refine hd_iload 46 C dX3_house_44 rfl 0 rfl ?_
        refine hd_if_ge 49 52 C dX3_house_46 rfl (by decide) (fun _ => ?_) (fun q => absurd (by decide) q)
        refine hd_aload_n 53 C dX3_house_52 rfl 1 rfl rfl ?_
        refine hd_bipush 55 C dX3_house_53 rfl (nI 60) (by decide) ?_
        refine hd_iload_n 56 C dX3_house_55 rfl 2 rfl rfl ?_
        refine hd_imul 57 C dX3_house_56 rfl (nI (60 * k)) (pk_mul _ _) ?_
        refine hd_iload_n 58 C dX3_house_57 rfl 4 rfl rfl ?_
        refine hd_iadd 59 C dX3_house_58 rfl (nI ((60 * k) + i2)) (nI_add _ _) ?_
        refine hd_iload 61 C dX3_house_59 rfl 5 rfl ?_
        refine hd_callVI (rest := []) 64 C hK hZ hA ⟨Nat.zero_le _, Nat.zero_le _⟩ dX3_house_61 rfl kc_X3_128 (m_readsHouse k i2 n2 (by omega) (by omega)) ⟨rfl, rfl⟩ ⟨by decide, by decide⟩ 0 3 rfl rfl rfl rfl rfl (Nat.le_of_ble_eq_true rfl) (fun r61 u61 h61 => ?_)
        rcases h61 with ⟨hr, hw, hgd, v3, g1, g2, g3, g4, hK2, hu⟩ | ⟨hr, p9, v4, v5, g1, g2, g3, g4, hrs, hu⟩
        · skip
          subst hr; subst hu
          have hffo : ffo (fun q => E k (i2 + q)) n2 n2 0 = none := by rw [ffo_end hgd]; exact if_pos hw
          have hn42 : n2 ≤ 42 := by have := gd_lt (hgd (n2 - 1) (by have := hw.1; omega)); omega
          refine hd_if_ne 67 79 C dX3_house_64 rfl (by decide) (fun _ => ?_) (fun q => absurd q (by decide))
          refine hd_aload_n 80 C dX3_house_79 rfl 1 rfl rfl ?_
          refine hd_aload_n 81 C dX3_house_80 rfl 1 rfl rfl ?_
          refine gm_readRooms 84 C hK dX3_house_81 rfl (nI (dg (E k (i2 + 1)))) rfl ?_
          refine pm_rooms 87 C hK dX3_house_84 rfl ?_
          refine hd_aload_n 88 C dX3_house_87 rfl 1 rfl rfl ?_
          refine hd_aload_n 89 C dX3_house_88 rfl 1 rfl rfl ?_
          refine gm_readDoors 92 C hK dX3_house_89 rfl (nI ((n2 - 2) / 5)) rfl ?_
          refine pm_doors 95 C hK dX3_house_92 rfl ?_
          refine hd_eqS (show (uN (uN N 0 0 (dg (E k (i2 + 1)))) 0 1 ((n2 - 2) / 5), hs Z v3 (nI (dg (E k (i2 + 1)))) (nI ((n2 - 2) / 5)) g1 g2 g3 g4, E, G, T) = (nbd N (dg (E k (i2 + 1))) ((n2 - 2) / 5) (N 0 2) (fun q => E k (i2 + q)) 0, hs Z v3 (nI (dg (E k (i2 + 1)))) (nI ((n2 - 2) / 5)) g1 g2 g3 g4, E, G, T) from by rw [nbd_0']) ?_
          refine hd_iconst 96 C dX3_house_95 rfl (nI 0) (by decide) ?_
          refine hd_istore 98 C dX3_house_96 rfl [(6, .int (nI 0)), (5, .int 0), (0, .ref (a 0)), (1, .int (nI k)), (2, .int ln), (3, .int (nI i2)), (4, .int (nI n2))] (by decide) rfl ?_
          have L : ∀ (fuel : Nat) (d : Nat) (hd : d ≤ (n2 - 2) / 5), (n2 - 2) / 5 - d < fuel → XW p l e (rmk 4 100) s m args below meth c 7 0 0 A D (MQ below (va_Qi (fun (r : Int32) (u : sT) => (∃ (v3 v4 v5 : Int32) (g1 g2 g3 g4 : Nat → Int32), u = (nnHouse N Z E (nI k) ln (nI i2) (nI n2), uZ (hs Z v3 v4 v5 g1 g2 g3 g4) 0 1 (fzHouse Z (nI k) ln (nI i2) (nI n2)), E, G, T)) ∧ r = spHouse Z E (nI k) ln (nI i2) (nI n2)) (cB D (ty4 cI cJ cD cS) (wM cI a) A) A) args s 0 0 A) (wM cI a) (nbd N (dg (E k (i2 + 1))) ((n2 - 2) / 5) (N 0 2) (fun q => E k (i2 + q)) d, hs Z v3 (nI (dg (E k (i2 + 1)))) (nI ((n2 - 2) / 5)) g1 g2 g3 g4, E, G, T) 98 [(0, .ref (a 0)), (1, .int (nI k)), (2, .int ln), (3, .int (nI i2)), (4, .int (nI n2)), (5, .int 0), (6, .int (nI d))] [] := by
            intro fuel
            induction fuel with
            | zero => intro d hd hfu; exact absurd hfu (Nat.not_lt_zero _)
            | succ fuel ih_L =>
              intro d hd hfu_L
              refine hd_iload 100 C dX3_house_98 rfl 6 rfl ?_
              refine hd_aload_n 101 C dX3_house_100 rfl 0 rfl rfl ?_
              refine gm_doors 104 C hK dX3_house_101 rfl (nI ((n2 - 2) / 5)) rfl ?_
              refine hd_icmp_geN 107 169 C dX3_house_104 rfl (by decide) (by omega) (by omega) (fun h104 => ?_) (fun h104 => ?_)
              · skip
                refine hd_aload_n 170 C dX3_house_169 rfl 0 rfl rfl ?_
                refine hd_iconst 171 C dX3_house_170 rfl (nI 0) (by decide) ?_
                refine pm_readings 174 C hK dX3_house_171 rfl ?_
                refine hd_eqS (show (uN (nbd N (dg (E k (i2 + 1))) ((n2 - 2) / 5) (N 0 2) (fun q => E k (i2 + q)) d) 0 2 0, hs Z v3 (nI (dg (E k (i2 + 1)))) (nI ((n2 - 2) / 5)) g1 g2 g3 g4, E, G, T) = (nbd N (dg (E k (i2 + 1))) ((n2 - 2) / 5) 0 (fun q => E k (i2 + q)) ((n2 - 2) / 5), hs Z v3 (nI (dg (E k (i2 + 1)))) (nI ((n2 - 2) / 5)) g1 g2 g3 g4, E, G, T) from by rw [nbd_q, show d = (n2 - 2) / 5 by omega]) ?_
                refine hd_aload_n 175 C dX3_house_174 rfl 0 rfl rfl ?_
                refine hd_aload_n 176 C dX3_house_175 rfl 0 rfl rfl ?_
                refine gm_doors 179 C hK dX3_house_176 rfl (nI ((n2 - 2) / 5)) rfl ?_
                refine hd_callVI (rest := []) 182 C hK hZ hA ⟨Nat.zero_le _, Nat.zero_le _⟩ dX3_house_179 rfl kc_X3_119 (m_refused (nI ((n2 - 2) / 5))) ⟨rfl, rfl⟩ ⟨by decide, by decide⟩ 0 3 rfl rfl rfl rfl rfl (Nat.le_of_ble_eq_true rfl) (fun r179 u179 h179 => ?_)
                obtain ⟨rfl, rfl⟩ := h179
                exact hd_iret C hK dX3_house_182 ⟨⟨v3, nI (dg (E k (i2 + 1))), nI ((n2 - 2) / 5), g1, g2, g3, g4, by simp [nnHouse, fzHouse, nI_0, h4, hc_k, h22, hf, hc_i2, hc_n2, htx, hffo]⟩, by simp [spHouse, h4, hc_k, h22, hf, hc_i2, hc_n2, htx, hffo]⟩
              · skip
                refine hd_aload_n 108 C dX3_house_107 rfl 0 rfl rfl ?_
                refine gm_kindOf 111 C hK dX3_house_108 rfl ?_
                refine hd_iload 113 C dX3_house_111 rfl 6 rfl ?_
                refine hd_aload_n 114 C dX3_house_113 rfl 0 rfl rfl ?_
                refine gm_readKind 117 C hK dX3_house_114 rfl ?_
                refine hd_iload 119 C dX3_house_117 rfl 6 rfl ?_
                refine alm_readKind 120 C hK dX3_house_119 rfl (by omega) (nI (kdL (E k (i2 + (3 + 5 * d))))) (hK2 d (by omega)).1 ?_
                refine asm_kindOf 121 C hK dX3_house_120 rfl (by omega) ?_
                refine hd_aload_n 122 C dX3_house_121 rfl 0 rfl rfl ?_
                refine gm_roomOf 125 C hK dX3_house_122 rfl ?_
                refine hd_iload 127 C dX3_house_125 rfl 6 rfl ?_
                refine hd_aload_n 128 C dX3_house_127 rfl 0 rfl rfl ?_
                refine gm_readRoom 131 C hK dX3_house_128 rfl ?_
                refine hd_iload 133 C dX3_house_131 rfl 6 rfl ?_
                refine alm_readRoom 134 C hK dX3_house_133 rfl (by omega) (nI (dg (E k (i2 + (4 + 5 * d))))) (hK2 d (by omega)).2.1 ?_
                refine asm_roomOf 135 C hK dX3_house_134 rfl (by omega) ?_
                refine hd_aload_n 136 C dX3_house_135 rfl 0 rfl rfl ?_
                refine gm_toOf 139 C hK dX3_house_136 rfl ?_
                refine hd_iload 141 C dX3_house_139 rfl 6 rfl ?_
                refine hd_aload_n 142 C dX3_house_141 rfl 0 rfl rfl ?_
                refine gm_readTo 145 C hK dX3_house_142 rfl ?_
                refine hd_iload 147 C dX3_house_145 rfl 6 rfl ?_
                refine alm_readTo 148 C hK dX3_house_147 rfl (by omega) (nI (dg (E k (i2 + (5 + 5 * d))))) (hK2 d (by omega)).2.2.1 ?_
                refine asm_toOf 149 C hK dX3_house_148 rfl (by omega) ?_
                refine hd_aload_n 150 C dX3_house_149 rfl 0 rfl rfl ?_
                refine gm_stepOf 153 C hK dX3_house_150 rfl ?_
                refine hd_iload 155 C dX3_house_153 rfl 6 rfl ?_
                refine hd_aload_n 156 C dX3_house_155 rfl 0 rfl rfl ?_
                refine gm_readStep 159 C hK dX3_house_156 rfl ?_
                refine hd_iload 161 C dX3_house_159 rfl 6 rfl ?_
                refine alm_readStep 162 C hK dX3_house_161 rfl (by omega) (nI (dg (E k (i2 + (6 + 5 * d))))) (hK2 d (by omega)).2.2.2 ?_
                refine asm_stepOf 163 C hK dX3_house_162 rfl (by omega) ?_
                refine hd_eqS (show (uN (uN (uN (uN (nbd N (dg (E k (i2 + 1))) ((n2 - 2) / 5) (N 0 2) (fun q => E k (i2 + q)) d) 1 d (kdL (E k (i2 + (3 + 5 * d))))) 2 d (dg (E k (i2 + (4 + 5 * d))))) 3 d (dg (E k (i2 + (5 + 5 * d))))) 4 d (dg (E k (i2 + (6 + 5 * d)))), hs Z v3 (nI (dg (E k (i2 + 1)))) (nI ((n2 - 2) / 5)) g1 g2 g3 g4, E, G, T) = (nbd N (dg (E k (i2 + 1))) ((n2 - 2) / 5) (N 0 2) (fun q => E k (i2 + q)) (d + 1), hs Z v3 (nI (dg (E k (i2 + 1)))) (nI ((n2 - 2) / 5)) g1 g2 g3 g4, E, G, T) from by rw [← nbd_s]) ?_
                refine hd_iinc 166 C dX3_house_163 rfl 6 (nI (d + 1)) [(6, .int (nI (d + 1))), (0, .ref (a 0)), (1, .int (nI k)), (2, .int ln), (3, .int (nI i2)), (4, .int (nI n2)), (5, .int 0)] rfl (nI_add _ _) (by decide) rfl ?_
                refine hd_goto 98 C dX3_house_166 (by decide) ?_
                refine hd_sub [(0, .ref (a 0)), (1, .int (nI k)), (2, .int ln), (3, .int (nI i2)), (4, .int (nI n2)), (5, .int 0), (6, .int (nI (d + 1)))] [1, 2, 3, 4, 5, 6, 0] rfl ?_
                exact ih_L (d + 1) (by omega) (by omega)
          refine hd_sub [(0, .ref (a 0)), (1, .int (nI k)), (2, .int ln), (3, .int (nI i2)), (4, .int (nI n2)), (5, .int 0), (6, .int (nI 0))] [2, 3, 4, 5, 6, 1, 0] rfl ?_
          exact L ((n2 - 2) / 5 + 1) 0 (Nat.zero_le _) (by omega)
        · skip
          subst hr; subst hu
          have hffo := RS_ffo hrs
          have hp9 := hrs.1
          refine hd_if_ne 67 79 C dX3_house_64 rfl (by decide) (fun q => absurd rfl q) (fun _ => ?_)
          refine hd_aload_n 68 C dX3_house_67 rfl 1 rfl rfl ?_
          refine hd_bipush 70 C dX3_house_68 rfl (-100) (by decide) ?_
          refine hd_aload_n 71 C dX3_house_70 rfl 1 rfl rfl ?_
          refine gm_readAt 74 C hK dX3_house_71 rfl (nI p9) rfl ?_
          refine hd_isub 75 C dX3_house_74 rfl (-100 - nI p9) rfl ?_
          refine hd_callVI (rest := []) 78 C hK hZ hA ⟨Nat.zero_le _, Nat.zero_le _⟩ dX3_house_75 rfl kc_X3_119 (m_refused (-100 - nI p9)) ⟨rfl, rfl⟩ ⟨by decide, by decide⟩ 0 3 rfl rfl rfl rfl rfl (Nat.le_of_ble_eq_true rfl) (fun r75 u75 h75 => ?_)
          obtain ⟨rfl, rfl⟩ := h75
          exact hd_iret C hK dX3_house_78 ⟨⟨nI p9, v4, v5, g1, g2, g3, g4, by simp [nnHouse, fzHouse, nI_0, h4, hc_k, h22, hf, hc_i2, hc_n2, htx, hffo]⟩, by simp [spHouse, h4, hc_k, h22, hf, hc_i2, hc_n2, htx, hffo]⟩
      · skip
        rw [if_neg hf] at hu39 hr39
        subst hu39; subst hr39
        refine hd_istore 44 C dX3_house_42 rfl [(5, .int (-10 - nI (ftN (Z 2 k) (Z 3 k) ln xi xn))), (0, .ref (a 0)), (1, .int (nI k)), (2, .int ln), (3, .int xi), (4, .int xn)] (by decide) rfl ?_
        refine hd_iload 46 C dX3_house_44 rfl 0 rfl ?_
        refine hd_if_ge 49 52 C dX3_house_46 rfl (by decide) (fun h46 => ?_) (fun h46 => ?_)
        · skip
          exact absurd h46 (neg_fp hft)
        · skip
          refine hd_iload 51 C dX3_house_49 rfl 0 rfl ?_
          exact hd_iret C hK dX3_house_51 ⟨⟨Z 0 3, Z 0 4, Z 0 5, Z 21, Z 22, Z 23, Z 24, by rw [hs_self]; simp [nnHouse, fzHouse, nI_0, h4, hc_k, h22, hf, h46]⟩, by simp [spHouse, h4, hc_k, h22, hf, h46]⟩
    · skip
      rw [inL_k ln 2 3 (by decide)] at h22
      refine hd_aload_n 26 C dX3_house_25 rfl 0 rfl rfl ?_
      refine hd_bipush 28 C dX3_house_26 rfl (-2) (by decide) ?_
      refine hd_callVI (rest := []) 31 C hK hZ hA ⟨Nat.zero_le _, Nat.zero_le _⟩ dX3_house_28 rfl kc_X3_119 (m_refused (-2)) ⟨rfl, rfl⟩ ⟨by decide, by decide⟩ 0 3 rfl rfl rfl rfl rfl (Nat.le_of_ble_eq_true rfl) (fun r28 u28 h28 => ?_)
      obtain ⟨rfl, rfl⟩ := h28
      exact hd_iret C hK dX3_house_31 ⟨⟨Z 0 3, Z 0 4, Z 0 5, Z 21, Z 22, Z 23, Z 24, by rw [hs_self]; simp [nnHouse, fzHouse, nI_0, h4, hc_k, h22]⟩, by simp [spHouse, h4, hc_k, h22]⟩
  · skip
    simp only [Bool.not_eq_true', Bool.not_eq_false'] at h4
    refine hd_aload_n 8 C dX3_house_7 rfl 0 rfl rfl ?_
    refine hd_iconst 9 C dX3_house_8 rfl (-1) (by decide) ?_
    refine hd_callVI (rest := []) 12 C hK hZ hA ⟨Nat.zero_le _, Nat.zero_le _⟩ dX3_house_9 rfl kc_X3_119 (m_refused (-1)) ⟨rfl, rfl⟩ ⟨by decide, by decide⟩ 0 3 rfl rfl rfl rfl rfl (Nat.le_of_ble_eq_true rfl) (fun r9 u9 h9 => ?_)
    obtain ⟨rfl, rfl⟩ := h9
    exact hd_iret C hK dX3_house_12 ⟨⟨Z 0 3, Z 0 4, Z 0 5, Z 21, Z 22, Z 23, Z 24, by rw [hs_self]; simp [nnHouse, fzHouse, nI_0, h4]⟩, by simp [spHouse, h4]⟩

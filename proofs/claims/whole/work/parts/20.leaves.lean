set_option maxHeartbeats 4000000 in
set_option maxRecDepth 100000 in
theorem m_in {l : Launch} {D : va_G} {tys : List (ClassId × FieldType)} {σ : Type} {w : σ → va_W} {S : σ} {t : Option Nat} (v lo hi : Int64)  : ctI l D tys t w yX3_in cX3_in 6 (some .boolean) (rmk 0 0) [.long v, .long lo, .long hi] S (fun (r : Int32) (u : σ) => u = S ∧ r = bI (inL v lo hi)) := by
  refine ctI_of [(0, .long v), (2, .long lo), (4, .long hi)] (by decide) (Nat.le_of_ble_eq_true rfl) rfl ?_
  intro p e s m args below meth c A C hK hZ hA
  refine hd_lload_n 1 C dX3_in_0 rfl 0 rfl rfl ?_
  refine hd_lload_n 2 C dX3_in_1 rfl 1 rfl rfl ?_
  refine hd_lc_lt 6 17 C dX3_in_2 dX3_in_3 rfl (by decide) (fun h2 => ?_) (fun h2 => ?_)
  · skip
    refine hd_iconst 18 C dX3_in_17 rfl (nI 0) (by decide) ?_
    exact hd_zret C hK dX3_in_18 (by decide) ⟨rfl, bI_is0 (decide_eq_false (by simp only [fa_lt64] at *; omega))⟩
  · skip
    refine hd_lload_n 7 C dX3_in_6 rfl 0 rfl rfl ?_
    refine hd_lload 9 C dX3_in_7 rfl 2 rfl ?_
    refine hd_lc_gt 13 17 C dX3_in_9 dX3_in_10 rfl (by decide) (fun h9 => ?_) (fun h9 => ?_)
    · skip
      refine hd_iconst 18 C dX3_in_17 rfl (nI 0) (by decide) ?_
      exact hd_zret C hK dX3_in_18 (by decide) ⟨rfl, bI_is0 (decide_eq_false (by simp only [fa_lt64] at *; omega))⟩
    · skip
      refine hd_iconst 14 C dX3_in_13 rfl (nI 1) (by decide) ?_
      refine hd_goto 18 C dX3_in_14 (by decide) ?_
      exact hd_zret C hK dX3_in_18 (by decide) ⟨rfl, bI_is1 (decide_eq_true (by simp only [fa_lt64] at *; omega))⟩

set_option maxHeartbeats 4000000 in
set_option maxRecDepth 100000 in
theorem m_lost {l : Launch} {D : va_G} {tys : List (ClassId × FieldType)} {σ : Type} {w : σ → va_W} {S : σ} {t : Option Nat}   : ctL l D tys t w yX3_lost cX3_lost 0 (some .long) (rmk 0 0) [] S (fun (r : Int64) (u : σ) => u = S ∧ r = -9223372036854775808) := by
  refine ctL_of [] (by decide) (Nat.le_of_ble_eq_true rfl) rfl ?_
  intro p e s m args below meth c A C hK hZ hA
  refine hd_ldc2 3 C dX3_lost_0 rfl kl_X3_65 ?_
  exact hd_lret C hK dX3_lost_3 ⟨rfl, rfl⟩

set_option maxHeartbeats 4000000 in
set_option maxRecDepth 100000 in
theorem x_isHour {l : Launch} {D : va_G} {tys : List (ClassId × FieldType)} {σ : Type} {w : σ → va_W} {S : σ} {t : Option Nat} (x : Int32)  : ctI l D tys t w yX2_isHour cX2_isHour 1 (some .boolean) (rmk 0 0) [.int x] S (fun (r : Int32) (u : σ) => u = S ∧ r = bI (inB x 12)) := by
  refine ctI_of [(0, .int x)] (by decide) (Nat.le_of_ble_eq_true rfl) rfl ?_
  intro p e s m args below meth c A C hK hZ hA
  refine hd_iload_n 1 C dX2_isHour_0 rfl 0 rfl rfl ?_
  refine hd_if_lt 4 14 C dX2_isHour_1 rfl (by decide) (fun h1 => ?_) (fun h1 => ?_)
  · skip
    refine hd_iconst 15 C dX2_isHour_14 rfl (nI 0) (by decide) ?_
    exact hd_zret C hK dX2_isHour_15 (by decide) ⟨rfl, bI_is0 (inB_neg h1)⟩
  · skip
    refine hd_iload_n 5 C dX2_isHour_4 rfl 0 rfl rfl ?_
    refine hd_bipush 7 C dX2_isHour_5 rfl (nI 12) (by decide) ?_
    refine hd_icmp_ge 10 14 C dX2_isHour_7 rfl (by decide) (fun h7 => ?_) (fun h7 => ?_)
    · skip
      refine hd_iconst 15 C dX2_isHour_14 rfl (nI 0) (by decide) ?_
      exact hd_zret C hK dX2_isHour_15 (by decide) ⟨rfl, bI_is0 (inB_big (by decide) h7)⟩
    · skip
      refine hd_iconst 11 C dX2_isHour_10 rfl (nI 1) (by decide) ?_
      refine hd_goto 15 C dX2_isHour_11 (by decide) ?_
      exact hd_zret C hK dX2_isHour_15 (by decide) ⟨rfl, bI_is1 (inB_ok (by decide) h1 h7)⟩

set_option maxHeartbeats 4000000 in
set_option maxRecDepth 100000 in
theorem x_isSheet {l : Launch} {D : va_G} {tys : List (ClassId × FieldType)} {σ : Type} {w : σ → va_W} {S : σ} {t : Option Nat} (x : Int32)  : ctI l D tys t w yX2_isSheet cX2_isSheet 1 (some .boolean) (rmk 0 0) [.int x] S (fun (r : Int32) (u : σ) => u = S ∧ r = bI (inB x 4)) := by
  refine ctI_of [(0, .int x)] (by decide) (Nat.le_of_ble_eq_true rfl) rfl ?_
  intro p e s m args below meth c A C hK hZ hA
  refine hd_iload_n 1 C dX2_isSheet_0 rfl 0 rfl rfl ?_
  refine hd_if_lt 4 13 C dX2_isSheet_1 rfl (by decide) (fun h1 => ?_) (fun h1 => ?_)
  · skip
    refine hd_iconst 14 C dX2_isSheet_13 rfl (nI 0) (by decide) ?_
    exact hd_zret C hK dX2_isSheet_14 (by decide) ⟨rfl, bI_is0 (inB_neg h1)⟩
  · skip
    refine hd_iload_n 5 C dX2_isSheet_4 rfl 0 rfl rfl ?_
    refine hd_iconst 6 C dX2_isSheet_5 rfl (nI 4) (by decide) ?_
    refine hd_icmp_ge 9 13 C dX2_isSheet_6 rfl (by decide) (fun h6 => ?_) (fun h6 => ?_)
    · skip
      refine hd_iconst 14 C dX2_isSheet_13 rfl (nI 0) (by decide) ?_
      exact hd_zret C hK dX2_isSheet_14 (by decide) ⟨rfl, bI_is0 (inB_big (by decide) h6)⟩
    · skip
      refine hd_iconst 10 C dX2_isSheet_9 rfl (nI 1) (by decide) ?_
      refine hd_goto 14 C dX2_isSheet_10 (by decide) ?_
      exact hd_zret C hK dX2_isSheet_14 (by decide) ⟨rfl, bI_is1 (inB_ok (by decide) h1 h6)⟩

set_option maxHeartbeats 4000000 in
set_option maxRecDepth 100000 in
theorem x_isLane {l : Launch} {D : va_G} {tys : List (ClassId × FieldType)} {σ : Type} {w : σ → va_W} {S : σ} {t : Option Nat} (x : Int32)  : ctI l D tys t w yX2_isLane cX2_isLane 1 (some .boolean) (rmk 0 0) [.int x] S (fun (r : Int32) (u : σ) => u = S ∧ r = bI (inB x 3)) := by
  refine ctI_of [(0, .int x)] (by decide) (Nat.le_of_ble_eq_true rfl) rfl ?_
  intro p e s m args below meth c A C hK hZ hA
  refine hd_iload_n 1 C dX2_isLane_0 rfl 0 rfl rfl ?_
  refine hd_if_lt 4 13 C dX2_isLane_1 rfl (by decide) (fun h1 => ?_) (fun h1 => ?_)
  · skip
    refine hd_iconst 14 C dX2_isLane_13 rfl (nI 0) (by decide) ?_
    exact hd_zret C hK dX2_isLane_14 (by decide) ⟨rfl, bI_is0 (inB_neg h1)⟩
  · skip
    refine hd_iload_n 5 C dX2_isLane_4 rfl 0 rfl rfl ?_
    refine hd_iconst 6 C dX2_isLane_5 rfl (nI 3) (by decide) ?_
    refine hd_icmp_ge 9 13 C dX2_isLane_6 rfl (by decide) (fun h6 => ?_) (fun h6 => ?_)
    · skip
      refine hd_iconst 14 C dX2_isLane_13 rfl (nI 0) (by decide) ?_
      exact hd_zret C hK dX2_isLane_14 (by decide) ⟨rfl, bI_is0 (inB_big (by decide) h6)⟩
    · skip
      refine hd_iconst 10 C dX2_isLane_9 rfl (nI 1) (by decide) ?_
      refine hd_goto 14 C dX2_isLane_10 (by decide) ?_
      exact hd_zret C hK dX2_isLane_14 (by decide) ⟨rfl, bI_is1 (inB_ok (by decide) h1 h6)⟩

set_option maxHeartbeats 4000000 in
set_option maxRecDepth 100000 in
theorem x0_leadsTo {l : Launch} {D : va_G} {tys : List (ClassId × FieldType)} {σ : Type} {w : σ → va_W} {S : σ} {t : Option Nat} {q0 b kd rm to st h Rm : Nat} (he : (w S)[q0]? = some (b, .inr (0, [.int (nI kd), .int (nI rm), .int (nI to), .int (nI st)]))) (hk : kd < 3) (ht : to < 6) (hs : st < 6) (hh : h < 12) (hR : 0 < Rm) (hR6 : Rm ≤ 6) : ctI l D tys t w yX0_leadsTo cX0_leadsTo 4 (some .int) (rmk 0 0) [.ref b, .int (nI h), .int (nI Rm)] S (fun (r : Int32) (u : σ) => u = S ∧ r = oI (ld0 kd to st h Rm)) := by
  refine ctI_of [(0, .ref b), (1, .int (nI h)), (2, .int (nI Rm))] (by decide) (Nat.le_of_ble_eq_true rfl) rfl ?_
  intro p e s m args below meth c A C hK hZ hA
  refine hd_iload_n 1 C dX0_leadsTo_0 rfl 2 rfl rfl ?_
  refine hd_if_gtN 4 7 C dX0_leadsTo_1 rfl (by decide) (by omega) (fun h1 => ?_) (fun h1 => ?_)
  · skip
    refine hd_aload_n 8 C dX0_leadsTo_7 rfl 0 rfl rfl ?_
    refine hd_get (v := .int (nI kd)) 11 C hK dX0_leadsTo_8 rfl q0 he rfl inX0 0 (by decide) kf_X0_9 rfl rfl ?_
    refine hd_iconst 12 C dX0_leadsTo_11 rfl (nI 2) (by decide) ?_
    refine hd_icmp_neN 15 24 C dX0_leadsTo_12 rfl (by decide) (by omega) (by omega) (fun h12 => ?_) (fun h12 => ?_)
    · skip
      refine hd_aload_n 25 C dX0_leadsTo_24 rfl 0 rfl rfl ?_
      refine hd_get (v := .int (nI kd)) 28 C hK dX0_leadsTo_25 rfl q0 he rfl inX0 0 (by decide) kf_X0_9 rfl rfl ?_
      refine hd_if_neN 31 35 C dX0_leadsTo_28 rfl (by decide) (by omega) (fun h28 => ?_) (fun h28 => ?_)
      · skip
        refine hd_iload_n 36 C dX0_leadsTo_35 rfl 1 rfl rfl ?_
        refine hd_bipush 38 C dX0_leadsTo_36 rfl (nI 12) (by decide) ?_
        refine hd_iadd 39 C dX0_leadsTo_38 rfl (nI (h + 12)) (nI_add _ _) ?_
        refine hd_iconst 40 C dX0_leadsTo_39 rfl (nI 1) (by decide) ?_
        refine hd_isub 41 C dX0_leadsTo_40 rfl (nI ((h + 12) - 1)) (pk_sub (by omega)) ?_
        refine hd_bipush 43 C dX0_leadsTo_41 rfl (nI 12) (by decide) ?_
        refine hd_irem 44 C dX0_leadsTo_43 rfl (nI (((h + 12) - 1) % 12)) (nI_ne0 (by omega) (by omega)) (pk_rem (by omega) (by omega) (by omega)) ?_
        refine hd_istore_n 45 C dX0_leadsTo_44 rfl [(3, .int (nI (((h + 12) - 1) % 12))), (0, .ref b), (1, .int (nI h)), (2, .int (nI Rm))] rfl (by decide) rfl ?_
        refine hd_aload_n 46 C dX0_leadsTo_45 rfl 1 rfl rfl ?_
        refine hd_get (v := .int (nI to)) 49 C hK dX0_leadsTo_46 rfl q0 he rfl inX0 2 (by decide) kf_X0_18 rfl rfl ?_
        refine hd_aload_n 50 C dX0_leadsTo_49 rfl 1 rfl rfl ?_
        refine hd_get (v := .int (nI st)) 53 C hK dX0_leadsTo_50 rfl q0 he rfl inX0 3 (by decide) kf_X0_21 rfl rfl ?_
        refine hd_iload_n 54 C dX0_leadsTo_53 rfl 0 rfl rfl ?_
        refine hd_imul 55 C dX0_leadsTo_54 rfl (nI (st * (((h + 12) - 1) % 12))) (pk_mul _ _) ?_
        refine hd_iadd 56 C dX0_leadsTo_55 rfl (nI (to + (st * (((h + 12) - 1) % 12)))) (nI_add _ _) ?_
        refine hd_iload_n 57 C dX0_leadsTo_56 rfl 3 rfl rfl ?_
        have hm := mul_le (Nat.le_of_lt_succ hs) (show ((h + 12) - 1) % 12 ≤ 11 by omega)
        refine hd_irem 58 C dX0_leadsTo_57 rfl (nI ((to + (st * (((h + 12) - 1) % 12))) % Rm)) (nI_ne0 (by omega) (by omega)) (pk_rem (by omega) (by omega) (by omega)) ?_
        exact hd_iret C hK dX0_leadsTo_58 ⟨rfl, by first | (exfalso; omega) | simp [ld0, oI, h1, h12, h28]⟩
      · skip
        refine hd_iload_n 32 C dX0_leadsTo_31 rfl 1 rfl rfl ?_
        refine hd_goto 44 C dX0_leadsTo_32 (by decide) ?_
        refine hd_istore_n 45 C dX0_leadsTo_44 rfl [(3, .int (nI h)), (0, .ref b), (1, .int (nI h)), (2, .int (nI Rm))] rfl (by decide) rfl ?_
        refine hd_aload_n 46 C dX0_leadsTo_45 rfl 1 rfl rfl ?_
        refine hd_get (v := .int (nI to)) 49 C hK dX0_leadsTo_46 rfl q0 he rfl inX0 2 (by decide) kf_X0_18 rfl rfl ?_
        refine hd_aload_n 50 C dX0_leadsTo_49 rfl 1 rfl rfl ?_
        refine hd_get (v := .int (nI st)) 53 C hK dX0_leadsTo_50 rfl q0 he rfl inX0 3 (by decide) kf_X0_21 rfl rfl ?_
        refine hd_iload_n 54 C dX0_leadsTo_53 rfl 0 rfl rfl ?_
        refine hd_imul 55 C dX0_leadsTo_54 rfl (nI (st * h)) (pk_mul _ _) ?_
        refine hd_iadd 56 C dX0_leadsTo_55 rfl (nI (to + (st * h))) (nI_add _ _) ?_
        refine hd_iload_n 57 C dX0_leadsTo_56 rfl 3 rfl rfl ?_
        have hm := mul_le (Nat.le_of_lt_succ hs) (show h ≤ 11 by omega)
        refine hd_irem 58 C dX0_leadsTo_57 rfl (nI ((to + (st * h)) % Rm)) (nI_ne0 (by omega) (by omega)) (pk_rem (by omega) (by omega) (by omega)) ?_
        exact hd_iret C hK dX0_leadsTo_58 ⟨rfl, by first | (exfalso; omega) | simp [ld0, oI, h1, h12, h28]⟩
    · skip
      refine hd_iload_n 16 C dX0_leadsTo_15 rfl 1 rfl rfl ?_
      refine hd_iconst 17 C dX0_leadsTo_16 rfl (nI 3) (by decide) ?_
      refine hd_irem 18 C dX0_leadsTo_17 rfl (nI (h % 3)) (nI_ne0 (by omega) (by omega)) (pk_rem (by omega) (by omega) (by omega)) ?_
      refine hd_if_eqN 21 24 C dX0_leadsTo_18 rfl (by decide) (by omega) (fun h18 => ?_) (fun h18 => ?_)
      · skip
        refine hd_aload_n 25 C dX0_leadsTo_24 rfl 0 rfl rfl ?_
        refine hd_get (v := .int (nI kd)) 28 C hK dX0_leadsTo_25 rfl q0 he rfl inX0 0 (by decide) kf_X0_9 rfl rfl ?_
        refine hd_if_neN 31 35 C dX0_leadsTo_28 rfl (by decide) (by omega) (fun h28 => ?_) (fun h28 => ?_)
        · skip
          refine hd_iload_n 36 C dX0_leadsTo_35 rfl 1 rfl rfl ?_
          refine hd_bipush 38 C dX0_leadsTo_36 rfl (nI 12) (by decide) ?_
          refine hd_iadd 39 C dX0_leadsTo_38 rfl (nI (h + 12)) (nI_add _ _) ?_
          refine hd_iconst 40 C dX0_leadsTo_39 rfl (nI 1) (by decide) ?_
          refine hd_isub 41 C dX0_leadsTo_40 rfl (nI ((h + 12) - 1)) (pk_sub (by omega)) ?_
          refine hd_bipush 43 C dX0_leadsTo_41 rfl (nI 12) (by decide) ?_
          refine hd_irem 44 C dX0_leadsTo_43 rfl (nI (((h + 12) - 1) % 12)) (nI_ne0 (by omega) (by omega)) (pk_rem (by omega) (by omega) (by omega)) ?_
          refine hd_istore_n 45 C dX0_leadsTo_44 rfl [(3, .int (nI (((h + 12) - 1) % 12))), (0, .ref b), (1, .int (nI h)), (2, .int (nI Rm))] rfl (by decide) rfl ?_
          refine hd_aload_n 46 C dX0_leadsTo_45 rfl 1 rfl rfl ?_
          refine hd_get (v := .int (nI to)) 49 C hK dX0_leadsTo_46 rfl q0 he rfl inX0 2 (by decide) kf_X0_18 rfl rfl ?_
          refine hd_aload_n 50 C dX0_leadsTo_49 rfl 1 rfl rfl ?_
          refine hd_get (v := .int (nI st)) 53 C hK dX0_leadsTo_50 rfl q0 he rfl inX0 3 (by decide) kf_X0_21 rfl rfl ?_
          refine hd_iload_n 54 C dX0_leadsTo_53 rfl 0 rfl rfl ?_
          refine hd_imul 55 C dX0_leadsTo_54 rfl (nI (st * (((h + 12) - 1) % 12))) (pk_mul _ _) ?_
          refine hd_iadd 56 C dX0_leadsTo_55 rfl (nI (to + (st * (((h + 12) - 1) % 12)))) (nI_add _ _) ?_
          refine hd_iload_n 57 C dX0_leadsTo_56 rfl 3 rfl rfl ?_
          have hm := mul_le (Nat.le_of_lt_succ hs) (show ((h + 12) - 1) % 12 ≤ 11 by omega)
          refine hd_irem 58 C dX0_leadsTo_57 rfl (nI ((to + (st * (((h + 12) - 1) % 12))) % Rm)) (nI_ne0 (by omega) (by omega)) (pk_rem (by omega) (by omega) (by omega)) ?_
          exact hd_iret C hK dX0_leadsTo_58 ⟨rfl, by first | (exfalso; omega) | simp [ld0, oI, h1, h12, h18, h28]⟩
        · skip
          refine hd_iload_n 32 C dX0_leadsTo_31 rfl 1 rfl rfl ?_
          refine hd_goto 44 C dX0_leadsTo_32 (by decide) ?_
          refine hd_istore_n 45 C dX0_leadsTo_44 rfl [(3, .int (nI h)), (0, .ref b), (1, .int (nI h)), (2, .int (nI Rm))] rfl (by decide) rfl ?_
          refine hd_aload_n 46 C dX0_leadsTo_45 rfl 1 rfl rfl ?_
          refine hd_get (v := .int (nI to)) 49 C hK dX0_leadsTo_46 rfl q0 he rfl inX0 2 (by decide) kf_X0_18 rfl rfl ?_
          refine hd_aload_n 50 C dX0_leadsTo_49 rfl 1 rfl rfl ?_
          refine hd_get (v := .int (nI st)) 53 C hK dX0_leadsTo_50 rfl q0 he rfl inX0 3 (by decide) kf_X0_21 rfl rfl ?_
          refine hd_iload_n 54 C dX0_leadsTo_53 rfl 0 rfl rfl ?_
          refine hd_imul 55 C dX0_leadsTo_54 rfl (nI (st * h)) (pk_mul _ _) ?_
          refine hd_iadd 56 C dX0_leadsTo_55 rfl (nI (to + (st * h))) (nI_add _ _) ?_
          refine hd_iload_n 57 C dX0_leadsTo_56 rfl 3 rfl rfl ?_
          have hm := mul_le (Nat.le_of_lt_succ hs) (show h ≤ 11 by omega)
          refine hd_irem 58 C dX0_leadsTo_57 rfl (nI ((to + (st * h)) % Rm)) (nI_ne0 (by omega) (by omega)) (pk_rem (by omega) (by omega) (by omega)) ?_
          exact hd_iret C hK dX0_leadsTo_58 ⟨rfl, by first | (exfalso; omega) | simp [ld0, oI, h1, h12, h18, h28]⟩
      · skip
        refine hd_bipush 23 C dX0_leadsTo_21 rfl (-9) (by decide) ?_
        exact hd_iret C hK dX0_leadsTo_23 ⟨rfl, by first | (exfalso; omega) | simp [ld0, oI, h1, h12, h18]⟩
  · skip
    omega

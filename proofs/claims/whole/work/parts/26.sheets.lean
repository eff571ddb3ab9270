set_option maxHeartbeats 4000000 in
set_option maxRecDepth 100000 in
theorem xs_hasNothing {l : Launch} {D : va_G} {tys : List (ClassId × FieldType)} {σ : Type} {w : σ → va_W} {S : σ} {t : Option Nat} {q0 b cb : Nat} {ln sz : Int32} (he : (w S)[q0]? = some (b, .inr (1, [.ref cb, .int ln, .int sz])))  : ctI l D tys t w yX1_hasNothing cX1_hasNothing 1 (some .boolean) (rmk 0 0) [.ref b] S (fun (r : Int32) (u : σ) => u = S ∧ r = bI (decide (sz = -1))) := by
  refine ctI_of [(0, .ref b)] (by decide) (Nat.le_of_ble_eq_true rfl) rfl ?_
  intro p e s m args below meth c A C hK hZ hA
  refine hd_aload_n 1 C dX1_hasNothing_0 rfl 0 rfl rfl ?_
  refine hd_get (v := .int sz) 4 C hK dX1_hasNothing_1 rfl q0 he rfl inX1 2 (by decide) kf_X1_15 rfl rfl ?_
  refine hd_iconst 5 C dX1_hasNothing_4 rfl (-1) (by decide) ?_
  refine hd_icmp_ne 8 12 C dX1_hasNothing_5 rfl (by decide) (fun h5 => ?_) (fun h5 => ?_)
  · skip
    refine hd_iconst 13 C dX1_hasNothing_12 rfl (nI 0) (by decide) ?_
    exact hd_zret C hK dX1_hasNothing_13 (by decide) ⟨rfl, bI_is0 (decide_eq_false h5)⟩
  · skip
    refine hd_iconst 9 C dX1_hasNothing_8 rfl (nI 1) (by decide) ?_
    refine hd_goto 13 C dX1_hasNothing_9 (by decide) ?_
    exact hd_zret C hK dX1_hasNothing_13 (by decide) ⟨rfl, bI_is1 (decide_eq_true h5)⟩

set_option maxHeartbeats 4000000 in
set_option maxRecDepth 100000 in
theorem xs_hasCells {l : Launch} {D : va_G} {tys : List (ClassId × FieldType)} {σ : Type} {w : σ → va_W} {S : σ} {t : Option Nat} {q0 b cb : Nat} {ln sz : Int32} (he : (w S)[q0]? = some (b, .inr (1, [.ref cb, .int ln, .int sz]))) (i n : Int32) (hz : szOK sz)  : ctI l D tys t w yX1_hasCells cX1_hasCells 3 (some .boolean) (rmk 0 0) [.ref b, .int i, .int n] S (fun (r : Int32) (u : σ) => u = S ∧ r = bI (okC sz i n)) := by
  refine ctI_of [(0, .ref b), (1, .int i), (2, .int n)] (by decide) (Nat.le_of_ble_eq_true rfl) rfl ?_
  intro p e s m args below meth c A C hK hZ hA
  refine hd_iload_n 1 C dX1_hasCells_0 rfl 1 rfl rfl ?_
  refine hd_if_lt 4 30 C dX1_hasCells_1 rfl (by decide) (fun h1 => ?_) (fun h1 => ?_)
  · skip
    refine hd_iconst 31 C dX1_hasCells_30 rfl (nI 0) (by decide) ?_
    exact hd_zret C hK dX1_hasCells_31 (by decide) ⟨rfl, bI_is0 (okC_f1 h1)⟩
  · skip
    refine hd_iload_n 5 C dX1_hasCells_4 rfl 1 rfl rfl ?_
    refine hd_aload_n 6 C dX1_hasCells_5 rfl 0 rfl rfl ?_
    refine hd_get (v := .int sz) 9 C hK dX1_hasCells_6 rfl q0 he rfl inX1 2 (by decide) kf_X1_15 rfl rfl ?_
    refine hd_icmp_gt 12 30 C dX1_hasCells_9 rfl (by decide) (fun h9 => ?_) (fun h9 => ?_)
    · skip
      refine hd_iconst 31 C dX1_hasCells_30 rfl (nI 0) (by decide) ?_
      exact hd_zret C hK dX1_hasCells_31 (by decide) ⟨rfl, bI_is0 (okC_f2 h9)⟩
    · skip
      refine hd_iload_n 13 C dX1_hasCells_12 rfl 2 rfl rfl ?_
      refine hd_if_lt 16 30 C dX1_hasCells_13 rfl (by decide) (fun h13 => ?_) (fun h13 => ?_)
      · skip
        refine hd_iconst 31 C dX1_hasCells_30 rfl (nI 0) (by decide) ?_
        exact hd_zret C hK dX1_hasCells_31 (by decide) ⟨rfl, bI_is0 (okC_f3 h13)⟩
      · skip
        refine hd_iload_n 17 C dX1_hasCells_16 rfl 2 rfl rfl ?_
        refine hd_aload_n 18 C dX1_hasCells_17 rfl 0 rfl rfl ?_
        refine hd_get (v := .int sz) 21 C hK dX1_hasCells_18 rfl q0 he rfl inX1 2 (by decide) kf_X1_15 rfl rfl ?_
        refine hd_iload_n 22 C dX1_hasCells_21 rfl 1 rfl rfl ?_
        refine hd_isub 23 C dX1_hasCells_22 rfl (sz - i) rfl ?_
        refine hd_icmp_gt 26 30 C dX1_hasCells_23 rfl (by decide) (fun h23 => ?_) (fun h23 => ?_)
        · skip
          refine hd_iconst 31 C dX1_hasCells_30 rfl (nI 0) (by decide) ?_
          exact hd_zret C hK dX1_hasCells_31 (by decide) ⟨rfl, bI_is0 (okC_f4 hz h1 h9 h23)⟩
        · skip
          refine hd_iconst 27 C dX1_hasCells_26 rfl (nI 1) (by decide) ?_
          refine hd_goto 31 C dX1_hasCells_27 (by decide) ?_
          exact hd_zret C hK dX1_hasCells_31 (by decide) ⟨rfl, bI_is1 (okC_t hz h1 h9 h13 h23)⟩

set_option maxHeartbeats 4000000 in
set_option maxRecDepth 100000 in
theorem xs_faultOfTaking {l : Launch} {D : va_G} {tys : List (ClassId × FieldType)} {σ : Type} {w : σ → va_W} {S : σ} {t : Option Nat} {q0 b cb : Nat} {ln sz : Int32} (he : (w S)[q0]? = some (b, .inr (1, [.ref cb, .int ln, .int sz]))) (lane i n : Int32) (hz : szOK sz)  : ctI l D tys t w yX1_faultOfTaking cX1_faultOfTaking 4 (some .int) (rmk 1 22) [.ref b, .int lane, .int i, .int n] S (fun (r : Int32) (u : σ) => u = S ∧ r = nI (ftN sz ln lane i n)) := by
  refine ctI_of [(0, .ref b), (1, .int lane), (2, .int i), (3, .int n)] (by decide) (Nat.le_of_ble_eq_true rfl) rfl ?_
  intro p e s m args below meth c A C hK hZ hA
  refine hd_aload_n 1 C dX1_faultOfTaking_0 rfl 0 rfl rfl ?_
  refine hd_callVI (rest := []) 4 C hK hZ hA ⟨Nat.zero_le _, Nat.zero_le _⟩ dX1_faultOfTaking_1 rfl kc_X1_28 (xs_hasNothing he) ⟨rfl, rfl⟩ ⟨by decide, by decide⟩ q0 1 he rfl rfl rfl rfl (Nat.le_of_ble_eq_true rfl) (fun r1 u1 h1 => ?_)
  obtain ⟨rfl, rfl⟩ := h1
  refine hd_if_eqB 7 9 C dX1_faultOfTaking_4 rfl (by decide) (fun h4 => ?_) (fun h4 => ?_)
  · skip
    have h4 := of_decide_eq_false h4
    refine hd_aload_n 10 C dX1_faultOfTaking_9 rfl 0 rfl rfl ?_
    refine hd_get (v := .int ln) 13 C hK dX1_faultOfTaking_10 rfl q0 he rfl inX1 1 (by decide) kf_X1_25 rfl rfl ?_
    refine hd_iload_n 14 C dX1_faultOfTaking_13 rfl 1 rfl rfl ?_
    refine hd_icmp_eq 17 19 C dX1_faultOfTaking_14 rfl (by decide) (fun h14 => ?_) (fun h14 => ?_)
    · skip
      refine hd_iload_n 20 C dX1_faultOfTaking_19 rfl 3 rfl rfl ?_
      refine hd_if_ge 23 25 C dX1_faultOfTaking_20 rfl (by decide) (fun h20 => ?_) (fun h20 => ?_)
      · skip
        have h20 : ¬ n < 0 := fun q => by rw [fa_lt] at q; rw [fa_le] at h20; omega
        refine hd_aload_n 26 C dX1_faultOfTaking_25 rfl 0 rfl rfl ?_
        refine hd_iload_n 27 C dX1_faultOfTaking_26 rfl 2 rfl rfl ?_
        refine hd_iload_n 28 C dX1_faultOfTaking_27 rfl 3 rfl rfl ?_
        refine hd_callVI (rest := []) 31 C hK hZ hA ⟨Nat.zero_le _, Nat.zero_le _⟩ dX1_faultOfTaking_28 rfl kc_X1_32 (xs_hasCells he i n hz) ⟨rfl, rfl⟩ ⟨by decide, by decide⟩ q0 1 he rfl rfl rfl rfl (Nat.le_of_ble_eq_true rfl) (fun r28 u28 h28 => ?_)
        obtain ⟨rfl, rfl⟩ := h28
        refine hd_if_eqB 34 38 C dX1_faultOfTaking_31 rfl (by decide) (fun h31 => ?_) (fun h31 => ?_)
        · skip
          refine hd_iconst 39 C dX1_faultOfTaking_38 rfl (nI 3) (by decide) ?_
          exact hd_iret C hK dX1_faultOfTaking_39 ⟨rfl, by simp [ftN, h4, h14, h20, h31]⟩
        · skip
          refine hd_iconst 35 C dX1_faultOfTaking_34 rfl (nI 0) (by decide) ?_
          refine hd_goto 39 C dX1_faultOfTaking_35 (by decide) ?_
          exact hd_iret C hK dX1_faultOfTaking_39 ⟨rfl, by simp [ftN, h4, h14, h20, h31]⟩
      · skip
        have h20 : n < 0 := by rw [fa_lt]; rw [fa_le] at h20; omega
        refine hd_iconst 24 C dX1_faultOfTaking_23 rfl (nI 4) (by decide) ?_
        exact hd_iret C hK dX1_faultOfTaking_24 ⟨rfl, by simp [ftN, h4, h14, h20]⟩
    · skip
      refine hd_iconst 18 C dX1_faultOfTaking_17 rfl (nI 2) (by decide) ?_
      exact hd_iret C hK dX1_faultOfTaking_18 ⟨rfl, by simp [ftN, h4, h14]⟩
  · skip
    have h4 := of_decide_eq_true h4
    refine hd_iconst 8 C dX1_faultOfTaking_7 rfl (nI 1) (by decide) ?_
    exact hd_iret C hK dX1_faultOfTaking_8 ⟨rfl, by simp [ftN, h4]⟩

theorem x_hasNothing {l : Launch} {D : va_G} {cI cJ cD cS : ClassId} {a : Nat → Nat} {N : Nat → Nat → Nat} {Z : Nat → Nat → Int32} {E : Nat → Nat → Int32} {G : Nat → Nat → Int64} {T : Nat → Nat} {t : Option Nat} (k : Nat) (hk : k < 4) (sz : Int32) (hs : Z 2 k = sz) : ctI l D (ty4 cI cJ cD cS) t (wX cI cJ cD cS a) yX1_hasNothing cX1_hasNothing 1 (some .boolean) (rmk 0 0) [.ref (a (30 + k))] (N, Z, E, G, T) (fun (r : Int32) (u : sT) => u = (N, Z, E, G, T) ∧ r = bI (decide (sz = -1))) := by
  subst hs;  exact xs_hasNothing (wX_sheet k hk)

theorem x_hasCells {l : Launch} {D : va_G} {cI cJ cD cS : ClassId} {a : Nat → Nat} {N : Nat → Nat → Nat} {Z : Nat → Nat → Int32} {E : Nat → Nat → Int32} {G : Nat → Nat → Int64} {T : Nat → Nat} {t : Option Nat} (k : Nat) (hk : k < 4) (i n sz : Int32) (hs : Z 2 k = sz) (hz : szOK sz) : ctI l D (ty4 cI cJ cD cS) t (wX cI cJ cD cS a) yX1_hasCells cX1_hasCells 3 (some .boolean) (rmk 0 0) [.ref (a (30 + k)), .int i, .int n] (N, Z, E, G, T) (fun (r : Int32) (u : sT) => u = (N, Z, E, G, T) ∧ r = bI (okC sz i n)) := by
  subst hs;  exact xs_hasCells (wX_sheet k hk) i n hz

theorem x_faultOfTaking {l : Launch} {D : va_G} {cI cJ cD cS : ClassId} {a : Nat → Nat} {N : Nat → Nat → Nat} {Z : Nat → Nat → Int32} {E : Nat → Nat → Int32} {G : Nat → Nat → Int64} {T : Nat → Nat} {t : Option Nat} (k : Nat) (hk : k < 4) (lane i n sz ln : Int32) (hs : Z 2 k = sz) (hl : Z 3 k = ln) (hz : szOK sz) : ctI l D (ty4 cI cJ cD cS) t (wX cI cJ cD cS a) yX1_faultOfTaking cX1_faultOfTaking 4 (some .int) (rmk 1 22) [.ref (a (30 + k)), .int lane, .int i, .int n] (N, Z, E, G, T) (fun (r : Int32) (u : sT) => u = (N, Z, E, G, T) ∧ r = nI (ftN sz ln lane i n)) := by
  subst hs; subst hl; exact xs_faultOfTaking (wX_sheet k hk) lane i n hz

set_option maxHeartbeats 4000000 in
set_option maxRecDepth 100000 in
theorem x_empty {l : Launch} {D : va_G} {cI cJ cD cS : ClassId} {a : Nat → Nat} {N : Nat → Nat → Nat} {Z : Nat → Nat → Int32} {E : Nat → Nat → Int32} {G : Nat → Nat → Int64} {T : Nat → Nat} {t : Option Nat} (k : Nat) (hk : k < 4)  : ctV l D (ty4 cI cJ cD cS) t (wX cI cJ cD cS a) yX1_empty cX1_empty 1 none (rmk 0 0) [.ref (a (30 + k))] (N, Z, E, G, T) (fun (u : sT) => u = (N, uZ Z 2 k (-1), E, G, T)) := by
  refine ctV_of [(0, .ref (a (30 + k)))] (by decide) (Nat.le_of_ble_eq_true rfl) rfl ?_
  intro p e s m args below meth c A C hK hZ hA
  refine hd_aload_n 1 C dX1_empty_0 rfl 0 rfl rfl ?_
  refine hd_iconst 2 C dX1_empty_1 rfl (-1) (by decide) ?_
  refine ps1_size (by omega) 5 C hK dX1_empty_2 rfl ?_
  exact hd_vret C hK dX1_empty_5 rfl

set_option maxHeartbeats 4000000 in
set_option maxRecDepth 100000 in
theorem x_lose {l : Launch} {D : va_G} {cI cJ cD cS : ClassId} {a : Nat → Nat} {N : Nat → Nat → Nat} {Z : Nat → Nat → Int32} {E : Nat → Nat → Int32} {G : Nat → Nat → Int64} {T : Nat → Nat} {t : Option Nat} (xk : Int32) (hz : ∀ k, k < 4 → szOK (Z 2 k))  : ctI l D (ty4 cI cJ cD cS) t (wX cI cJ cD cS a) yX2_lose cX2_lose 2 (some .int) (rmk 1 20) [.ref (a 0), .int xk] (N, Z, E, G, T) (fun (r : Int32) (u : sT) => u = (N, nzLose Z xk, E, G, T) ∧ r = spLose Z xk) := by
  refine ctI_of [(0, .ref (a 0)), (1, .int xk)] (by decide) (Nat.le_of_ble_eq_true rfl) rfl ?_
  intro p e s m args below meth c A C hK hZ hA
  refine hd_iload_n 1 C dX2_lose_0 rfl 1 rfl rfl ?_
  refine hd_callSI (rest := []) 4 C hK hZ hA ⟨Nat.zero_le _, Nat.zero_le _⟩ dX2_lose_1 rfl kc_X2_53 (x_isSheet xk) ⟨rfl, rfl⟩ ⟨by decide, by decide⟩ rfl rfl (Nat.le_of_ble_eq_true rfl) (fun r1 u1 h1 => ?_)
  obtain ⟨rfl, rfl⟩ := h1
  refine hd_if_neB 7 9 C dX2_lose_4 rfl (by decide) (fun h4 => ?_) (fun h4 => ?_)
  · skip
    obtain ⟨k, hj_k, rfl⟩ := inB_t h4 (by decide)
    have hc_k : (nI k).toNatClampNeg = k := nI_clamp (by omega)
    refine hd_aload_n 10 C dX2_lose_9 rfl 0 rfl rfl ?_
    refine gx_sheets 13 C hK dX2_lose_10 rfl ?_
    refine hd_iload_n 14 C dX2_lose_13 rfl 1 rfl rfl ?_
    refine alx_sheets 15 C hK dX2_lose_14 rfl (by omega) ?_
    refine hd_callVI (rest := []) 18 C hK hZ hA ⟨Nat.zero_le _, Nat.zero_le _⟩ dX2_lose_15 rfl kc_X2_155 (x_hasNothing k (by omega) (Z 2 k) rfl) ⟨rfl, rfl⟩ ⟨by decide, by decide⟩ (18 + k) 1 (wX_sheet _ (by omega)) rfl rfl rfl rfl (Nat.le_of_ble_eq_true rfl) (fun r15 u15 h15 => ?_)
    obtain ⟨rfl, rfl⟩ := h15
    refine hd_if_eqB 21 23 C dX2_lose_18 rfl (by decide) (fun h18 => ?_) (fun h18 => ?_)
    · skip
      have h18 := of_decide_eq_false h18
      refine hd_aload_n 24 C dX2_lose_23 rfl 0 rfl rfl ?_
      refine gx_sheets 27 C hK dX2_lose_24 rfl ?_
      refine hd_iload_n 28 C dX2_lose_27 rfl 1 rfl rfl ?_
      refine alx_sheets 29 C hK dX2_lose_28 rfl (by omega) ?_
      refine hd_callVV (rest := []) 32 C hK hZ hA ⟨Nat.zero_le _, Nat.zero_le _⟩ dX2_lose_29 rfl kc_X2_159 (x_empty k (by omega)) ⟨rfl, rfl⟩ ⟨by decide, by decide⟩ (18 + k) 1 (wX_sheet _ (by omega)) rfl rfl rfl rfl (Nat.le_of_ble_eq_true rfl) (fun u29 h29 => ?_)
      subst h29
      refine hd_iconst 33 C dX2_lose_32 rfl (nI 1) (by decide) ?_
      exact hd_iret C hK dX2_lose_33 ⟨by simp [nzLose, h4, hc_k]; try rw [← h18, uZ_self], by simp [spLose, h4, hc_k, h18]; try rfl⟩
    · skip
      have h18 := of_decide_eq_true h18
      refine hd_iconst 22 C dX2_lose_21 rfl (nI 0) (by decide) ?_
      exact hd_iret C hK dX2_lose_22 ⟨by simp [nzLose, h4, hc_k]; try rw [← h18, uZ_self], by simp [spLose, h4, hc_k, h18]; try rfl⟩
  · skip
    refine hd_iconst 8 C dX2_lose_7 rfl (-1) (by decide) ?_
    exact hd_iret C hK dX2_lose_8 ⟨by simp [nzLose, h4]; try rw [← h18, uZ_self], by simp [spLose, h4]; try rfl⟩

set_option maxHeartbeats 4000000 in
set_option maxRecDepth 100000 in
theorem m_lose {l : Launch} {D : va_G} {cI cJ cD cS : ClassId} {a : Nat → Nat} {N : Nat → Nat → Nat} {Z : Nat → Nat → Int32} {E : Nat → Nat → Int32} {G : Nat → Nat → Int64} {T : Nat → Nat} (xk : Int32) (hz : ∀ k, k < 4 → szOK (Z 2 k))  : ctI l D (ty4 cI cJ cD cS) none (wM cI a) yX3_lose cX3_lose 3 (some .int) (rmk 2 45) [.ref (a 0), .int xk] (N, Z, E, G, T) (fun (r : Int32) (u : sT) => u = (N, nzLose Z xk, E, G, T) ∧ r = spLose Z xk) := by
  refine ctI_of [(0, .ref (a 0)), (1, .int xk)] (by decide) (Nat.le_of_ble_eq_true rfl) rfl ?_
  intro p e s m args below meth c A C hK hZ hA
  refine hd_iload_n 1 C dX3_lose_0 rfl 1 rfl rfl ?_
  refine hd_callSI (rest := []) 4 C hK hZ hA ⟨Nat.zero_le _, Nat.zero_le _⟩ dX3_lose_1 rfl kc_X3_115 (m_noSheet xk) ⟨rfl, rfl⟩ ⟨by decide, by decide⟩ rfl rfl (Nat.le_of_ble_eq_true rfl) (fun r1 u1 h1 => ?_)
  obtain ⟨rfl, rfl⟩ := h1
  refine hd_if_eqB 7 9 C dX3_lose_4 rfl (by decide) (fun h4 => ?_) (fun h4 => ?_)
  · skip
    simp only [Bool.not_eq_true', Bool.not_eq_false'] at h4
    obtain ⟨k, hj_k, rfl⟩ := inB_t h4 (by decide)
    have hc_k : (nI k).toNatClampNeg = k := nI_clamp (by omega)
    refine hd_aload_n 10 C dX3_lose_9 rfl 0 rfl rfl ?_
    refine gm_sheetSize 13 C hK dX3_lose_10 rfl ?_
    refine hd_iload_n 14 C dX3_lose_13 rfl 1 rfl rfl ?_
    refine alm_sheetSize 15 C hK dX3_lose_14 rfl (by omega) (Z 2 k) rfl ?_
    refine hd_if_ge 18 22 C dX3_lose_15 rfl (by decide) (fun h15 => ?_) (fun h15 => ?_)
    · skip
      have h15 : ¬ Z 2 k = -1 := fun q => by rw [q] at h15; revert h15; decide
      refine hd_iconst 23 C dX3_lose_22 rfl (nI 1) (by decide) ?_
      refine hd_istore_n 24 C dX3_lose_23 rfl [(2, .int (nI 1)), (0, .ref (a 0)), (1, .int (nI k))] rfl (by decide) rfl ?_
      refine hd_aload_n 25 C dX3_lose_24 rfl 1 rfl rfl ?_
      refine gm_sheetSize 28 C hK dX3_lose_25 rfl ?_
      refine hd_iload_n 29 C dX3_lose_28 rfl 2 rfl rfl ?_
      refine hd_iconst 30 C dX3_lose_29 rfl (-1) (by decide) ?_
      refine asm_sheetSize 31 C hK dX3_lose_30 rfl (by omega) ?_
      refine hd_iload_n 32 C dX3_lose_31 rfl 0 rfl rfl ?_
      exact hd_iret C hK dX3_lose_32 ⟨by simp [nzLose, h4, hc_k, h15], by simp [spLose, h4, hc_k, h15]; try rfl⟩
    · skip
      have h15 : Z 2 k = -1 := (szOK_neg (hz k (by omega))).mp (by rw [fa_lt]; rw [fa_le] at h15; omega)
      refine hd_iconst 19 C dX3_lose_18 rfl (nI 0) (by decide) ?_
      refine hd_goto 23 C dX3_lose_19 (by decide) ?_
      refine hd_istore_n 24 C dX3_lose_23 rfl [(2, .int (nI 0)), (0, .ref (a 0)), (1, .int (nI k))] rfl (by decide) rfl ?_
      refine hd_aload_n 25 C dX3_lose_24 rfl 1 rfl rfl ?_
      refine gm_sheetSize 28 C hK dX3_lose_25 rfl ?_
      refine hd_iload_n 29 C dX3_lose_28 rfl 2 rfl rfl ?_
      refine hd_iconst 30 C dX3_lose_29 rfl (-1) (by decide) ?_
      refine asm_sheetSize 31 C hK dX3_lose_30 rfl (by omega) ?_
      refine hd_iload_n 32 C dX3_lose_31 rfl 0 rfl rfl ?_
      exact hd_iret C hK dX3_lose_32 ⟨by simp [nzLose, h4, hc_k, h15], by simp [spLose, h4, hc_k, h15]; try rfl⟩
  · skip
    simp only [Bool.not_eq_true', Bool.not_eq_false'] at h4
    refine hd_iconst 8 C dX3_lose_7 rfl (-1) (by decide) ?_
    exact hd_iret C hK dX3_lose_8 ⟨by simp [nzLose, h4], by simp [spLose, h4]; try rfl⟩

set_option maxHeartbeats 4000000 in
set_option maxRecDepth 100000 in
theorem x_fill {l : Launch} {D : va_G} {cI cJ cD cS : ClassId} {a : Nat → Nat} {N : Nat → Nat → Nat} {Z : Nat → Nat → Int32} {E : Nat → Nat → Int32} {G : Nat → Nat → Int64} {T : Nat → Nat} {t : Option Nat} (i : Nat) (v : Int32) (hi : i < 4)  : ctV l D (ty4 cI cJ cD cS) t (wX cI cJ cD cS a) yJ7_fill_53178 cJ7_fill_53178 4 none (rmk 0 0) [.ref (a (40 + i)), .int v] (N, Z, E, G, T) (fun (u : sT) => u = (N, Z, rZ E i (fun j => if j < 60 then v else E i j), G, T)) := by
  refine ctV_of [(0, .ref (a (40 + i))), (1, .int v)] (by decide) (Nat.le_of_ble_eq_true rfl) rfl ?_
  intro p e s m args below meth c A C hK hZ hA
  refine hd_iconst 1 C dJ7_fill_53178_0 rfl (nI 0) (by decide) ?_
  refine hd_istore_n 2 C dJ7_fill_53178_1 rfl [(2, .int (nI 0)), (0, .ref (a (40 + i))), (1, .int v)] rfl (by decide) rfl ?_
  refine hd_aload_n 3 C dJ7_fill_53178_2 rfl 1 rfl rfl ?_
  refine hd_alen 4 C hK dJ7_fill_53178_3 rfl (22 + i) 0 (wX_cells i hi) rfl (nI 60) rfl ?_
  refine hd_istore_n 5 C dJ7_fill_53178_4 rfl [(3, .int (nI 60)), (2, .int (nI 0)), (0, .ref (a (40 + i))), (1, .int v)] rfl (by decide) rfl ?_
  refine hd_eqS (show (N, Z, E, G, T) = (N, Z, rZ E i (fun j => if j < 0 then v else E i j), G, T) from by rw [fl_0, rZ_self]) ?_
  have L : ∀ (fuel : Nat) (q : Nat) (hq : q ≤ 60), 60 - q < fuel → XW p l e (rmk 0 0) s m args below meth c 4 0 0 A D (MQ below (va_Qv (fun (u : sT) => u = (N, Z, rZ E i (fun j => if j < 60 then v else E i j), G, T)) (cB D (ty4 cI cJ cD cS) (wX cI cJ cD cS a) A) A) args s 0 0 A) (wX cI cJ cD cS a) (N, Z, rZ E i (fun j => if j < q then v else E i j), G, T) 5 [(0, .ref (a (40 + i))), (1, .int v), (2, .int (nI q)), (3, .int (nI 60))] [] := by
    intro fuel
    induction fuel with
    | zero => intro q hq hfu; exact absurd hfu (Nat.not_lt_zero _)
    | succ fuel ih_L =>
      intro q hq hfu_L
      refine hd_iload_n 6 C dJ7_fill_53178_5 rfl 2 rfl rfl ?_
      refine hd_iload_n 7 C dJ7_fill_53178_6 rfl 3 rfl rfl ?_
      refine hd_icmp_geN 10 20 C dJ7_fill_53178_7 rfl (by decide) (by omega) (by omega) (fun h7 => ?_) (fun h7 => ?_)
      · skip
        exact hd_vret C hK dJ7_fill_53178_20 (by rw [show q = 60 by omega])
      · skip
        refine hd_aload_n 11 C dJ7_fill_53178_10 rfl 0 rfl rfl ?_
        refine hd_iload_n 12 C dJ7_fill_53178_11 rfl 2 rfl rfl ?_
        refine hd_iload_n 13 C dJ7_fill_53178_12 rfl 1 rfl rfl ?_
        refine asx_cells (by omega) 14 C hK dJ7_fill_53178_13 rfl (by omega) ?_
        refine hd_eqS (show (N, Z, uZ (rZ E i (fun j => if j < q then v else E i j)) i q v, G, T) = (N, Z, rZ E i (fun j => if j < q + 1 then v else E i j), G, T) from by rw [uZ_rZ, fl_s]) ?_
        refine hd_iinc 17 C dJ7_fill_53178_14 rfl 2 (nI (q + 1)) [(2, .int (nI (q + 1))), (0, .ref (a (40 + i))), (1, .int v), (3, .int (nI 60))] rfl (nI_add _ _) (by decide) rfl ?_
        refine hd_goto 5 C dJ7_fill_53178_17 (by decide) ?_
        refine hd_sub [(0, .ref (a (40 + i))), (1, .int v), (2, .int (nI (q + 1))), (3, .int (nI 60))] [1, 2, 0, 3] rfl ?_
        exact ih_L (q + 1) (by omega) (by omega)
  refine hd_sub [(0, .ref (a (40 + i))), (1, .int v), (2, .int (nI 0)), (3, .int (nI 60))] [2, 3, 1, 0] rfl ?_
  exact L 61 0 (Nat.zero_le _) (by omega)

set_option maxHeartbeats 4000000 in
set_option maxRecDepth 100000 in
theorem x_begin {l : Launch} {D : va_G} {cI cJ cD cS : ClassId} {a : Nat → Nat} {N : Nat → Nat → Nat} {Z : Nat → Nat → Int32} {E : Nat → Nat → Int32} {G : Nat → Nat → Int64} {T : Nat → Nat} {t : Option Nat} (k : Nat) (ln n : Int32) (hk : k < 4)  : ctV l D (ty4 cI cJ cD cS) t (wX cI cJ cD cS a) yX1_begin cX1_begin 3 none (rmk 1 23) [.ref (a (30 + k)), .int ln, .int n] (N, Z, E, G, T) (fun (u : sT) => u = (N, uZ (uZ Z 3 k ln) 2 k n, rZ E k (fun j => if j < 60 then nI 0 else E k j), G, T)) := by
  refine ctV_of [(0, .ref (a (30 + k))), (1, .int ln), (2, .int n)] (by decide) (Nat.le_of_ble_eq_true rfl) rfl ?_
  intro p e s m args below meth c A C hK hZ hA
  refine hd_aload_n 1 C dX1_begin_0 rfl 0 rfl rfl ?_
  refine gs1_cells (by omega) 4 C hK dX1_begin_1 rfl ?_
  refine hd_iconst 5 C dX1_begin_4 rfl (nI 0) (by decide) ?_
  refine hd_callSV (rest := []) 8 C hK hZ hA ⟨Nat.zero_le _, Nat.zero_le _⟩ dX1_begin_5 rfl kc_X1_19 (x_fill k (nI 0) (by omega)) ⟨rfl, rfl⟩ ⟨by decide, by decide⟩ rfl rfl (Nat.le_of_ble_eq_true rfl) (fun u5 h5 => ?_)
  subst h5
  refine hd_aload_n 9 C dX1_begin_8 rfl 0 rfl rfl ?_
  refine hd_iload_n 10 C dX1_begin_9 rfl 1 rfl rfl ?_
  refine ps1_lane (by omega) 13 C hK dX1_begin_10 rfl ?_
  refine hd_aload_n 14 C dX1_begin_13 rfl 0 rfl rfl ?_
  refine hd_iload_n 15 C dX1_begin_14 rfl 2 rfl rfl ?_
  refine ps1_size (by omega) 18 C hK dX1_begin_15 rfl ?_
  exact hd_vret C hK dX1_begin_18 rfl

theorem ngt60 {n : Int32} (h : ¬ n ≤ nI 60) : ¬ n < 0 := fun q => by rw [fa_lt] at q; rw [fa_le, nI_toInt (by decide)] at h; have e0 : (0 : Int32).toInt = 0 := rfl; omega

set_option maxHeartbeats 4000000 in
set_option maxRecDepth 100000 in
theorem x_sheet {l : Launch} {D : va_G} {cI cJ cD cS : ClassId} {a : Nat → Nat} {N : Nat → Nat → Nat} {Z : Nat → Nat → Int32} {E : Nat → Nat → Int32} {G : Nat → Nat → Int64} {T : Nat → Nat} {t : Option Nat} (xk ln n : Int32)  : ctI l D (ty4 cI cJ cD cS) t (wX cI cJ cD cS a) yX2_sheet cX2_sheet 4 (some .int) (rmk 2 45) [.ref (a 0), .int xk, .int ln, .int n] (N, Z, E, G, T) (fun (r : Int32) (u : sT) => u = (if (inB xk 4 = true ∧ inB ln 3 = true ∧ n ≤ nI 60 ∧ ¬ n < 0) then (N, uZ (uZ (uZ Z 0 1 0) 3 (cl xk) ln) 2 (cl xk) n, rZ E (cl xk) (fun j => if j < 60 then nI 0 else E (cl xk) j), G, T) else (N, uZ Z 0 1 (fzSheet xk ln n), E, G, T)) ∧ r = spSheet xk ln n) := by
  refine ctI_of [(0, .ref (a 0)), (1, .int xk), (2, .int ln), (3, .int n)] (by decide) (Nat.le_of_ble_eq_true rfl) rfl ?_
  intro p e s m args below meth c A C hK hZ hA
  refine hd_aload_n 1 C dX2_sheet_0 rfl 0 rfl rfl ?_
  refine hd_iconst 2 C dX2_sheet_1 rfl (nI 0) (by decide) ?_
  refine px_latestFault 5 C hK dX2_sheet_2 rfl ?_
  refine hd_iload_n 6 C dX2_sheet_5 rfl 1 rfl rfl ?_
  refine hd_callSI (rest := []) 9 C hK hZ hA ⟨Nat.zero_le _, Nat.zero_le _⟩ dX2_sheet_6 rfl kc_X2_53 (x_isSheet xk) ⟨rfl, rfl⟩ ⟨by decide, by decide⟩ rfl rfl (Nat.le_of_ble_eq_true rfl) (fun r6 u6 h6 => ?_)
  obtain ⟨rfl, rfl⟩ := h6
  refine hd_if_neB 12 14 C dX2_sheet_9 rfl (by decide) (fun h9 => ?_) (fun h9 => ?_)
  · skip
    obtain ⟨k, hj_k, rfl⟩ := inB_t h9 (by decide)
    have hc_k : (nI k).toNatClampNeg = k := nI_clamp (by omega)
    refine hd_iload_n 15 C dX2_sheet_14 rfl 2 rfl rfl ?_
    refine hd_callSI (rest := []) 18 C hK hZ hA ⟨Nat.zero_le _, Nat.zero_le _⟩ dX2_sheet_15 rfl kc_X2_57 (x_isLane ln) ⟨rfl, rfl⟩ ⟨by decide, by decide⟩ rfl rfl (Nat.le_of_ble_eq_true rfl) (fun r15 u15 h15 => ?_)
    obtain ⟨rfl, rfl⟩ := h15
    refine hd_if_eqB 21 27 C dX2_sheet_18 rfl (by decide) (fun h18 => ?_) (fun h18 => ?_)
    · skip
      refine hd_bipush 29 C dX2_sheet_27 rfl (-2) (by decide) ?_
      exact hd_iret C hK dX2_sheet_29 ⟨by simp [okSheet, fzSheet, uZ_uZ, h9, hc_k, h18]; try rfl, by simp [spSheet, h9, hc_k, h18]; try rfl⟩
    · skip
      refine hd_iload_n 22 C dX2_sheet_21 rfl 3 rfl rfl ?_
      refine hd_bipush 24 C dX2_sheet_22 rfl (nI 60) (by decide) ?_
      refine hd_icmp_le 27 30 C dX2_sheet_24 rfl (by decide) (fun h24 => ?_) (fun h24 => ?_)
      · skip
        refine hd_iload_n 31 C dX2_sheet_30 rfl 3 rfl rfl ?_
        refine hd_if_ge 34 40 C dX2_sheet_31 rfl (by decide) (fun h31 => ?_) (fun h31 => ?_)
        · skip
          have h31 : ¬ n < 0 := fun q => by rw [fa_lt] at q; rw [fa_le] at h31; omega
          refine hd_aload_n 41 C dX2_sheet_40 rfl 0 rfl rfl ?_
          refine gx_sheets 44 C hK dX2_sheet_41 rfl ?_
          refine hd_iload_n 45 C dX2_sheet_44 rfl 1 rfl rfl ?_
          refine alx_sheets 46 C hK dX2_sheet_45 rfl (by omega) ?_
          refine hd_iload_n 47 C dX2_sheet_46 rfl 2 rfl rfl ?_
          refine hd_iload_n 48 C dX2_sheet_47 rfl 3 rfl rfl ?_
          refine hd_callVV (rest := []) 51 C hK hZ hA ⟨Nat.zero_le _, Nat.zero_le _⟩ dX2_sheet_48 rfl kc_X2_151 (x_begin k ln n (by omega)) ⟨rfl, rfl⟩ ⟨by decide, by decide⟩ (18 + k) 1 (wX_sheet _ (by omega)) rfl rfl rfl rfl (Nat.le_of_ble_eq_true rfl) (fun u48 h48 => ?_)
          subst h48
          refine hd_iconst 52 C dX2_sheet_51 rfl (nI 1) (by decide) ?_
          exact hd_iret C hK dX2_sheet_52 ⟨by simp [okSheet, fzSheet, uZ_uZ, h9, hc_k, h18, h24, h31]; try rfl, by simp [spSheet, h9, hc_k, h18, h24, h31]; try rfl⟩
        · skip
          have h31 : n < 0 := by rw [fa_lt]; rw [fa_le] at h31; omega
          refine hd_aload_n 35 C dX2_sheet_34 rfl 0 rfl rfl ?_
          refine hd_iconst 36 C dX2_sheet_35 rfl (nI 4) (by decide) ?_
          refine hd_callVI (rest := []) 39 C hK hZ hA ⟨Nat.zero_le _, Nat.zero_le _⟩ dX2_sheet_36 rfl kc_X2_64 (x_faulted (nI 4)) ⟨rfl, rfl⟩ ⟨by decide, by decide⟩ 0 2 rfl rfl rfl rfl rfl (Nat.le_of_ble_eq_true rfl) (fun r36 u36 h36 => ?_)
          obtain ⟨rfl, rfl⟩ := h36
          exact hd_iret C hK dX2_sheet_39 ⟨by simp [okSheet, fzSheet, uZ_uZ, h9, hc_k, h18, h24, h31]; try rfl, by simp [spSheet, h9, hc_k, h18, h24, h31]; try rfl⟩
      · skip
        have hge : ¬ n < 0 := ngt60 h24
        refine hd_bipush 29 C dX2_sheet_27 rfl (-2) (by decide) ?_
        exact hd_iret C hK dX2_sheet_29 ⟨by simp [okSheet, fzSheet, uZ_uZ, h9, hc_k, h18, h24, hge]; try rfl, by simp [spSheet, h9, hc_k, h18, h24, hge]; try rfl⟩
  · skip
    refine hd_iconst 13 C dX2_sheet_12 rfl (-1) (by decide) ?_
    exact hd_iret C hK dX2_sheet_13 ⟨by simp [okSheet, fzSheet, uZ_uZ, h9]; try rfl, by simp [spSheet, h9]; try rfl⟩

set_option maxHeartbeats 4000000 in
set_option maxRecDepth 100000 in
theorem m_sheet {l : Launch} {D : va_G} {cI cJ cD cS : ClassId} {a : Nat → Nat} {N : Nat → Nat → Nat} {Z : Nat → Nat → Int32} {E : Nat → Nat → Int32} {G : Nat → Nat → Int64} {T : Nat → Nat} (xk ln n : Int32)  : ctI l D (ty4 cI cJ cD cS) none (wM cI a) yX3_sheet cX3_sheet 5 (some .int) (rmk 2 45) [.ref (a 0), .int xk, .int ln, .int n] (N, Z, E, G, T) (fun (r : Int32) (u : sT) => u = (if (inB xk 4 = true ∧ inB ln 3 = true ∧ n ≤ nI 60 ∧ ¬ n < 0) then (N, uZ (uZ (uZ Z 2 (cl xk) n) 3 (cl xk) ln) 0 1 0, fz0 E (cl xk) (cl n), G, T) else (N, uZ Z 0 1 (fzSheet xk ln n), E, G, T)) ∧ r = spSheet xk ln n) := by
  refine ctI_of [(0, .ref (a 0)), (1, .int xk), (2, .int ln), (3, .int n)] (by decide) (Nat.le_of_ble_eq_true rfl) rfl ?_
  intro p e s m args below meth c A C hK hZ hA
  refine hd_iload_n 1 C dX3_sheet_0 rfl 1 rfl rfl ?_
  refine hd_callSI (rest := []) 4 C hK hZ hA ⟨Nat.zero_le _, Nat.zero_le _⟩ dX3_sheet_1 rfl kc_X3_115 (m_noSheet xk) ⟨rfl, rfl⟩ ⟨by decide, by decide⟩ rfl rfl (Nat.le_of_ble_eq_true rfl) (fun r1 u1 h1 => ?_)
  obtain ⟨rfl, rfl⟩ := h1
  refine hd_if_eqB 7 13 C dX3_sheet_4 rfl (by decide) (fun h4 => ?_) (fun h4 => ?_)
  · skip
    simp only [Bool.not_eq_true', Bool.not_eq_false'] at h4
    obtain ⟨k, hj_k, rfl⟩ := inB_t h4 (by decide)
    have hc_k : (nI k).toNatClampNeg = k := nI_clamp (by omega)
    refine hd_iload_n 14 C dX3_sheet_13 rfl 2 rfl rfl ?_
    refine hd_i2l 15 C dX3_sheet_14 rfl ln.toInt64 rfl ?_
    refine hd_lconst 16 C dX3_sheet_15 rfl 0 (by decide) ?_
    refine hd_ldc2 19 C dX3_sheet_16 rfl kl_X3_122 ?_
    refine hd_callSI (rest := []) 22 C hK hZ hA ⟨Nat.zero_le _, Nat.zero_le _⟩ dX3_sheet_19 rfl kc_X3_77 (m_in ln.toInt64 0 (2)) ⟨rfl, rfl⟩ ⟨by decide, by decide⟩ rfl rfl (Nat.le_of_ble_eq_true rfl) (fun r19 u19 h19 => ?_)
    obtain ⟨rfl, rfl⟩ := h19
    refine hd_if_eqB 25 31 C dX3_sheet_22 rfl (by decide) (fun h22 => ?_) (fun h22 => ?_)
    · skip
      rw [inL_k ln 2 3 (by decide)] at h22
      refine hd_aload_n 32 C dX3_sheet_31 rfl 0 rfl rfl ?_
      refine hd_bipush 34 C dX3_sheet_32 rfl (-2) (by decide) ?_
      refine hd_callVI (rest := []) 37 C hK hZ hA ⟨Nat.zero_le _, Nat.zero_le _⟩ dX3_sheet_34 rfl kc_X3_119 (m_refused (-2)) ⟨rfl, rfl⟩ ⟨by decide, by decide⟩ 0 3 rfl rfl rfl rfl rfl (Nat.le_of_ble_eq_true rfl) (fun r34 u34 h34 => ?_)
      obtain ⟨rfl, rfl⟩ := h34
      exact hd_iret C hK dX3_sheet_37 ⟨by simp [fzSheet, h4, hc_k, h22]; try rfl, by simp [spSheet, h4, hc_k, h22]; try rfl⟩
    · skip
      rw [inL_k ln 2 3 (by decide)] at h22
      refine hd_iload_n 26 C dX3_sheet_25 rfl 3 rfl rfl ?_
      refine hd_bipush 28 C dX3_sheet_26 rfl (nI 60) (by decide) ?_
      refine hd_icmp_le 31 38 C dX3_sheet_28 rfl (by decide) (fun h28 => ?_) (fun h28 => ?_)
      · skip
        refine hd_iload_n 39 C dX3_sheet_38 rfl 3 rfl rfl ?_
        refine hd_if_ge 42 48 C dX3_sheet_39 rfl (by decide) (fun h39 => ?_) (fun h39 => ?_)
        · skip
          have h39 : ¬ n < 0 := fun q => by rw [fa_lt] at q; rw [fa_le] at h39; omega
          have hbn := inB_le (n := 60) (by decide) h39 h28
          obtain ⟨n2, hj_n2, rfl⟩ := inB_t hbn (by decide)
          have hc_n2 : (nI n2).toNatClampNeg = n2 := nI_clamp (by omega)
          refine hd_aload_n 49 C dX3_sheet_48 rfl 0 rfl rfl ?_
          refine gm_sheetSize 52 C hK dX3_sheet_49 rfl ?_
          refine hd_iload_n 53 C dX3_sheet_52 rfl 1 rfl rfl ?_
          refine hd_iload_n 54 C dX3_sheet_53 rfl 3 rfl rfl ?_
          refine asm_sheetSize 55 C hK dX3_sheet_54 rfl (by omega) ?_
          refine hd_aload_n 56 C dX3_sheet_55 rfl 0 rfl rfl ?_
          refine gm_sheetLane 59 C hK dX3_sheet_56 rfl ?_
          refine hd_iload_n 60 C dX3_sheet_59 rfl 1 rfl rfl ?_
          refine hd_iload_n 61 C dX3_sheet_60 rfl 2 rfl rfl ?_
          refine asm_sheetLane 62 C hK dX3_sheet_61 rfl (by omega) ?_
          refine hd_eqS (show (N, uZ (uZ Z 2 k (nI n2)) 3 k ln, E, G, T) = (N, uZ (uZ Z 2 k (nI n2)) 3 k ln, fz0 E k 0, G, T) from by rw [fz0_0]) ?_
          refine hd_iconst 63 C dX3_sheet_62 rfl (nI 0) (by decide) ?_
          refine hd_istore 65 C dX3_sheet_63 rfl [(4, .int (nI 0)), (0, .ref (a 0)), (1, .int (nI k)), (2, .int ln), (3, .int (nI n2))] (by decide) rfl ?_
          have L : ∀ (fuel : Nat) (q : Nat) (hq : q ≤ n2), n2 - q < fuel → XW p l e (rmk 2 45) s m args below meth c 5 0 0 A D (MQ below (va_Qi (fun (r : Int32) (u : sT) => u = (if (inB (nI k) 4 = true ∧ inB ln 3 = true ∧ (nI n2) ≤ nI 60 ∧ ¬ (nI n2) < 0) then (N, uZ (uZ (uZ Z 2 (cl (nI k)) (nI n2)) 3 (cl (nI k)) ln) 0 1 0, fz0 E (cl (nI k)) (cl (nI n2)), G, T) else (N, uZ Z 0 1 (fzSheet (nI k) ln (nI n2)), E, G, T)) ∧ r = spSheet (nI k) ln (nI n2)) (cB D (ty4 cI cJ cD cS) (wM cI a) A) A) args s 0 0 A) (wM cI a) (N, uZ (uZ Z 2 k (nI n2)) 3 k ln, fz0 E k q, G, T) 65 [(0, .ref (a 0)), (1, .int (nI k)), (2, .int ln), (3, .int (nI n2)), (4, .int (nI q))] [] := by
            intro fuel
            induction fuel with
            | zero => intro q hq hfu; exact absurd hfu (Nat.not_lt_zero _)
            | succ fuel ih_L =>
              intro q hq hfu_L
              refine hd_iload 67 C dX3_sheet_65 rfl 4 rfl ?_
              refine hd_iload_n 68 C dX3_sheet_67 rfl 3 rfl rfl ?_
              refine hd_icmp_geN 71 90 C dX3_sheet_68 rfl (by decide) (by omega) (by omega) (fun h68 => ?_) (fun h68 => ?_)
              · skip
                refine hd_aload_n 91 C dX3_sheet_90 rfl 0 rfl rfl ?_
                refine hd_iconst 92 C dX3_sheet_91 rfl (nI 1) (by decide) ?_
                refine hd_callVI (rest := []) 95 C hK hZ hA ⟨Nat.zero_le _, Nat.zero_le _⟩ dX3_sheet_92 rfl kc_X3_119 (m_refused (nI 1)) ⟨rfl, rfl⟩ ⟨by decide, by decide⟩ 0 3 rfl rfl rfl rfl rfl (Nat.le_of_ble_eq_true rfl) (fun r92 u92 h92 => ?_)
                obtain ⟨rfl, rfl⟩ := h92
                exact hd_iret C hK dX3_sheet_95 ⟨by rw [show q = n2 by omega]; simp [h4, hc_k, h22, h28, h39, hc_n2], by simp [spSheet, h4, hc_k, h22, h28, h39, hc_n2]; try rfl⟩
              · skip
                refine hd_aload_n 72 C dX3_sheet_71 rfl 0 rfl rfl ?_
                refine gm_sheet 75 C hK dX3_sheet_72 rfl ?_
                refine hd_bipush 77 C dX3_sheet_75 rfl (nI 60) (by decide) ?_
                refine hd_iload_n 78 C dX3_sheet_77 rfl 1 rfl rfl ?_
                refine hd_imul 79 C dX3_sheet_78 rfl (nI (60 * k)) (pk_mul _ _) ?_
                refine hd_iload 81 C dX3_sheet_79 rfl 4 rfl ?_
                refine hd_iadd 82 C dX3_sheet_81 rfl (nI ((60 * k) + q)) (nI_add _ _) ?_
                refine hd_iconst 83 C dX3_sheet_82 rfl (nI 0) (by decide) ?_
                refine asm_sheet 84 C hK dX3_sheet_83 rfl k q (by omega) (by omega) (by omega) ?_
                refine hd_eqS (show (N, uZ (uZ Z 2 k (nI n2)) 3 k ln, uZ (fz0 E k q) k q (nI 0), G, T) = (N, uZ (uZ Z 2 k (nI n2)) 3 k ln, fz0 E k (q + 1), G, T) from by rw [show (nI 0) = (0 : Int32) from rfl, fz0_s]) ?_
                refine hd_iinc 87 C dX3_sheet_84 rfl 4 (nI (q + 1)) [(4, .int (nI (q + 1))), (0, .ref (a 0)), (1, .int (nI k)), (2, .int ln), (3, .int (nI n2))] rfl (nI_add _ _) (by decide) rfl ?_
                refine hd_goto 65 C dX3_sheet_87 (by decide) ?_
                refine hd_sub [(0, .ref (a 0)), (1, .int (nI k)), (2, .int ln), (3, .int (nI n2)), (4, .int (nI (q + 1)))] [1, 2, 3, 4, 0] rfl ?_
                exact ih_L (q + 1) (by omega) (by omega)
          refine hd_sub [(0, .ref (a 0)), (1, .int (nI k)), (2, .int ln), (3, .int (nI n2)), (4, .int (nI 0))] [1, 2, 3, 4, 0] rfl ?_
          exact L (n2 + 1) 0 (Nat.zero_le _) (by omega)
        · skip
          have h39 : n < 0 := by rw [fa_lt]; rw [fa_le] at h39; omega
          refine hd_aload_n 43 C dX3_sheet_42 rfl 0 rfl rfl ?_
          refine hd_iconst 44 C dX3_sheet_43 rfl (nI 4) (by decide) ?_
          refine hd_callVI (rest := []) 47 C hK hZ hA ⟨Nat.zero_le _, Nat.zero_le _⟩ dX3_sheet_44 rfl kc_X3_107 (m_failed (nI 4)) ⟨rfl, rfl⟩ ⟨by decide, by decide⟩ 0 3 rfl rfl rfl rfl rfl (Nat.le_of_ble_eq_true rfl) (fun r44 u44 h44 => ?_)
          obtain ⟨rfl, rfl⟩ := h44
          exact hd_iret C hK dX3_sheet_47 ⟨by simp [fzSheet, h4, hc_k, h22, h28, h39]; try rfl, by simp [spSheet, h4, hc_k, h22, h28, h39]; try rfl⟩
      · skip
        have hge : ¬ n < 0 := ngt60 h28
        refine hd_aload_n 32 C dX3_sheet_31 rfl 0 rfl rfl ?_
        refine hd_bipush 34 C dX3_sheet_32 rfl (-2) (by decide) ?_
        refine hd_callVI (rest := []) 37 C hK hZ hA ⟨Nat.zero_le _, Nat.zero_le _⟩ dX3_sheet_34 rfl kc_X3_119 (m_refused (-2)) ⟨rfl, rfl⟩ ⟨by decide, by decide⟩ 0 3 rfl rfl rfl rfl rfl (Nat.le_of_ble_eq_true rfl) (fun r34 u34 h34 => ?_)
        obtain ⟨rfl, rfl⟩ := h34
        exact hd_iret C hK dX3_sheet_37 ⟨by simp [fzSheet, h4, hc_k, h22, h28, hge]; try rfl, by simp [spSheet, h4, hc_k, h22, h28, hge]; try rfl⟩
  · skip
    simp only [Bool.not_eq_true', Bool.not_eq_false'] at h4
    refine hd_aload_n 8 C dX3_sheet_7 rfl 0 rfl rfl ?_
    refine hd_iconst 9 C dX3_sheet_8 rfl (-1) (by decide) ?_
    refine hd_callVI (rest := []) 12 C hK hZ hA ⟨Nat.zero_le _, Nat.zero_le _⟩ dX3_sheet_9 rfl kc_X3_119 (m_refused (-1)) ⟨rfl, rfl⟩ ⟨by decide, by decide⟩ 0 3 rfl rfl rfl rfl rfl (Nat.le_of_ble_eq_true rfl) (fun r9 u9 h9 => ?_)
    obtain ⟨rfl, rfl⟩ := h9
    exact hd_iret C hK dX3_sheet_12 ⟨by simp [fzSheet, h4]; try rfl, by simp [spSheet, h4]; try rfl⟩

set_option maxHeartbeats 4000000 in
set_option maxRecDepth 100000 in
theorem x_put {l : Launch} {D : va_G} {cI cJ cD cS : ClassId} {a : Nat → Nat} {N : Nat → Nat → Nat} {Z : Nat → Nat → Int32} {E : Nat → Nat → Int32} {G : Nat → Nat → Int64} {T : Nat → Nat} {t : Option Nat} (xk xi v : Int32) (hz : ∀ k, k < 4 → szOK (Z 2 k))  : ctI l D (ty4 cI cJ cD cS) t (wX cI cJ cD cS a) yX2_put cX2_put 6 (some .int) (rmk 2 45) [.ref (a 0), .int xk, .int xi, .int v] (N, Z, E, G, T) (fun (r : Int32) (u : sT) => u = (N, uZ Z 0 1 (fzPut Z xk xi), nePut Z E xk xi v, G, T) ∧ r = spPut Z xk xi) := by
  refine ctI_of [(0, .ref (a 0)), (1, .int xk), (2, .int xi), (3, .int v)] (by decide) (Nat.le_of_ble_eq_true rfl) rfl ?_
  intro p e s m args below meth c A C hK hZ hA
  refine hd_aload_n 1 C dX2_put_0 rfl 0 rfl rfl ?_
  refine hd_iconst 2 C dX2_put_1 rfl (nI 0) (by decide) ?_
  refine px_latestFault 5 C hK dX2_put_2 rfl ?_
  refine hd_iload_n 6 C dX2_put_5 rfl 1 rfl rfl ?_
  refine hd_callSI (rest := []) 9 C hK hZ hA ⟨Nat.zero_le _, Nat.zero_le _⟩ dX2_put_6 rfl kc_X2_53 (x_isSheet xk) ⟨rfl, rfl⟩ ⟨by decide, by decide⟩ rfl rfl (Nat.le_of_ble_eq_true rfl) (fun r6 u6 h6 => ?_)
  obtain ⟨rfl, rfl⟩ := h6
  refine hd_if_neB 12 14 C dX2_put_9 rfl (by decide) (fun h9 => ?_) (fun h9 => ?_)
  · skip
    obtain ⟨k, hj_k, rfl⟩ := inB_t h9 (by decide)
    have hc_k : (nI k).toNatClampNeg = k := nI_clamp (by omega)
    refine hd_aload_n 15 C dX2_put_14 rfl 0 rfl rfl ?_
    refine gx_sheets 18 C hK dX2_put_15 rfl ?_
    refine hd_iload_n 19 C dX2_put_18 rfl 1 rfl rfl ?_
    refine alx_sheets 20 C hK dX2_put_19 rfl (by omega) ?_
    refine hd_astore 22 C dX2_put_20 rfl [(4, .ref (a (30 + k))), (0, .ref (a 0)), (1, .int (nI k)), (2, .int xi), (3, .int v)] (by decide) rfl ?_
    refine hd_aload 24 C dX2_put_22 rfl 0 rfl ?_
    refine hd_aload 26 C dX2_put_24 rfl 0 rfl ?_
    refine gs2_lane (by omega) 29 C hK dX2_put_26 rfl (Z 3 k) rfl ?_
    refine hd_iload_n 30 C dX2_put_29 rfl 3 rfl rfl ?_
    refine hd_iconst 31 C dX2_put_30 rfl (nI 1) (by decide) ?_
    refine hd_callVI (rest := []) 34 C hK hZ hA ⟨Nat.zero_le _, Nat.zero_le _⟩ dX2_put_31 rfl kc_X2_60 (x_faultOfTaking k (by omega) (Z 3 k) xi (nI 1) (Z 2 k) (Z 3 k) rfl rfl (hz _ (by omega))) ⟨rfl, rfl⟩ ⟨by decide, by decide⟩ (18 + k) 1 (wX_sheet _ (by omega)) rfl rfl rfl rfl (Nat.le_of_ble_eq_true rfl) (fun r31 u31 h31 => ?_)
    obtain ⟨rfl, rfl⟩ := h31
    have hft31 := ftN_lt (Z 2 k) (Z 3 k) (Z 3 k) xi (nI 1)
    refine hd_istore 36 C dX2_put_34 rfl [(5, .int (nI (ftN (Z 2 k) (Z 3 k) (Z 3 k) xi (nI 1)))), (4, .ref (a (30 + k))), (0, .ref (a 0)), (1, .int (nI k)), (2, .int xi), (3, .int v)] (by decide) rfl ?_
    refine hd_iload 38 C dX2_put_36 rfl 0 rfl ?_
    refine hd_if_eqN 41 48 C dX2_put_38 rfl (by decide) (by omega) (fun h38 => ?_) (fun h38 => ?_)
    · skip
      obtain ⟨hn1, hl9, -, hok⟩ := ftN_0 h38
      obtain ⟨mz, i2, one, ez, rfl, e1, hm60, hsum⟩ := okC_nat (hz k (by omega)) hok
      have e1 : 1 = one := (nI_eq (by decide) (by omega)).mp e1
      have hc_i2 : (nI i2).toNatClampNeg = i2 := nI_clamp (by omega)
      refine hd_aload 50 C dX2_put_48 rfl 1 rfl ?_
      refine gs2_cells (by omega) 53 C hK dX2_put_50 rfl ?_
      refine hd_iload_n 54 C dX2_put_53 rfl 4 rfl rfl ?_
      refine hd_iload_n 55 C dX2_put_54 rfl 5 rfl rfl ?_
      refine hd_aload 57 C dX2_put_55 rfl 1 rfl ?_
      refine gs2_lane (by omega) 60 C hK dX2_put_57 rfl (Z 3 k) rfl ?_
      refine hd_callSI (rest := [.int (nI i2), .ref (a (40 + k))]) 63 C hK hZ hA ⟨Nat.zero_le _, Nat.zero_le _⟩ dX2_put_60 rfl kc_X2_168 (x_cutToLane v (Z 3 k)) ⟨rfl, rfl⟩ ⟨by decide, by decide⟩ rfl rfl (Nat.le_of_ble_eq_true rfl) (fun r60 u60 h60 => ?_)
      obtain ⟨rfl, rfl⟩ := h60
      refine asx_cells (by omega) 64 C hK dX2_put_63 rfl (by omega) ?_
      refine hd_iconst 65 C dX2_put_64 rfl (nI 1) (by decide) ?_
      exact hd_iret C hK dX2_put_65 ⟨by simp [fzPut, nePut, cutL, uZ_uZ, nI_0, h9, hc_k, h38, hc_i2], by simp [spPut, fA, h9, hc_k, h38, hc_i2]; try rfl⟩
    · skip
      refine hd_aload_n 42 C dX2_put_41 rfl 2 rfl rfl ?_
      refine hd_iload 44 C dX2_put_42 rfl 0 rfl ?_
      refine hd_callVI (rest := []) 47 C hK hZ hA ⟨Nat.zero_le _, Nat.zero_le _⟩ dX2_put_44 rfl kc_X2_64 (x_faulted (nI (ftN (Z 2 k) (Z 3 k) (Z 3 k) xi (nI 1)))) ⟨rfl, rfl⟩ ⟨by decide, by decide⟩ 0 2 rfl rfl rfl rfl rfl (Nat.le_of_ble_eq_true rfl) (fun r44 u44 h44 => ?_)
      obtain ⟨rfl, rfl⟩ := h44
      exact hd_iret C hK dX2_put_47 ⟨by simp [fzPut, nePut, cutL, uZ_uZ, nI_0, h9, hc_k, h38], by simp [spPut, fA, h9, hc_k, h38]⟩
  · skip
    refine hd_iconst 13 C dX2_put_12 rfl (-1) (by decide) ?_
    exact hd_iret C hK dX2_put_13 ⟨by simp [fzPut, nePut, cutL, uZ_uZ, nI_0, h9], by simp [spPut, fA, h9]; try rfl⟩

theorem nc_ft {z ln i : Int32} (hz : szOK z) : (if z < 0 then 1 else if okC z i (nI 1) = true then 0 else 3) = ftN z ln ln i (nI 1) := by
  unfold ftN
  have h1 : ¬ nI 1 < 0 := by decide
  by_cases h : z = -1
  · have h2 := (szOK_neg hz).mpr h
    simp [h2, h]
  · have h2 : ¬ z < 0 := fun q => h ((szOK_neg hz).mp q)
    simp only [if_neg h2, if_neg h, not_true_eq_false, if_false, if_neg h1]
theorem inL_c1 {z i : Int32} (hz : szOK z) (h : ¬ z < 0) : inL i.toInt64 0 (z.toInt64 - 1) = okC z i (nI 1) := by
  obtain ⟨n, hn, rfl⟩ := szOK_n hz (fun q => h ((szOK_neg hz).mpr q))
  rw [inL_in i (by omega)]
  unfold inB okC
  have e1 : (nI 1).toInt = 1 := rfl
  rw [show (nI n).toInt = (n : Int) from nI_toInt (by omega), e1]
  congr 1
  apply propext
  constructor <;> intro q <;> omega

set_option maxHeartbeats 4000000 in
set_option maxRecDepth 100000 in
theorem m_noCell {l : Launch} {D : va_G} {cI cJ cD cS : ClassId} {a : Nat → Nat} {N : Nat → Nat → Nat} {Z : Nat → Nat → Int32} {E : Nat → Nat → Int32} {G : Nat → Nat → Int64} {T : Nat → Nat} (k : Nat) (i : Int32) (hk : k < 4) (hz : szOK (Z 2 k))  : ctI l D (ty4 cI cJ cD cS) none (wM cI a) yX3_noCell cX3_noCell 3 (some .int) (rmk 1 25) [.ref (a 0), .int (nI k), .int i] (N, Z, E, G, T) (fun (r : Int32) (u : sT) => u = (N, Z, E, G, T) ∧ r = nI (ftN (Z 2 k) (Z 3 k) (Z 3 k) i (nI 1))) := by
  refine ctI_of [(0, .ref (a 0)), (1, .int (nI k)), (2, .int i)] (by decide) (Nat.le_of_ble_eq_true rfl) rfl ?_
  intro p e s m args below meth c A C hK hZ hA
  refine hd_aload_n 1 C dX3_noCell_0 rfl 0 rfl rfl ?_
  refine gm_sheetSize 4 C hK dX3_noCell_1 rfl ?_
  refine hd_iload_n 5 C dX3_noCell_4 rfl 1 rfl rfl ?_
  refine alm_sheetSize 6 C hK dX3_noCell_5 rfl (by omega) (Z 2 k) rfl ?_
  refine hd_if_ge 9 13 C dX3_noCell_6 rfl (by decide) (fun h6 => ?_) (fun h6 => ?_)
  · skip
    have h6 : ¬ Z 2 k < 0 := fun q => by rw [fa_lt] at q; rw [fa_le] at h6; omega
    refine hd_iload_n 14 C dX3_noCell_13 rfl 2 rfl rfl ?_
    refine hd_i2l 15 C dX3_noCell_14 rfl i.toInt64 rfl ?_
    refine hd_lconst 16 C dX3_noCell_15 rfl 0 (by decide) ?_
    refine hd_aload_n 17 C dX3_noCell_16 rfl 0 rfl rfl ?_
    refine gm_sheetSize 20 C hK dX3_noCell_17 rfl ?_
    refine hd_iload_n 21 C dX3_noCell_20 rfl 1 rfl rfl ?_
    refine alm_sheetSize 22 C hK dX3_noCell_21 rfl (by omega) (Z 2 k) rfl ?_
    refine hd_i2l 23 C dX3_noCell_22 rfl ((Z 2 k).toInt64) rfl ?_
    refine hd_lconst 24 C dX3_noCell_23 rfl 1 (by decide) ?_
    refine hd_lsub 25 C dX3_noCell_24 rfl (((Z 2 k).toInt64) - 1) rfl ?_
    refine hd_callSI (rest := []) 28 C hK hZ hA ⟨Nat.zero_le _, Nat.zero_le _⟩ dX3_noCell_25 rfl kc_X3_77 (m_in i.toInt64 0 (((Z 2 k).toInt64) - 1)) ⟨rfl, rfl⟩ ⟨by decide, by decide⟩ rfl rfl (Nat.le_of_ble_eq_true rfl) (fun r25 u25 h25 => ?_)
    obtain ⟨rfl, rfl⟩ := h25
    refine hd_if_eqB 31 35 C dX3_noCell_28 rfl (by decide) (fun h28 => ?_) (fun h28 => ?_)
    · skip
      rw [inL_c1 hz h6] at h28
      refine hd_iconst 36 C dX3_noCell_35 rfl (nI 3) (by decide) ?_
      exact hd_iret C hK dX3_noCell_36 ⟨rfl, by rw [← nc_ft hz]; simp [h6, h28]⟩
    · skip
      rw [inL_c1 hz h6] at h28
      refine hd_iconst 32 C dX3_noCell_31 rfl (nI 0) (by decide) ?_
      refine hd_goto 36 C dX3_noCell_32 (by decide) ?_
      exact hd_iret C hK dX3_noCell_36 ⟨rfl, by rw [← nc_ft hz]; simp [h6, h28]⟩
  · skip
    have h6 : Z 2 k < 0 := by rw [fa_lt]; rw [fa_le] at h6; omega
    refine hd_iconst 10 C dX3_noCell_9 rfl (nI 1) (by decide) ?_
    refine hd_goto 36 C dX3_noCell_10 (by decide) ?_
    exact hd_iret C hK dX3_noCell_36 ⟨rfl, by rw [← nc_ft hz]; simp [h6]⟩

theorem m_noCellW {l : Launch} {D : va_G} {cI cJ cD cS : ClassId} {a : Nat → Nat} {N : Nat → Nat → Nat} {Z : Nat → Nat → Int32} {E : Nat → Nat → Int32} {G : Nat → Nat → Int64} {T : Nat → Nat} (k : Nat) (i sz ln : Int32) (hk : k < 4) (hs : Z 2 k = sz) (hl : Z 3 k = ln) (hz : szOK sz) : ctI l D (ty4 cI cJ cD cS) none (wM cI a) yX3_noCell cX3_noCell 3 (some .int) (rmk 1 25) [.ref (a 0), .int (nI k), .int i] (N, Z, E, G, T) (fun (r : Int32) (u : sT) => u = (N, Z, E, G, T) ∧ r = nI (ftN sz ln ln i (nI 1))) := by
  subst hs; subst hl; exact m_noCell k i hk hz

set_option maxHeartbeats 4000000 in
set_option maxRecDepth 100000 in
theorem m_put {l : Launch} {D : va_G} {cI cJ cD cS : ClassId} {a : Nat → Nat} {N : Nat → Nat → Nat} {Z : Nat → Nat → Int32} {E : Nat → Nat → Int32} {G : Nat → Nat → Int64} {T : Nat → Nat} (xk xi v : Int32) (hz : ∀ k, k < 4 → szOK (Z 2 k))  : ctI l D (ty4 cI cJ cD cS) none (wM cI a) yX3_put cX3_put 4 (some .int) (rmk 2 47) [.ref (a 0), .int xk, .int xi, .int v] (N, Z, E, G, T) (fun (r : Int32) (u : sT) => u = (N, uZ Z 0 1 (fzPut Z xk xi), nePut Z E xk xi v, G, T) ∧ r = spPut Z xk xi) := by
  refine ctI_of [(0, .ref (a 0)), (1, .int xk), (2, .int xi), (3, .int v)] (by decide) (Nat.le_of_ble_eq_true rfl) rfl ?_
  intro p e s m args below meth c A C hK hZ hA
  refine hd_iload_n 1 C dX3_put_0 rfl 1 rfl rfl ?_
  refine hd_callSI (rest := []) 4 C hK hZ hA ⟨Nat.zero_le _, Nat.zero_le _⟩ dX3_put_1 rfl kc_X3_115 (m_noSheet xk) ⟨rfl, rfl⟩ ⟨by decide, by decide⟩ rfl rfl (Nat.le_of_ble_eq_true rfl) (fun r1 u1 h1 => ?_)
  obtain ⟨rfl, rfl⟩ := h1
  refine hd_if_eqB 7 13 C dX3_put_4 rfl (by decide) (fun h4 => ?_) (fun h4 => ?_)
  · skip
    simp only [Bool.not_eq_true', Bool.not_eq_false'] at h4
    obtain ⟨k, hj_k, rfl⟩ := inB_t h4 (by decide)
    have hc_k : (nI k).toNatClampNeg = k := nI_clamp (by omega)
    refine hd_aload_n 14 C dX3_put_13 rfl 0 rfl rfl ?_
    refine hd_iload_n 15 C dX3_put_14 rfl 1 rfl rfl ?_
    refine hd_iload_n 16 C dX3_put_15 rfl 2 rfl rfl ?_
    refine hd_callVI (rest := []) 19 C hK hZ hA ⟨Nat.zero_le _, Nat.zero_le _⟩ dX3_put_16 rfl kc_X3_210 (m_noCellW k xi (Z 2 k) (Z 3 k) (by omega) rfl rfl (hz _ (by omega))) ⟨rfl, rfl⟩ ⟨by decide, by decide⟩ 0 3 rfl rfl rfl rfl rfl (Nat.le_of_ble_eq_true rfl) (fun r16 u16 h16 => ?_)
    obtain ⟨rfl, rfl⟩ := h16
    have hft16 := ftN_lt (Z 2 k) (Z 3 k) (Z 3 k) xi (nI 1)
    refine hd_if_leN 22 33 C dX3_put_19 rfl (by decide) (by omega) (fun h19 => ?_) (fun h19 => ?_)
    · skip
      obtain ⟨hn1, hl9, -, hok⟩ := ftN_0 h19
      obtain ⟨mz, i2, one, ez, rfl, e1, hm60, hsum⟩ := okC_nat (hz k (by omega)) hok
      have e1 : 1 = one := (nI_eq (by decide) (by omega)).mp e1
      have hc_i2 : (nI i2).toNatClampNeg = i2 := nI_clamp (by omega)
      refine hd_aload_n 34 C dX3_put_33 rfl 0 rfl rfl ?_
      refine gm_sheet 37 C hK dX3_put_34 rfl ?_
      refine hd_bipush 39 C dX3_put_37 rfl (nI 60) (by decide) ?_
      refine hd_iload_n 40 C dX3_put_39 rfl 1 rfl rfl ?_
      refine hd_imul 41 C dX3_put_40 rfl (nI (60 * k)) (pk_mul _ _) ?_
      refine hd_iload_n 42 C dX3_put_41 rfl 2 rfl rfl ?_
      refine hd_iadd 43 C dX3_put_42 rfl (nI ((60 * k) + i2)) (nI_add _ _) ?_
      refine hd_aload_n 44 C dX3_put_43 rfl 0 rfl rfl ?_
      refine gm_sheetLane 47 C hK dX3_put_44 rfl ?_
      refine hd_iload_n 48 C dX3_put_47 rfl 1 rfl rfl ?_
      refine alm_sheetLane 49 C hK dX3_put_48 rfl (by omega) (Z 3 k) rfl ?_
      refine hd_if_ne 52 57 C dX3_put_49 rfl (by decide) (fun h49 => ?_) (fun h49 => ?_)
      · skip
        refine hd_aload_n 58 C dX3_put_57 rfl 0 rfl rfl ?_
        refine gm_sheetLane 61 C hK dX3_put_58 rfl ?_
        refine hd_iload_n 62 C dX3_put_61 rfl 1 rfl rfl ?_
        refine alm_sheetLane 63 C hK dX3_put_62 rfl (by omega) (Z 3 k) rfl ?_
        refine hd_iconst 64 C dX3_put_63 rfl (nI 1) (by decide) ?_
        refine hd_icmp_ne 67 72 C dX3_put_64 rfl (by decide) (fun h64 => ?_) (fun h64 => ?_)
        · skip
          refine hd_iload_n 73 C dX3_put_72 rfl 3 rfl rfl ?_
          refine asm_sheet 74 C hK dX3_put_73 rfl k i2 (by omega) (by omega) (by omega) ?_
          refine hd_aload_n 75 C dX3_put_74 rfl 0 rfl rfl ?_
          refine hd_iconst 76 C dX3_put_75 rfl (nI 1) (by decide) ?_
          refine hd_callVI (rest := []) 79 C hK hZ hA ⟨Nat.zero_le _, Nat.zero_le _⟩ dX3_put_76 rfl kc_X3_119 (m_refused (nI 1)) ⟨rfl, rfl⟩ ⟨by decide, by decide⟩ 0 3 rfl rfl rfl rfl rfl (Nat.le_of_ble_eq_true rfl) (fun r76 u76 h76 => ?_)
          obtain ⟨rfl, rfl⟩ := h76
          exact hd_iret C hK dX3_put_79 ⟨by have e1 : nI 1 = 1 := rfl; simp_all [fzPut, nePut, cutL, uZ_uZ]; try rfl, by simp [spPut, fA, h4, hc_k, h19]; try rfl⟩
        · skip
          refine hd_iload_n 68 C dX3_put_67 rfl 3 rfl rfl ?_
          refine hd_i2s 69 C dX3_put_68 rfl v.toInt16.toInt32 rfl ?_
          refine hd_goto 73 C dX3_put_69 (by decide) ?_
          refine asm_sheet 74 C hK dX3_put_73 rfl k i2 (by omega) (by omega) (by omega) ?_
          refine hd_aload_n 75 C dX3_put_74 rfl 0 rfl rfl ?_
          refine hd_iconst 76 C dX3_put_75 rfl (nI 1) (by decide) ?_
          refine hd_callVI (rest := []) 79 C hK hZ hA ⟨Nat.zero_le _, Nat.zero_le _⟩ dX3_put_76 rfl kc_X3_119 (m_refused (nI 1)) ⟨rfl, rfl⟩ ⟨by decide, by decide⟩ 0 3 rfl rfl rfl rfl rfl (Nat.le_of_ble_eq_true rfl) (fun r76 u76 h76 => ?_)
          obtain ⟨rfl, rfl⟩ := h76
          exact hd_iret C hK dX3_put_79 ⟨by have e1 : nI 1 = 1 := rfl; simp_all [fzPut, nePut, cutL, uZ_uZ]; try rfl, by simp [spPut, fA, h4, hc_k, h19]; try rfl⟩
      · skip
        refine hd_iload_n 53 C dX3_put_52 rfl 3 rfl rfl ?_
        refine hd_i2b 54 C dX3_put_53 rfl v.toInt8.toInt32 rfl ?_
        refine hd_goto 73 C dX3_put_54 (by decide) ?_
        refine asm_sheet 74 C hK dX3_put_73 rfl k i2 (by omega) (by omega) (by omega) ?_
        refine hd_aload_n 75 C dX3_put_74 rfl 0 rfl rfl ?_
        refine hd_iconst 76 C dX3_put_75 rfl (nI 1) (by decide) ?_
        refine hd_callVI (rest := []) 79 C hK hZ hA ⟨Nat.zero_le _, Nat.zero_le _⟩ dX3_put_76 rfl kc_X3_119 (m_refused (nI 1)) ⟨rfl, rfl⟩ ⟨by decide, by decide⟩ 0 3 rfl rfl rfl rfl rfl (Nat.le_of_ble_eq_true rfl) (fun r76 u76 h76 => ?_)
        obtain ⟨rfl, rfl⟩ := h76
        exact hd_iret C hK dX3_put_79 ⟨by have e1 : nI 1 = 1 := rfl; simp_all [fzPut, nePut, cutL, uZ_uZ]; try rfl, by simp [spPut, fA, h4, hc_k, h19]; try rfl⟩
    · skip
      have h19 := Nat.pos_iff_ne_zero.mp h19
      refine hd_aload_n 23 C dX3_put_22 rfl 0 rfl rfl ?_
      refine hd_aload_n 24 C dX3_put_23 rfl 0 rfl rfl ?_
      refine hd_iload_n 25 C dX3_put_24 rfl 1 rfl rfl ?_
      refine hd_iload_n 26 C dX3_put_25 rfl 2 rfl rfl ?_
      refine hd_callVI (rest := [.ref (a 0)]) 29 C hK hZ hA ⟨Nat.zero_le _, Nat.zero_le _⟩ dX3_put_26 rfl kc_X3_210 (m_noCellW k xi (Z 2 k) (Z 3 k) (by omega) rfl rfl (hz _ (by omega))) ⟨rfl, rfl⟩ ⟨by decide, by decide⟩ 0 3 rfl rfl rfl rfl rfl (Nat.le_of_ble_eq_true rfl) (fun r26 u26 h26 => ?_)
      obtain ⟨rfl, rfl⟩ := h26
      have hft26 := ftN_lt (Z 2 k) (Z 3 k) (Z 3 k) xi (nI 1)
      refine hd_callVI (rest := []) 32 C hK hZ hA ⟨Nat.zero_le _, Nat.zero_le _⟩ dX3_put_29 rfl kc_X3_107 (m_failed (nI (ftN (Z 2 k) (Z 3 k) (Z 3 k) xi (nI 1)))) ⟨rfl, rfl⟩ ⟨by decide, by decide⟩ 0 3 rfl rfl rfl rfl rfl (Nat.le_of_ble_eq_true rfl) (fun r29 u29 h29 => ?_)
      obtain ⟨rfl, rfl⟩ := h29
      exact hd_iret C hK dX3_put_32 ⟨by simp [fzPut, nePut, cutL, uZ_uZ, h4, hc_k, h19], by simp [spPut, fA, h4, hc_k, h19]⟩
  · skip
    simp only [Bool.not_eq_true', Bool.not_eq_false'] at h4
    refine hd_aload_n 8 C dX3_put_7 rfl 0 rfl rfl ?_
    refine hd_iconst 9 C dX3_put_8 rfl (-1) (by decide) ?_
    refine hd_callVI (rest := []) 12 C hK hZ hA ⟨Nat.zero_le _, Nat.zero_le _⟩ dX3_put_9 rfl kc_X3_119 (m_refused (-1)) ⟨rfl, rfl⟩ ⟨by decide, by decide⟩ 0 3 rfl rfl rfl rfl rfl (Nat.le_of_ble_eq_true rfl) (fun r9 u9 h9 => ?_)
    obtain ⟨rfl, rfl⟩ := h9
    exact hd_iret C hK dX3_put_12 ⟨by simp [fzPut, nePut, cutL, uZ_uZ, h4], by simp [spPut, fA, h4]⟩

set_option maxHeartbeats 4000000 in
set_option maxRecDepth 100000 in
theorem x_cell {l : Launch} {D : va_G} {cI cJ cD cS : ClassId} {a : Nat → Nat} {N : Nat → Nat → Nat} {Z : Nat → Nat → Int32} {E : Nat → Nat → Int32} {G : Nat → Nat → Int64} {T : Nat → Nat} {t : Option Nat} (xk xi ln : Int32) (hz : ∀ k, k < 4 → szOK (Z 2 k))  : ctL l D (ty4 cI cJ cD cS) t (wX cI cJ cD cS a) yX2_cell cX2_cell 4 (some .long) (rmk 2 45) [.ref (a 0), .int xk, .int xi, .int ln] (N, Z, E, G, T) (fun (r : Int64) (u : sT) => u = (N, uZ Z 0 1 (fzCell Z xk xi ln), E, G, T) ∧ r = spCell Z E xk xi ln) := by
  refine ctL_of [(0, .ref (a 0)), (1, .int xk), (2, .int xi), (3, .int ln)] (by decide) (Nat.le_of_ble_eq_true rfl) rfl ?_
  intro p e s m args below meth c A C hK hZ hA
  refine hd_aload_n 1 C dX2_cell_0 rfl 0 rfl rfl ?_
  refine hd_iconst 2 C dX2_cell_1 rfl (nI 0) (by decide) ?_
  refine px_latestFault 5 C hK dX2_cell_2 rfl ?_
  refine hd_iload_n 6 C dX2_cell_5 rfl 1 rfl rfl ?_
  refine hd_callSI (rest := []) 9 C hK hZ hA ⟨Nat.zero_le _, Nat.zero_le _⟩ dX2_cell_6 rfl kc_X2_53 (x_isSheet xk) ⟨rfl, rfl⟩ ⟨by decide, by decide⟩ rfl rfl (Nat.le_of_ble_eq_true rfl) (fun r6 u6 h6 => ?_)
  obtain ⟨rfl, rfl⟩ := h6
  refine hd_if_eqB 12 19 C dX2_cell_9 rfl (by decide) (fun h9 => ?_) (fun h9 => ?_)
  · skip
    refine hd_ldc2 22 C dX2_cell_19 rfl kl_X2_146 ?_
    exact hd_lret C hK dX2_cell_22 ⟨by simp [fzCell, uZ_uZ, nI_0, h9], by simp [spCell, h9]⟩
  · skip
    obtain ⟨k, hj_k, rfl⟩ := inB_t h9 (by decide)
    have hc_k : (nI k).toNatClampNeg = k := nI_clamp (by omega)
    refine hd_iload_n 13 C dX2_cell_12 rfl 3 rfl rfl ?_
    refine hd_callSI (rest := []) 16 C hK hZ hA ⟨Nat.zero_le _, Nat.zero_le _⟩ dX2_cell_13 rfl kc_X2_57 (x_isLane ln) ⟨rfl, rfl⟩ ⟨by decide, by decide⟩ rfl rfl (Nat.le_of_ble_eq_true rfl) (fun r13 u13 h13 => ?_)
    obtain ⟨rfl, rfl⟩ := h13
    refine hd_if_neB 19 23 C dX2_cell_16 rfl (by decide) (fun h16 => ?_) (fun h16 => ?_)
    · skip
      refine hd_aload_n 24 C dX2_cell_23 rfl 0 rfl rfl ?_
      refine hd_aload_n 25 C dX2_cell_24 rfl 0 rfl rfl ?_
      refine gx_sheets 28 C hK dX2_cell_25 rfl ?_
      refine hd_iload_n 29 C dX2_cell_28 rfl 1 rfl rfl ?_
      refine alx_sheets 30 C hK dX2_cell_29 rfl (by omega) ?_
      refine hd_iload_n 31 C dX2_cell_30 rfl 3 rfl rfl ?_
      refine hd_iload_n 32 C dX2_cell_31 rfl 2 rfl rfl ?_
      refine hd_iconst 33 C dX2_cell_32 rfl (nI 1) (by decide) ?_
      refine hd_callVI (rest := [.ref (a 0)]) 36 C hK hZ hA ⟨Nat.zero_le _, Nat.zero_le _⟩ dX2_cell_33 rfl kc_X2_60 (x_faultOfTaking k (by omega) ln xi (nI 1) (Z 2 k) (Z 3 k) rfl rfl (hz _ (by omega))) ⟨rfl, rfl⟩ ⟨by decide, by decide⟩ (18 + k) 1 (wX_sheet _ (by omega)) rfl rfl rfl rfl (Nat.le_of_ble_eq_true rfl) (fun r33 u33 h33 => ?_)
      obtain ⟨rfl, rfl⟩ := h33
      have hft33 := ftN_lt (Z 2 k) (Z 3 k) ln xi (nI 1)
      refine px_latestFault 39 C hK dX2_cell_36 rfl ?_
      refine hd_aload_n 40 C dX2_cell_39 rfl 0 rfl rfl ?_
      refine gx_latestFault 43 C hK dX2_cell_40 rfl (nI (ftN (Z 2 k) (Z 3 k) ln xi (nI 1))) rfl ?_
      refine hd_if_eqN 46 52 C dX2_cell_43 rfl (by decide) (by omega) (fun h43 => ?_) (fun h43 => ?_)
      · skip
        obtain ⟨hn1, hl9, -, hok⟩ := ftN_0 h43
        obtain ⟨mz, i2, one, ez, rfl, e1, hm60, hsum⟩ := okC_nat (hz k (by omega)) hok
        have e1 : 1 = one := (nI_eq (by decide) (by omega)).mp e1
        have hc_i2 : (nI i2).toNatClampNeg = i2 := nI_clamp (by omega)
        refine hd_aload_n 53 C dX2_cell_52 rfl 0 rfl rfl ?_
        refine gx_sheets 56 C hK dX2_cell_53 rfl ?_
        refine hd_iload_n 57 C dX2_cell_56 rfl 1 rfl rfl ?_
        refine alx_sheets 58 C hK dX2_cell_57 rfl (by omega) ?_
        refine gs2_cells (by omega) 61 C hK dX2_cell_58 rfl ?_
        refine hd_iload_n 62 C dX2_cell_61 rfl 2 rfl rfl ?_
        refine alx_cells (by omega) 63 C hK dX2_cell_62 rfl (by omega) (E k i2) rfl ?_
        refine hd_i2l 64 C dX2_cell_63 rfl ((E k i2).toInt64) rfl ?_
        exact hd_lret C hK dX2_cell_64 ⟨by simp [fzCell, uZ_uZ, nI_0, h9, hc_k, h16, h43, hc_i2], by simp [spCell, h9, hc_k, h16, h43, hc_i2]⟩
      · skip
        refine hd_ldc2 49 C dX2_cell_46 rfl kl_X2_146 ?_
        refine hd_goto 64 C dX2_cell_49 (by decide) ?_
        exact hd_lret C hK dX2_cell_64 ⟨by simp [fzCell, uZ_uZ, nI_0, h9, hc_k, h16, h43], by simp [spCell, h9, hc_k, h16, h43]⟩
    · skip
      refine hd_ldc2 22 C dX2_cell_19 rfl kl_X2_146 ?_
      exact hd_lret C hK dX2_cell_22 ⟨by simp [fzCell, uZ_uZ, nI_0, h9, hc_k, h16], by simp [spCell, h9, hc_k, h16]⟩

theorem ft_null {z l1 l2 l3 i n : Int32} (h : z = -1) : ftN z l1 l2 i n = ftN z l1 l3 i n := by simp [ftN, h]
theorem ft_cast {z l1 l2 i n : Int32} (h : ¬ z = -1) (hl : ¬ l1 = l2) : ftN z l1 l2 i n = 2 := by simp [ftN, h, hl]

set_option maxHeartbeats 4000000 in
set_option maxRecDepth 100000 in
theorem m_cell {l : Launch} {D : va_G} {cI cJ cD cS : ClassId} {a : Nat → Nat} {N : Nat → Nat → Nat} {Z : Nat → Nat → Int32} {E : Nat → Nat → Int32} {G : Nat → Nat → Int64} {T : Nat → Nat} (xk xi ln : Int32) (hz : ∀ k, k < 4 → szOK (Z 2 k))  : ctL l D (ty4 cI cJ cD cS) none (wM cI a) yX3_cell cX3_cell 4 (some .long) (rmk 2 47) [.ref (a 0), .int xk, .int xi, .int ln] (N, Z, E, G, T) (fun (r : Int64) (u : sT) => u = (N, uZ Z 0 1 (fzCell Z xk xi ln), E, G, T) ∧ r = spCell Z E xk xi ln) := by
  refine ctL_of [(0, .ref (a 0)), (1, .int xk), (2, .int xi), (3, .int ln)] (by decide) (Nat.le_of_ble_eq_true rfl) rfl ?_
  intro p e s m args below meth c A C hK hZ hA
  refine hd_aload_n 1 C dX3_cell_0 rfl 0 rfl rfl ?_
  refine hd_iconst 2 C dX3_cell_1 rfl (nI 0) (by decide) ?_
  refine pm_fault 5 C hK dX3_cell_2 rfl ?_
  refine hd_iload_n 6 C dX3_cell_5 rfl 1 rfl rfl ?_
  refine hd_callSI (rest := []) 9 C hK hZ hA ⟨Nat.zero_le _, Nat.zero_le _⟩ dX3_cell_6 rfl kc_X3_115 (m_noSheet xk) ⟨rfl, rfl⟩ ⟨by decide, by decide⟩ rfl rfl (Nat.le_of_ble_eq_true rfl) (fun r6 u6 h6 => ?_)
  obtain ⟨rfl, rfl⟩ := h6
  refine hd_if_neB 12 24 C dX3_cell_9 rfl (by decide) (fun h9 => ?_) (fun h9 => ?_)
  · skip
    simp only [Bool.not_eq_true', Bool.not_eq_false'] at h9
    refine hd_callSL (rest := []) 27 C hK hZ hA ⟨Nat.zero_le _, Nat.zero_le _⟩ dX3_cell_24 rfl kc_X3_70 m_lost ⟨rfl, rfl⟩ ⟨by decide, by decide⟩ rfl rfl (Nat.le_of_ble_eq_true rfl) (fun r24 u24 h24 => ?_)
    obtain ⟨rfl, rfl⟩ := h24
    exact hd_lret C hK dX3_cell_27 ⟨by simp [fzCell, uZ_uZ, nI_0, h9], by simp [spCell, h9]⟩
  · skip
    simp only [Bool.not_eq_true', Bool.not_eq_false'] at h9
    obtain ⟨k, hj_k, rfl⟩ := inB_t h9 (by decide)
    have hc_k : (nI k).toNatClampNeg = k := nI_clamp (by omega)
    refine hd_iload_n 13 C dX3_cell_12 rfl 3 rfl rfl ?_
    refine hd_i2l 14 C dX3_cell_13 rfl ln.toInt64 rfl ?_
    refine hd_lconst 15 C dX3_cell_14 rfl 0 (by decide) ?_
    refine hd_ldc2 18 C dX3_cell_15 rfl kl_X3_122 ?_
    refine hd_callSI (rest := []) 21 C hK hZ hA ⟨Nat.zero_le _, Nat.zero_le _⟩ dX3_cell_18 rfl kc_X3_77 (m_in ln.toInt64 0 (2)) ⟨rfl, rfl⟩ ⟨by decide, by decide⟩ rfl rfl (Nat.le_of_ble_eq_true rfl) (fun r18 u18 h18 => ?_)
    obtain ⟨rfl, rfl⟩ := h18
    refine hd_if_neB 24 28 C dX3_cell_21 rfl (by decide) (fun h21 => ?_) (fun h21 => ?_)
    · skip
      rw [inL_k ln 2 3 (by decide)] at h21
      refine hd_aload_n 29 C dX3_cell_28 rfl 0 rfl rfl ?_
      refine gm_sheetSize 32 C hK dX3_cell_29 rfl ?_
      refine hd_iload_n 33 C dX3_cell_32 rfl 1 rfl rfl ?_
      refine alm_sheetSize 34 C hK dX3_cell_33 rfl (by omega) (Z 2 k) rfl ?_
      refine hd_if_lt 37 53 C dX3_cell_34 rfl (by decide) (fun h34 => ?_) (fun h34 => ?_)
      · skip
        have hn1 : Z 2 k = -1 := (szOK_neg (hz k (by omega))).mp h34
        have hfe : ftN (Z 2 k) (Z 3 k) ln xi (nI 1) = ftN (Z 2 k) (Z 3 k) (Z 3 k) xi (nI 1) := ft_null hn1
        refine hd_aload_n 54 C dX3_cell_53 rfl 0 rfl rfl ?_
        refine hd_iload_n 55 C dX3_cell_54 rfl 1 rfl rfl ?_
        refine hd_iload_n 56 C dX3_cell_55 rfl 2 rfl rfl ?_
        refine hd_callVI (rest := []) 59 C hK hZ hA ⟨Nat.zero_le _, Nat.zero_le _⟩ dX3_cell_56 rfl kc_X3_210 (m_noCellW k xi (Z 2 k) (Z 3 k) (by omega) rfl rfl (hz _ (by omega))) ⟨rfl, rfl⟩ ⟨by decide, by decide⟩ 0 3 rfl rfl rfl rfl rfl (Nat.le_of_ble_eq_true rfl) (fun r56 u56 h56 => ?_)
        obtain ⟨rfl, rfl⟩ := h56
        have hft56 := ftN_lt (Z 2 k) (Z 3 k) (Z 3 k) xi (nI 1)
        refine hd_if_leN 62 75 C dX3_cell_59 rfl (by decide) (by omega) (fun h59 => ?_) (fun h59 => ?_)
        · skip
          obtain ⟨hn1, hl9, -, hok⟩ := ftN_0 h59
          obtain ⟨mz, i2, one, ez, rfl, e1, hm60, hsum⟩ := okC_nat (hz k (by omega)) hok
          have e1 : 1 = one := (nI_eq (by decide) (by omega)).mp e1
          have hc_i2 : (nI i2).toNatClampNeg = i2 := nI_clamp (by omega)
          refine hd_aload_n 76 C dX3_cell_75 rfl 0 rfl rfl ?_
          refine gm_sheet 79 C hK dX3_cell_76 rfl ?_
          refine hd_bipush 81 C dX3_cell_79 rfl (nI 60) (by decide) ?_
          refine hd_iload_n 82 C dX3_cell_81 rfl 1 rfl rfl ?_
          refine hd_imul 83 C dX3_cell_82 rfl (nI (60 * k)) (pk_mul _ _) ?_
          refine hd_iload_n 84 C dX3_cell_83 rfl 2 rfl rfl ?_
          refine hd_iadd 85 C dX3_cell_84 rfl (nI ((60 * k) + i2)) (nI_add _ _) ?_
          refine alm_sheet 86 C hK dX3_cell_85 rfl k i2 (by omega) (by omega) (by omega) (E k i2) rfl ?_
          refine hd_i2l 87 C dX3_cell_86 rfl ((E k i2).toInt64) rfl ?_
          exact hd_lret C hK dX3_cell_87 ⟨by simp [fzCell, uZ_uZ, nI_0, h9, hc_k, h21, hfe, h59, hc_i2], by simp [spCell, h9, hc_k, h21, hfe, h59, hc_i2]⟩
        · skip
          have h59 := Nat.pos_iff_ne_zero.mp h59
          refine hd_aload_n 63 C dX3_cell_62 rfl 0 rfl rfl ?_
          refine hd_aload_n 64 C dX3_cell_63 rfl 0 rfl rfl ?_
          refine hd_iload_n 65 C dX3_cell_64 rfl 1 rfl rfl ?_
          refine hd_iload_n 66 C dX3_cell_65 rfl 2 rfl rfl ?_
          refine hd_callVI (rest := [.ref (a 0)]) 69 C hK hZ hA ⟨Nat.zero_le _, Nat.zero_le _⟩ dX3_cell_66 rfl kc_X3_210 (m_noCellW k xi (Z 2 k) (Z 3 k) (by omega) rfl rfl (hz _ (by omega))) ⟨rfl, rfl⟩ ⟨by decide, by decide⟩ 0 3 rfl rfl rfl rfl rfl (Nat.le_of_ble_eq_true rfl) (fun r66 u66 h66 => ?_)
          obtain ⟨rfl, rfl⟩ := h66
          have hft66 := ftN_lt (Z 2 k) (Z 3 k) (Z 3 k) xi (nI 1)
          refine hd_callVL (rest := []) 72 C hK hZ hA ⟨Nat.zero_le _, Nat.zero_le _⟩ dX3_cell_69 rfl kc_X3_213 (m_failedLong (nI (ftN (Z 2 k) (Z 3 k) (Z 3 k) xi (nI 1)))) ⟨rfl, rfl⟩ ⟨by decide, by decide⟩ 0 3 rfl rfl rfl rfl rfl (Nat.le_of_ble_eq_true rfl) (fun r69 u69 h69 => ?_)
          obtain ⟨rfl, rfl⟩ := h69
          refine hd_goto 87 C dX3_cell_72 (by decide) ?_
          exact hd_lret C hK dX3_cell_87 ⟨by simp [fzCell, uZ_uZ, nI_0, h9, hc_k, h21, hfe, h59], by simp [spCell, h9, hc_k, h21, hfe, h59]⟩
      · skip
        have hn1 : ¬ Z 2 k = -1 := fun q => h34 ((szOK_neg (hz k (by omega))).mpr q)
        refine hd_aload_n 38 C dX3_cell_37 rfl 0 rfl rfl ?_
        refine gm_sheetLane 41 C hK dX3_cell_38 rfl ?_
        refine hd_iload_n 42 C dX3_cell_41 rfl 1 rfl rfl ?_
        refine alm_sheetLane 43 C hK dX3_cell_42 rfl (by omega) (Z 3 k) rfl ?_
        refine hd_iload_n 44 C dX3_cell_43 rfl 3 rfl rfl ?_
        refine hd_icmp_eq 47 53 C dX3_cell_44 rfl (by decide) (fun h44 => ?_) (fun h44 => ?_)
        · skip
          have hfe : ftN (Z 2 k) (Z 3 k) ln xi (nI 1) = ftN (Z 2 k) (Z 3 k) (Z 3 k) xi (nI 1) := by rw [h44]
          refine hd_aload_n 54 C dX3_cell_53 rfl 0 rfl rfl ?_
          refine hd_iload_n 55 C dX3_cell_54 rfl 1 rfl rfl ?_
          refine hd_iload_n 56 C dX3_cell_55 rfl 2 rfl rfl ?_
          refine hd_callVI (rest := []) 59 C hK hZ hA ⟨Nat.zero_le _, Nat.zero_le _⟩ dX3_cell_56 rfl kc_X3_210 (m_noCellW k xi (Z 2 k) (Z 3 k) (by omega) rfl rfl (hz _ (by omega))) ⟨rfl, rfl⟩ ⟨by decide, by decide⟩ 0 3 rfl rfl rfl rfl rfl (Nat.le_of_ble_eq_true rfl) (fun r56 u56 h56 => ?_)
          obtain ⟨rfl, rfl⟩ := h56
          have hft56 := ftN_lt (Z 2 k) (Z 3 k) (Z 3 k) xi (nI 1)
          refine hd_if_leN 62 75 C dX3_cell_59 rfl (by decide) (by omega) (fun h59 => ?_) (fun h59 => ?_)
          · skip
            obtain ⟨hn1, hl9, -, hok⟩ := ftN_0 h59
            obtain ⟨mz, i2, one, ez, rfl, e1, hm60, hsum⟩ := okC_nat (hz k (by omega)) hok
            have e1 : 1 = one := (nI_eq (by decide) (by omega)).mp e1
            have hc_i2 : (nI i2).toNatClampNeg = i2 := nI_clamp (by omega)
            refine hd_aload_n 76 C dX3_cell_75 rfl 0 rfl rfl ?_
            refine gm_sheet 79 C hK dX3_cell_76 rfl ?_
            refine hd_bipush 81 C dX3_cell_79 rfl (nI 60) (by decide) ?_
            refine hd_iload_n 82 C dX3_cell_81 rfl 1 rfl rfl ?_
            refine hd_imul 83 C dX3_cell_82 rfl (nI (60 * k)) (pk_mul _ _) ?_
            refine hd_iload_n 84 C dX3_cell_83 rfl 2 rfl rfl ?_
            refine hd_iadd 85 C dX3_cell_84 rfl (nI ((60 * k) + i2)) (nI_add _ _) ?_
            refine alm_sheet 86 C hK dX3_cell_85 rfl k i2 (by omega) (by omega) (by omega) (E k i2) rfl ?_
            refine hd_i2l 87 C dX3_cell_86 rfl ((E k i2).toInt64) rfl ?_
            exact hd_lret C hK dX3_cell_87 ⟨by simp [fzCell, uZ_uZ, nI_0, h9, hc_k, h21, hfe, h59, hc_i2], by simp [spCell, h9, hc_k, h21, hfe, h59, hc_i2]⟩
          · skip
            have h59 := Nat.pos_iff_ne_zero.mp h59
            refine hd_aload_n 63 C dX3_cell_62 rfl 0 rfl rfl ?_
            refine hd_aload_n 64 C dX3_cell_63 rfl 0 rfl rfl ?_
            refine hd_iload_n 65 C dX3_cell_64 rfl 1 rfl rfl ?_
            refine hd_iload_n 66 C dX3_cell_65 rfl 2 rfl rfl ?_
            refine hd_callVI (rest := [.ref (a 0)]) 69 C hK hZ hA ⟨Nat.zero_le _, Nat.zero_le _⟩ dX3_cell_66 rfl kc_X3_210 (m_noCellW k xi (Z 2 k) (Z 3 k) (by omega) rfl rfl (hz _ (by omega))) ⟨rfl, rfl⟩ ⟨by decide, by decide⟩ 0 3 rfl rfl rfl rfl rfl (Nat.le_of_ble_eq_true rfl) (fun r66 u66 h66 => ?_)
            obtain ⟨rfl, rfl⟩ := h66
            have hft66 := ftN_lt (Z 2 k) (Z 3 k) (Z 3 k) xi (nI 1)
            refine hd_callVL (rest := []) 72 C hK hZ hA ⟨Nat.zero_le _, Nat.zero_le _⟩ dX3_cell_69 rfl kc_X3_213 (m_failedLong (nI (ftN (Z 2 k) (Z 3 k) (Z 3 k) xi (nI 1)))) ⟨rfl, rfl⟩ ⟨by decide, by decide⟩ 0 3 rfl rfl rfl rfl rfl (Nat.le_of_ble_eq_true rfl) (fun r69 u69 h69 => ?_)
            obtain ⟨rfl, rfl⟩ := h69
            refine hd_goto 87 C dX3_cell_72 (by decide) ?_
            exact hd_lret C hK dX3_cell_87 ⟨by simp [fzCell, uZ_uZ, nI_0, h9, hc_k, h21, hfe, h59], by simp [spCell, h9, hc_k, h21, hfe, h59]⟩
        · skip
          have hfe : ftN (Z 2 k) (Z 3 k) ln xi (nI 1) = 2 := ft_cast hn1 h44
          refine hd_aload_n 48 C dX3_cell_47 rfl 0 rfl rfl ?_
          refine hd_iconst 49 C dX3_cell_48 rfl (nI 2) (by decide) ?_
          refine hd_callVL (rest := []) 52 C hK hZ hA ⟨Nat.zero_le _, Nat.zero_le _⟩ dX3_cell_49 rfl kc_X3_213 (m_failedLong (nI 2)) ⟨rfl, rfl⟩ ⟨by decide, by decide⟩ 0 3 rfl rfl rfl rfl rfl (Nat.le_of_ble_eq_true rfl) (fun r49 u49 h49 => ?_)
          obtain ⟨rfl, rfl⟩ := h49
          exact hd_lret C hK dX3_cell_52 ⟨by simp [fzCell, uZ_uZ, nI_0, h9, hc_k, h21, hfe]; try rfl, by simp [spCell, h9, hc_k, h21, hfe]⟩
    · skip
      rw [inL_k ln 2 3 (by decide)] at h21
      refine hd_callSL (rest := []) 27 C hK hZ hA ⟨Nat.zero_le _, Nat.zero_le _⟩ dX3_cell_24 rfl kc_X3_70 m_lost ⟨rfl, rfl⟩ ⟨by decide, by decide⟩ rfl rfl (Nat.le_of_ble_eq_true rfl) (fun r24 u24 h24 => ?_)
      obtain ⟨rfl, rfl⟩ := h24
      exact hd_lret C hK dX3_cell_27 ⟨by simp [fzCell, uZ_uZ, nI_0, h9, hc_k, h21], by simp [spCell, h9, hc_k, h21]⟩

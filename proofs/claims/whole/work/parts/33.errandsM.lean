set_option maxHeartbeats 4000000 in
set_option maxRecDepth 100000 in
theorem m_goOn {l : Launch} {D : va_G} {cI cJ cD cS : ClassId} {a : Nat → Nat} {N : Nat → Nat → Nat} {Z : Nat → Nat → Int32} {E : Nat → Nat → Int32} {G : Nat → Nat → Int64} {T : Nat → Nat} (st room h : Nat) (P : Nat → Nat → Prop) (hI : inv N) (hst : st < 64) (hr : room < N 0 0) (hh : h < 12) (hB0 : RB (Z 26) P) (hg : Z 0 2 = -9)  : ctV l D (ty4 cI cJ cD cS) none (wM cI a) yX3_goOn cX3_goOn 6 none (rmk 2 46) [.ref (a 0), .int (nI st), .int (nI room), .int (nI h)] (N, Z, E, G, T) (fun (u : sT) => ∃ g : Nat → Int32, u = (N, rZ Z 26 g, E, G, T) ∧ RB g (gO N h st room P (N 0 1))) := by
  refine ctV_of [(0, .ref (a 0)), (1, .int (nI st)), (2, .int (nI room)), (3, .int (nI h))] (by decide) (Nat.le_of_ble_eq_true rfl) rfl ?_
  intro p e s m args below meth c A C hK hZ hA
  have hR := hI.R
  have hDn := hI.D
  have hQn := hI.Q
  refine hd_iconst 1 C dX3_goOn_0 rfl (nI 0) (by decide) ?_
  refine hd_istore 3 C dX3_goOn_1 rfl [(4, .int (nI 0)), (0, .ref (a 0)), (1, .int (nI st)), (2, .int (nI room)), (3, .int (nI h))] (by decide) rfl ?_
  refine hd_eqS (show (N, Z, E, G, T) = (N, rZ Z 26 (Z 26), E, G, T) from by rw [rZ_self]) ?_
  have L : ∀ (fuel : Nat) (d : Nat) (g : Nat → Int32) (hd : d ≤ N 0 1) (hB : RB g (gO N h st room P d)), N 0 1 - d < fuel → XW p l e (rmk 2 46) s m args below meth c 6 0 0 A D (MQ below (va_Qv (fun (u : sT) => ∃ g : Nat → Int32, u = (N, rZ Z 26 g, E, G, T) ∧ RB g (gO N h st room P (N 0 1))) (cB D (ty4 cI cJ cD cS) (wM cI a) A) A) args s 0 0 A) (wM cI a) (N, rZ Z 26 g, E, G, T) 3 [(0, .ref (a 0)), (1, .int (nI st)), (2, .int (nI room)), (3, .int (nI h)), (4, .int (nI d))] [] := by
    intro fuel
    induction fuel with
    | zero => intro d g hd hB hfu; exact absurd hfu (Nat.not_lt_zero _)
    | succ fuel ih_L =>
      intro d g hd hB hfu_L
      refine hd_iload 5 C dX3_goOn_3 rfl 4 rfl ?_
      refine hd_aload_n 6 C dX3_goOn_5 rfl 0 rfl rfl ?_
      refine gm_doors 9 C hK dX3_goOn_6 rfl (nI (N 0 1)) rfl ?_
      refine hd_icmp_geN 12 51 C dX3_goOn_9 rfl (by decide) (by omega) (by omega) (fun h9 => ?_) (fun h9 => ?_)
      · skip
        have e9 : d = N 0 1 := by omega
        have hB2 : RB g (gO N h st room P (N 0 1)) := e9 ▸ hB
        exact hd_vret C hK dX3_goOn_51 ⟨g, rfl, hB2⟩
      · skip
        refine hd_aload_n 13 C dX3_goOn_12 rfl 0 rfl rfl ?_
        refine hd_iload_n 14 C dX3_goOn_13 rfl 2 rfl rfl ?_
        refine hd_iload_n 15 C dX3_goOn_14 rfl 3 rfl rfl ?_
        refine hd_iload 17 C dX3_goOn_15 rfl 4 rfl ?_
        refine hd_callVI (rest := []) 20 C hK hZ hA ⟨Nat.zero_le _, Nat.zero_le _⟩ dX3_goOn_17 rfl kc_X3_160 (m_behindW room h d hI (by omega) (by omega) (by omega) (-9) hg) ⟨rfl, rfl⟩ ⟨by decide, by decide⟩ 0 3 rfl rfl rfl rfl rfl (Nat.le_of_ble_eq_true rfl) (fun r17 u17 h17 => ?_)
        obtain ⟨rfl, rfl⟩ := h17
        rcases ho17 : bh N (-9) room h d with _ | rv17
        · skip
          refine hd_istore 22 C dX3_goOn_20 rfl [(5, .int (-9)), (0, .ref (a 0)), (1, .int (nI st)), (2, .int (nI room)), (3, .int (nI h)), (4, .int (nI d))] (by decide) rfl ?_
          refine hd_iload 24 C dX3_goOn_22 rfl 0 rfl ?_
          refine hd_if_lt 27 45 C dX3_goOn_24 rfl (by decide) (fun _ => ?_) (fun q => absurd (by decide) q)
          refine hd_iinc 48 C dX3_goOn_45 rfl 5 (nI (d + 1)) [(4, .int (nI (d + 1))), (5, .int (-9)), (0, .ref (a 0)), (1, .int (nI st)), (2, .int (nI room)), (3, .int (nI h))] rfl (nI_add _ _) (by decide) rfl ?_
          refine hd_goto 3 C dX3_goOn_48 (by decide) ?_
          refine hd_sub [(0, .ref (a 0)), (1, .int (nI st)), (2, .int (nI room)), (3, .int (nI h)), (4, .int (nI (d + 1)))] [2, 3, 4, 5, 0] rfl ?_
          exact ih_L (d + 1) g (by omega) (RB_congr hB (fun s r _ => gO_f ho17)) (by omega)
        · skip
          have hbrv17 := bh_lt hI (by omega) (by omega) _ ho17
          refine hd_istore 22 C dX3_goOn_20 rfl [(5, .int (nI rv17)), (0, .ref (a 0)), (1, .int (nI st)), (2, .int (nI room)), (3, .int (nI h)), (4, .int (nI d))] (by decide) rfl ?_
          refine hd_iload 24 C dX3_goOn_22 rfl 0 rfl ?_
          refine hd_if_ltP 27 45 C dX3_goOn_24 rfl (by decide) (by omega) ?_
          have hor : st ||| 2 ^ rv17 < 64 := or_lt hst (by omega)
          obtain ⟨b9, hb9, eb9, -⟩ := hB _ hor
          refine hd_aload_n 28 C dX3_goOn_27 rfl 1 rfl rfl ?_
          refine gm_thenIn 31 C hK dX3_goOn_28 rfl ?_
          refine hd_iload_n 32 C dX3_goOn_31 rfl 2 rfl rfl ?_
          refine hd_iconst 33 C dX3_goOn_32 rfl (nI 1) (by decide) ?_
          refine hd_iload 35 C dX3_goOn_33 rfl 0 rfl ?_
          refine hd_ishl 36 C dX3_goOn_35 rfl (nI (2 ^ rv17)) (nI_shl1 (by omega)) ?_
          refine hd_ior 37 C dX3_goOn_36 rfl (nI (st ||| (2 ^ rv17))) (fa_or _ _) ?_
          refine hd_dup2 38 C dX3_goOn_37 rfl rfl rfl ?_
          refine alm_thenIn 39 C hK dX3_goOn_38 rfl hor (nI b9) eb9 ?_
          refine hd_iconst 40 C dX3_goOn_39 rfl (nI 1) (by decide) ?_
          refine hd_iload 42 C dX3_goOn_40 rfl 0 rfl ?_
          refine hd_ishl 43 C dX3_goOn_42 rfl (nI (2 ^ rv17)) (nI_shl1 (by omega)) ?_
          refine hd_ior 44 C dX3_goOn_43 rfl (nI (b9 ||| (2 ^ rv17))) (fa_or _ _) ?_
          refine asm_thenIn 45 C hK dX3_goOn_44 rfl hor ?_
          refine hd_eqS (show (N, uZ (rZ Z 26 g) 26 (st ||| (2 ^ rv17)) (nI (b9 ||| (2 ^ rv17))), E, G, T) = (N, rZ Z 26 (upd g (st ||| (2 ^ rv17)) (nI (b9 ||| (2 ^ rv17)))), E, G, T) from by rw [uZ_rZ]) ?_
          refine hd_iinc 48 C dX3_goOn_45 rfl 5 (nI (d + 1)) [(4, .int (nI (d + 1))), (5, .int (nI rv17)), (0, .ref (a 0)), (1, .int (nI st)), (2, .int (nI room)), (3, .int (nI h))] rfl (nI_add _ _) (by decide) rfl ?_
          refine hd_goto 3 C dX3_goOn_48 (by decide) ?_
          refine hd_sub [(0, .ref (a 0)), (1, .int (nI st)), (2, .int (nI room)), (3, .int (nI h)), (4, .int (nI (d + 1)))] [2, 3, 4, 5, 0] rfl ?_
          exact ih_L (d + 1) _ (by omega) (RB_congr (RB_up hB hor (by omega) eb9 hb9) (fun s r _ => gO_t ho17)) (by omega)
  refine hd_sub [(0, .ref (a 0)), (1, .int (nI st)), (2, .int (nI room)), (3, .int (nI h)), (4, .int (nI 0))] [1, 2, 3, 4, 0] rfl ?_
  exact L (N 0 1 + 1) 0 _ (Nat.zero_le _) (RB_congr hB0 (fun s r _ => gO_0)) (by omega)

set_option maxHeartbeats 4000000 in
set_option maxRecDepth 100000 in
theorem m_goHour {l : Launch} {D : va_G} {cI cJ cD cS : ClassId} {a : Nat → Nat} {N : Nat → Nat → Nat} {Z : Nat → Nat → Int32} {E : Nat → Nat → Int32} {G : Nat → Nat → Int64} {T : Nat → Nat} (h : Nat) (P : Nat → Nat → Prop) (hI : inv N) (hh : h < 12) (hP : ∀ s r, P s r → r < N 0 0) (hB : RB (Z 25) P) (hg : Z 0 2 = -9)  : ctV l D (ty4 cI cJ cD cS) none (wM cI a) yX3_goHour cX3_goHour 5 none (rmk 3 71) [.ref (a 0), .int (nI h)] (N, Z, E, G, T) (fun (u : sT) => ∃ f g : Nat → Int32, u = (N, rZ (rZ Z 26 g) 25 f, E, G, T) ∧ RB f (stp N h P)) := by
  refine ctV_of [(0, .ref (a 0)), (1, .int (nI h))] (by decide) (Nat.le_of_ble_eq_true rfl) rfl ?_
  intro p e s m args below meth c A C hK hZ hA
  have hR := hI.R
  have hDn := hI.D
  have hQn := hI.Q
  refine hd_iconst 1 C dX3_goHour_0 rfl (nI 0) (by decide) ?_
  refine hd_istore_n 2 C dX3_goHour_1 rfl [(2, .int (nI 0)), (0, .ref (a 0)), (1, .int (nI h))] rfl (by decide) rfl ?_
  refine hd_eqS (show (N, Z, E, G, T) = (N, rZ Z 26 (Z 26), E, G, T) from by rw [rZ_self]) ?_
  have L1 : ∀ (fuel : Nat) (q : Nat) (g : Nat → Int32) (hq : q ≤ 64) (hG : ∀ y, y < q → g y = nI 0), 64 - q < fuel → XW p l e (rmk 3 71) s m args below meth c 5 0 0 A D (MQ below (va_Qv (fun (u : sT) => ∃ f g : Nat → Int32, u = (N, rZ (rZ Z 26 g) 25 f, E, G, T) ∧ RB f (stp N h P)) (cB D (ty4 cI cJ cD cS) (wM cI a) A) A) args s 0 0 A) (wM cI a) (N, rZ Z 26 g, E, G, T) 2 [(0, .ref (a 0)), (1, .int (nI h)), (2, .int (nI q))] [] := by
    intro fuel
    induction fuel with
    | zero => intro q g hq hG hfu; exact absurd hfu (Nat.not_lt_zero _)
    | succ fuel ih_L1 =>
      intro q g hq hG hfu_L1
      refine hd_iload_n 3 C dX3_goHour_2 rfl 2 rfl rfl ?_
      refine hd_bipush 5 C dX3_goHour_3 rfl (nI 64) (by decide) ?_
      refine hd_icmp_geN 8 21 C dX3_goHour_5 rfl (by decide) (by omega) (by omega) (fun h5 => ?_) (fun h5 => ?_)
      · skip
        refine hd_iconst 22 C dX3_goHour_21 rfl (nI 0) (by decide) ?_
        refine hd_istore_n 23 C dX3_goHour_22 rfl [(2, .int (nI 0)), (0, .ref (a 0)), (1, .int (nI h))] rfl (by decide) rfl ?_
        have L2 : ∀ (fuel : Nat) (x : Nat) (g : Nat → Int32) (hx : x ≤ 64 * N 0 0) (hB2 : RB g (stx N h P x)), 64 * N 0 0 - x < fuel → XW p l e (rmk 3 71) s m args below meth c 5 0 0 A D (MQ below (va_Qv (fun (u : sT) => ∃ f g : Nat → Int32, u = (N, rZ (rZ Z 26 g) 25 f, E, G, T) ∧ RB f (stp N h P)) (cB D (ty4 cI cJ cD cS) (wM cI a) A) A) args s 0 0 A) (wM cI a) (N, rZ Z 26 g, E, G, T) 23 [(0, .ref (a 0)), (1, .int (nI h)), (2, .int (nI x))] [] := by
          intro fuel
          induction fuel with
          | zero => intro x g hx hB2 hfu; exact absurd hfu (Nat.not_lt_zero _)
          | succ fuel ih_L2 =>
            intro x g hx hB2 hfu_L2
            refine hd_iload_n 24 C dX3_goHour_23 rfl 2 rfl rfl ?_
            refine hd_bipush 26 C dX3_goHour_24 rfl (nI 64) (by decide) ?_
            refine hd_aload_n 27 C dX3_goHour_26 rfl 0 rfl rfl ?_
            refine gm_rooms 30 C hK dX3_goHour_27 rfl (nI (N 0 0)) rfl ?_
            refine hd_imul 31 C dX3_goHour_30 rfl (nI (64 * (N 0 0))) (pk_mul _ _) ?_
            refine hd_icmp_geN 34 90 C dX3_goHour_31 rfl (by decide) (by omega) (by omega) (fun h31 => ?_) (fun h31 => ?_)
            · skip
              refine hd_iconst 91 C dX3_goHour_90 rfl (nI 0) (by decide) ?_
              refine hd_istore_n 92 C dX3_goHour_91 rfl [(2, .int (nI 0)), (0, .ref (a 0)), (1, .int (nI h))] rfl (by decide) rfl ?_
              refine hd_eqS (show (N, rZ Z 26 g, E, G, T) = (N, rZ (rZ Z 26 g) 25 (Z 25), E, G, T) from by rw [← rr_25]) ?_
              have L3 : ∀ (fuel : Nat) (q : Nat) (f : Nat → Int32) (hq3 : q ≤ 64) (hF : ∀ y, y < q → f y = g y), 64 - q < fuel → XW p l e (rmk 3 71) s m args below meth c 5 0 0 A D (MQ below (va_Qv (fun (u : sT) => ∃ f g : Nat → Int32, u = (N, rZ (rZ Z 26 g) 25 f, E, G, T) ∧ RB f (stp N h P)) (cB D (ty4 cI cJ cD cS) (wM cI a) A) A) args s 0 0 A) (wM cI a) (N, rZ (rZ Z 26 g) 25 f, E, G, T) 92 [(0, .ref (a 0)), (1, .int (nI h)), (2, .int (nI q))] [] := by
                intro fuel
                induction fuel with
                | zero => intro q f hq3 hF hfu; exact absurd hfu (Nat.not_lt_zero _)
                | succ fuel ih_L3 =>
                  intro q f hq3 hF hfu_L3
                  refine hd_iload_n 93 C dX3_goHour_92 rfl 2 rfl rfl ?_
                  refine hd_bipush 95 C dX3_goHour_93 rfl (nI 64) (by decide) ?_
                  refine hd_icmp_geN 98 116 C dX3_goHour_95 rfl (by decide) (by omega) (by omega) (fun h95 => ?_) (fun h95 => ?_)
                  · skip
                    exact hd_vret C hK dX3_goHour_116 ⟨f, g, rfl, RB_eq (RB_congr hB2 (fun s r hs => stx_end hP (by omega) hs)) (fun s hs => hF s (by omega))⟩
                  · skip
                    refine hd_aload_n 99 C dX3_goHour_98 rfl 0 rfl rfl ?_
                    refine gm_beenIn 102 C hK dX3_goHour_99 rfl ?_
                    refine hd_iload_n 103 C dX3_goHour_102 rfl 2 rfl rfl ?_
                    refine hd_aload_n 104 C dX3_goHour_103 rfl 0 rfl rfl ?_
                    refine gm_thenIn 107 C hK dX3_goHour_104 rfl ?_
                    refine hd_iload_n 108 C dX3_goHour_107 rfl 2 rfl rfl ?_
                    refine alm_thenIn 109 C hK dX3_goHour_108 rfl (by omega) (g q) rfl ?_
                    refine asm_beenIn 110 C hK dX3_goHour_109 rfl (by omega) ?_
                    refine hd_eqS (show (N, uZ (rZ (rZ Z 26 g) 25 f) 25 q (g q), E, G, T) = (N, rZ (rZ Z 26 g) 25 (upd f q (g q)), E, G, T) from by rw [uZ_rZ]) ?_
                    refine hd_iinc 113 C dX3_goHour_110 rfl 2 (nI (q + 1)) [(2, .int (nI (q + 1))), (0, .ref (a 0)), (1, .int (nI h))] rfl (nI_add _ _) (by decide) rfl ?_
                    refine hd_goto 92 C dX3_goHour_113 (by decide) ?_
                    refine hd_sub [(0, .ref (a 0)), (1, .int (nI h)), (2, .int (nI (q + 1)))] [1, 2, 0] rfl ?_
                    exact ih_L3 (q + 1) _ (by omega) (fun y hy => by by_cases e9 : y = q; rw [e9, pk_us]; rw [pk_un e9]; exact hF y (by omega)) (by omega)
              refine hd_sub [(0, .ref (a 0)), (1, .int (nI h)), (2, .int (nI 0))] [1, 2, 0] rfl ?_
              exact L3 65 0 _ (Nat.zero_le _) (fun y hy => absurd hy (Nat.not_lt_zero y)) (by omega)
            · skip
              have hR0 : 0 < N 0 0 := by omega
              have hx64 : x / N 0 0 < 64 := Nat.div_lt_of_lt_mul (by rw [Nat.mul_comm]; exact h31)
              have hxr : x % N 0 0 < N 0 0 := Nat.mod_lt _ hR0
              obtain ⟨b9, hb9, eb9, hbP⟩ := hB (x / N 0 0) hx64
              refine hd_iload_n 35 C dX3_goHour_34 rfl 2 rfl rfl ?_
              refine hd_aload_n 36 C dX3_goHour_35 rfl 0 rfl rfl ?_
              refine gm_rooms 39 C hK dX3_goHour_36 rfl (nI (N 0 0)) rfl ?_
              refine hd_idiv 40 C dX3_goHour_39 rfl (nI (x / (N 0 0))) (nI_ne0 (by omega) (by omega)) (pk_div (by omega) (by omega) (by omega)) ?_
              refine hd_istore_n 41 C dX3_goHour_40 rfl [(3, .int (nI (x / (N 0 0)))), (0, .ref (a 0)), (1, .int (nI h)), (2, .int (nI x))] rfl (by decide) rfl ?_
              refine hd_iload_n 42 C dX3_goHour_41 rfl 3 rfl rfl ?_
              refine hd_aload_n 43 C dX3_goHour_42 rfl 1 rfl rfl ?_
              refine gm_rooms 46 C hK dX3_goHour_43 rfl (nI (N 0 0)) rfl ?_
              refine hd_irem 47 C dX3_goHour_46 rfl (nI (x % (N 0 0))) (nI_ne0 (by omega) (by omega)) (pk_rem (by omega) (by omega) (by omega)) ?_
              refine hd_istore 49 C dX3_goHour_47 rfl [(4, .int (nI (x % (N 0 0)))), (3, .int (nI (x / (N 0 0)))), (0, .ref (a 0)), (1, .int (nI h)), (2, .int (nI x))] (by decide) rfl ?_
              refine hd_aload_n 50 C dX3_goHour_49 rfl 2 rfl rfl ?_
              refine gm_beenIn 53 C hK dX3_goHour_50 rfl ?_
              refine hd_iload_n 54 C dX3_goHour_53 rfl 1 rfl rfl ?_
              refine alm_beenIn 55 C hK dX3_goHour_54 rfl hx64 (nI b9) eb9 ?_
              refine hd_iload 57 C dX3_goHour_55 rfl 0 rfl ?_
              refine hd_callSI (rest := []) 60 C hK hZ hA ⟨Nat.zero_le _, Nat.zero_le _⟩ dX3_goHour_57 rfl kc_X3_172 (m_isIn b9 (x % (N 0 0)) (by omega) (by omega)) ⟨rfl, rfl⟩ ⟨by decide, by decide⟩ rfl rfl (Nat.le_of_ble_eq_true rfl) (fun r57 u57 h57 => ?_)
              obtain ⟨rfl, rfl⟩ := h57
              refine hd_if_eqB 63 84 C dX3_goHour_60 rfl (by decide) (fun h60 => ?_) (fun h60 => ?_)
              · skip
                have hpx : ¬ P (x / N 0 0) (x % N 0 0) := fun q => absurd ((hbP _).mpr q) (by rw [h60]; decide)
                refine hd_iinc 87 C dX3_goHour_84 rfl 4 (nI (x + 1)) [(2, .int (nI (x + 1))), (4, .int (nI (x % (N 0 0)))), (3, .int (nI (x / (N 0 0)))), (0, .ref (a 0)), (1, .int (nI h))] rfl (nI_add _ _) (by decide) rfl ?_
                refine hd_goto 23 C dX3_goHour_87 (by decide) ?_
                refine hd_sub [(0, .ref (a 0)), (1, .int (nI h)), (2, .int (nI (x + 1)))] [3, 4, 0] rfl ?_
                exact ih_L2 (x + 1) g (by omega) (RB_congr hB2 (fun s r _ => stx_f hP hpx)) (by omega)
              · skip
                have hpx : P (x / N 0 0) (x % N 0 0) := (hbP _).mp h60
                obtain ⟨c9, hc9, ec9, -⟩ := hB2 (x / N 0 0) hx64
                refine hd_aload_n 64 C dX3_goHour_63 rfl 2 rfl rfl ?_
                refine gm_thenIn 67 C hK dX3_goHour_64 rfl ?_
                refine hd_iload_n 68 C dX3_goHour_67 rfl 1 rfl rfl ?_
                refine hd_dup2 69 C dX3_goHour_68 rfl rfl rfl ?_
                refine alm_thenIn 70 C hK dX3_goHour_69 rfl hx64 (nI c9) ec9 ?_
                refine hd_iconst 71 C dX3_goHour_70 rfl (nI 1) (by decide) ?_
                refine hd_iload 73 C dX3_goHour_71 rfl 0 rfl ?_
                refine hd_ishl 74 C dX3_goHour_73 rfl (nI (2 ^ (x % (N 0 0)))) (nI_shl1 (by omega)) ?_
                refine hd_ior 75 C dX3_goHour_74 rfl (nI (c9 ||| (2 ^ (x % (N 0 0))))) (fa_or _ _) ?_
                refine asm_thenIn 76 C hK dX3_goHour_75 rfl hx64 ?_
                refine hd_eqS (show (N, uZ (rZ Z 26 g) 26 (x / (N 0 0)) (nI (c9 ||| (2 ^ (x % (N 0 0))))), E, G, T) = (N, rZ Z 26 (upd g (x / (N 0 0)) (nI (c9 ||| (2 ^ (x % (N 0 0)))))), E, G, T) from by rw [uZ_rZ]) ?_
                have hB5 := RB_up hB2 hx64 (show x % N 0 0 < 6 by omega) ec9 hc9
                refine hd_aload_n 77 C dX3_goHour_76 rfl 2 rfl rfl ?_
                refine hd_iload_n 78 C dX3_goHour_77 rfl 1 rfl rfl ?_
                refine hd_iload 80 C dX3_goHour_78 rfl 0 rfl ?_
                refine hd_iload_n 81 C dX3_goHour_80 rfl 3 rfl rfl ?_
                refine hd_callVV (rest := []) 84 C hK hZ hA ⟨Nat.zero_le _, Nat.zero_le _⟩ dX3_goHour_81 rfl kc_X3_185 (m_goOn (x / (N 0 0)) (x % (N 0 0)) h _ hI hx64 hxr (by omega) hB5 hg) ⟨rfl, rfl⟩ ⟨by decide, by decide⟩ 0 3 rfl rfl rfl rfl rfl (Nat.le_of_ble_eq_true rfl) (fun u81 h81 => ?_)
                obtain ⟨g5, rfl, hB6⟩ := h81
                refine hd_eqS (show (N, rZ (rZ Z 26 (upd g (x / (N 0 0)) (nI (c9 ||| (2 ^ (x % (N 0 0))))))) 26 g5, E, G, T) = (N, rZ Z 26 g5, E, G, T) from by rw [rZ_rZ]) ?_
                refine hd_iinc 87 C dX3_goHour_84 rfl 4 (nI (x + 1)) [(2, .int (nI (x + 1))), (4, .int (nI (x % (N 0 0)))), (3, .int (nI (x / (N 0 0)))), (0, .ref (a 0)), (1, .int (nI h))] rfl (nI_add _ _) (by decide) rfl ?_
                refine hd_goto 23 C dX3_goHour_87 (by decide) ?_
                refine hd_sub [(0, .ref (a 0)), (1, .int (nI h)), (2, .int (nI (x + 1)))] [3, 4, 0] rfl ?_
                exact ih_L2 (x + 1) g5 (by omega) (RB_congr hB6 (fun s r _ => stx_t hP hx64 hpx)) (by omega)
        refine hd_sub [(0, .ref (a 0)), (1, .int (nI h)), (2, .int (nI 0))] [1, 2, 0] rfl ?_
        exact L2 (64 * N 0 0 + 1) 0 _ (Nat.zero_le _) (fun s hs => ⟨0, by decide, hG s (by omega), fun r => ⟨fun q => absurd q (by rw [Nat.zero_testBit]; decide), fun q => absurd q stx_0⟩⟩) (by omega)
      · skip
        refine hd_aload_n 9 C dX3_goHour_8 rfl 0 rfl rfl ?_
        refine gm_thenIn 12 C hK dX3_goHour_9 rfl ?_
        refine hd_iload_n 13 C dX3_goHour_12 rfl 2 rfl rfl ?_
        refine hd_iconst 14 C dX3_goHour_13 rfl (nI 0) (by decide) ?_
        refine asm_thenIn 15 C hK dX3_goHour_14 rfl (by omega) ?_
        refine hd_eqS (show (N, uZ (rZ Z 26 g) 26 q (nI 0), E, G, T) = (N, rZ Z 26 (upd g q (nI 0)), E, G, T) from by rw [uZ_rZ]) ?_
        refine hd_iinc 18 C dX3_goHour_15 rfl 2 (nI (q + 1)) [(2, .int (nI (q + 1))), (0, .ref (a 0)), (1, .int (nI h))] rfl (nI_add _ _) (by decide) rfl ?_
        refine hd_goto 2 C dX3_goHour_18 (by decide) ?_
        refine hd_sub [(0, .ref (a 0)), (1, .int (nI h)), (2, .int (nI (q + 1)))] [1, 2, 0] rfl ?_
        exact ih_L1 (q + 1) _ (by omega) (fun y hy => by by_cases e9 : y = q; rw [e9, pk_us]; rw [pk_un e9]; exact hG y (by omega)) (by omega)
  refine hd_sub [(0, .ref (a 0)), (1, .int (nI h)), (2, .int (nI 0))] [1, 2, 0] rfl ?_
  exact L1 65 0 _ (Nat.zero_le _) (fun y hy => absurd hy (Nat.not_lt_zero y)) (by omega)

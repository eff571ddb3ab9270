set_option maxHeartbeats 4000000 in
set_option maxRecDepth 100000 in
theorem m_goOn {l : Launch} {D : va_G} {cI cJ cD cS : ClassId} {a : Nat → Nat} {N : Nat → Nat → Nat} {Z : Nat → Nat → Int32} {E : Nat → Nat → Int32} {G : Nat → Nat → Int64} {T : Nat → Nat} (st room h : Nat) (P : Nat → Nat → Prop) (hI : inv N) (hst : st < 64) (hr : room < N 0 0) (hh : h < 12) (hB0 : RB (Z 26) P) (hg : Z 0 2 = -9)  : ctV l D (ty4 cI cJ cD cS) none (wM cI a) yX3_goOn cX3_goOn 6 none (rmk 2 46) [.ref (a 0), .int (nI st), .int (nI room), .int (nI h)] (N, Z, E, G, T) (fun (u : sT) => ∃ g : Nat → Int32, u = (N, rZ Z 26 g, E, G, T) ∧ RB g (gO N h st room P (N 0 1))) := by
  refine ctV_of [(0, .ref (a 0)), (1, .int (nI st)), (2, .int (nI room)), (3, .int (nI h))] (by decide) (Nat.le_of_ble_eq_true rfl) rfl ?_
  intro p e s m args below meth c A C hK hZ hA
  have hR := hI.R
  have hDn := hI.D
  have hQn := hI.Q
  refine hd_iconst 1 C dX3_goOn_0 rfl (nI 0) (by decide) ?_
  refine hd_istore 3 C dX3_goOn_1 rfl [(4, .int (nI 0)), (0, .ref (a 0)), (1, .int (nI st)), (2, .int (nI room)), (3, .int (nI h))] (by decide) rfl ?_
  refine hd_eqS (show (N, Z, E, G, T) = (N, rZ Z 26 (Z 26), E, G, T) from by rw [rZ_self]) ?_
  have L : ∀ (fuel : Nat) (d : Nat) (g : Nat → Int32) (hd : d ≤ N 0 1) (hB : RB g (gO N h st room P d)), N 0 1 - d < fuel → XW p l e (rmk 2 46) s m args below meth c 6 0 0 A D (MQ below (va_Qv (fun (u : sT) => ∃ g : Nat → Int32, u = (N, rZ Z 26 g, E, G, T) ∧ RB g (gO N h st room P (N 0 1))) (cB D (ty4 cI cJ cD cS) (wM cI a) A) A) args s 0 0 A) (wM cI a) (N, rZ Z 26 g, E, G, T) 3 [(0, .ref (a 0)), (1, .int (nI st)), (2, .int (nI room)), (3, .int (nI h)), (4, .int (nI d))] [] := by
    intro fuel
    induction fuel with
    | zero => intro d g hd hB hfu; exact absurd hfu (Nat.not_lt_zero _)
    | succ fuel ih_L =>
      intro d g hd hB hfu_L
      refine hd_iload 5 C dX3_goOn_3 rfl 4 rfl ?_
      refine hd_aload_n 6 C dX3_goOn_5 rfl 0 rfl rfl ?_
      refine gm_doors 9 C hK dX3_goOn_6 rfl (nI (N 0 1)) rfl ?_
      refine hd_icmp_geN 12 51 C dX3_goOn_9 rfl (by decide) (by omega) (by omega) (fun h9 => ?_) (fun h9 => ?_)
      · skip
        have e9 : d = N 0 1 := by omega
        have hB2 : RB g (gO N h st room P (N 0 1)) := e9 ▸ hB
        exact hd_vret C hK dX3_goOn_51 ⟨g, rfl, hB2⟩
      · skip
        refine hd_aload_n 13 C dX3_goOn_12 rfl 0 rfl rfl ?_
        refine hd_iload_n 14 C dX3_goOn_13 rfl 2 rfl rfl ?_
        refine hd_iload_n 15 C dX3_goOn_14 rfl 3 rfl rfl ?_
        refine hd_iload 17 C dX3_goOn_15 rfl 4 rfl ?_
        refine hd_callVI (rest := []) 20 C hK hZ hA ⟨Nat.zero_le _, Nat.zero_le _⟩ dX3_goOn_17 rfl kc_X3_160 (m_behindW room h d hI (by omega) (by omega) (by omega) (-9) hg) ⟨rfl, rfl⟩ ⟨by decide, by decide⟩ 0 3 rfl rfl rfl rfl rfl (Nat.le_of_ble_eq_true rfl) (fun r17 u17 h17 => ?_)
        obtain ⟨rfl, rfl⟩ := h17
        rcases ho17 : bh N (-9) room h d with _ | rv17
        · skip
          refine hd_istore 22 C dX3_goOn_20 rfl [(5, .int (-9)), (0, .ref (a 0)), (1, .int (nI st)), (2, .int (nI room)), (3, .int (nI h)), (4, .int (nI d))] (by decide) rfl ?_
          refine hd_iload 24 C dX3_goOn_22 rfl 0 rfl ?_
          refine hd_if_lt 27 45 C dX3_goOn_24 rfl (by decide) (fun _ => ?_) (fun q => absurd (by decide) q)
          refine hd_iinc 48 C dX3_goOn_45 rfl 5 (nI (d + 1)) [(4, .int (nI (d + 1))), (5, .int (-9)), (0, .ref (a 0)), (1, .int (nI st)), (2, .int (nI room)), (3, .int (nI h))] rfl (nI_add _ _) (by decide) rfl ?_
          refine hd_goto 3 C dX3_goOn_48 (by decide) ?_
          refine hd_sub [(0, .ref (a 0)), (1, .int (nI st)), (2, .int (nI room)), (3, .int (nI h)), (4, .int (nI (d + 1)))] [2, 3, 4, 5, 0] rfl ?_
          exact ih_L (d + 1) g (by omega) (RB_congr hB (fun s r _ => gO_f ho17)) (by omega)
        · skip
          have hbrv17 := bh_lt hI (by omega) (by omega) _ ho17
          refine hd_istore 22 C dX3_goOn_20 rfl [(5, .int (nI rv17)), (0, .ref (a 0)), (1, .int (nI st)), (2, .int (nI room)), (3, .int (nI h)), (4, .int (nI d))] (by decide) rfl ?_
          refine hd_iload 24 C dX3_goOn_22 rfl 0 rfl ?_
          refine hd_if_ltP 27 45 C dX3_goOn_24 rfl (by decide) (by omega) ?_
          have hor : st ||| 2 ^ rv17 < 64 := or_lt hst (by omega)
          obtain ⟨b9, hb9, eb9, -⟩ := hB _ hor
          refine hd_aload_n 28 C dX3_goOn_27 rfl 1 rfl rfl ?_
          refine gm_thenIn 31 C hK dX3_goOn_28 rfl ?_
          refine hd_iload_n 32 C dX3_goOn_31 rfl 2 rfl rfl ?_
          refine hd_iconst 33 C dX3_goOn_32 rfl (nI 1) (by decide) ?_
          refine hd_iload 35 C dX3_goOn_33 rfl 0 rfl ?_
          refine hd_ishl 36 C dX3_goOn_35 rfl (nI (2 ^ rv17)) (nI_shl1 (by omega)) ?_
          refine hd_ior 37 C dX3_goOn_36 rfl (nI (st ||| (2 ^ rv17))) (fa_or _ _) ?_
          refine hd_dup2 38 C dX3_goOn_37 rfl rfl rfl ?_
          refine alm_thenIn 39 C hK dX3_goOn_38 rfl hor (nI b9) eb9 ?_
          refine hd_iconst 40 C dX3_goOn_39 rfl (nI 1) (by decide) ?_
          refine hd_iload 42 C dX3_goOn_40 rfl 0 rfl ?_
          refine hd_ishl 43 C dX3_goOn_42 rfl (nI (2 ^ rv17)) (nI_shl1 (by omega)) ?_
          refine hd_ior 44 C dX3_goOn_43 rfl (nI (b9 ||| (2 ^ rv17))) (fa_or _ _) ?_
          refine asm_thenIn 45 C hK dX3_goOn_44 rfl hor ?_
          refine hd_eqS (show (N, uZ (rZ Z 26 g) 26 (st ||| (2 ^ rv17)) (nI (b9 ||| (2 ^ rv17))), E, G, T) = (N, rZ Z 26 (upd g (st ||| (2 ^ rv17)) (nI (b9 ||| (2 ^ rv17)))), E, G, T) from by rw [uZ_rZ]) ?_
          refine hd_iinc 48 C dX3_goOn_45 rfl 5 (nI (d + 1)) [(4, .int (nI (d + 1))), (5, .int (nI rv17)), (0, .ref (a 0)), (1, .int (nI st)), (2, .int (nI room)), (3, .int (nI h))] rfl (nI_add _ _) (by decide) rfl ?_
          refine hd_goto 3 C dX3_goOn_48 (by decide) ?_
          refine hd_sub [(0, .ref (a 0)), (1, .int (nI st)), (2, .int (nI room)), (3, .int (nI h)), (4, .int (nI (d + 1)))] [2, 3, 4, 5, 0] rfl ?_
          exact ih_L (d + 1) _ (by omega) (RB_congr (RB_up hB hor (by omega) eb9 hb9) (fun s r _ => gO_t ho17)) (by omega)
  refine hd_sub [(0, .ref (a 0)), (1, .int (nI st)), (2, .int (nI room)), (3, .int (nI h)), (4, .int (nI 0))] [1, 2, 3, 4, 0] rfl ?_
  exact L (N 0 1 + 1) 0 _ (Nat.zero_le _) (RB_congr hB0 (fun s r _ => gO_0)) (by omega)

set_option maxHeartbeats 4000000 in
set_option maxRecDepth 100000 in
theorem m_goHour {l : Launch} {D : va_G} {cI cJ cD cS : ClassId} {a : Nat → Nat} {N : Nat → Nat → Nat} {Z : Nat → Nat → Int32} {E : Nat → Nat → Int32} {G : Nat → Nat → Int64} {T : Nat → Nat} (h : Nat) (P : Nat → Nat → Prop) (hI : inv N) (hh : h < 12) (hP : ∀ s r, P s r → r < N 0 0) (hB : RB (Z 25) P) (hg : Z 0 2 = -9)  : ctV l D (ty4 cI cJ cD cS) none (wM cI a) yX3_goHour cX3_goHour 5 none (rmk 3 71) [.ref (a 0), .int (nI h)] (N, Z, E, G, T) (fun (u : sT) => ∃ f g : Nat → Int32, u = (N, rZ (rZ Z 26 g) 25 f, E, G, T) ∧ RB f (stp N h P)) := by
  refine ctV_of [(0, .ref (a 0)), (1, .int (nI h))] (by decide) (Nat.le_of_ble_eq_true rfl) rfl ?_
  intro p e s m args below meth c A C hK hZ hA
  have hR := hI.R
  have hDn := hI.D
  have hQn := hI.Q
  refine hd_iconst 1 C dX3_goHour_0 rfl (nI 0) (by decide) ?_
  refine hd_istore_n 2 C dX3_goHour_1 rfl [(2, .int (nI 0)), (0, .ref (a 0)), (1, .int (nI h))] rfl (by decide) rfl ?_
  refine hd_eqS (show (N, Z, E, G, T) = (N, rZ Z 26 (Z 26), E, G, T) from by rw [rZ_self]) ?_
  have L1 : ∀ (fuel : Nat) (q : Nat) (g : Nat → Int32) (hq : q ≤ 64) (hG : ∀ y, y < q → g y = nI 0), 64 - q < fuel → XW p l e (rmk 3 71) s m args below meth c 5 0 0 A D (MQ below (va_Qv (fun (u : sT) => ∃ f g : Nat → Int32, u = (N, rZ (rZ Z 26 g) 25 f, E, G, T) ∧ RB f (stp N h P)) (cB D (ty4 cI cJ cD cS) (wM cI a) A) A) args s 0 0 A) (wM cI a) (N, rZ Z 26 g, E, G, T) 2 [(0, .ref (a 0)), (1, .int (nI h)), (2, .int (nI q))] [] := by
    intro fuel
    induction fuel with
    | zero => intro q g hq hG hfu; exact absurd hfu (Nat.not_lt_zero _)
    | succ fuel ih_L1 =>
      intro q g hq hG hfu_L1
      refine hd_iload_n 3 C dX3_goHour_2 rfl 2 rfl rfl ?_
      refine hd_bipush 5 C dX3_goHour_3 rfl (nI 64) (by decide) ?_
      refine hd_icmp_geN 8 21 C dX3_goHour_5 rfl (by decide) (by omega) (by omega) (fun h5 => ?_) (fun h5 => ?_)
      · skip
        refine hd_iconst 22 C dX3_goHour_21 rfl (nI 0) (by decide) ?_
        refine hd_istore_n 23 C dX3_goHour_22 rfl [(2, .int (nI 0)), (0, .ref (a 0)), (1, .int (nI h))] rfl (by decide) rfl ?_
        have L2 : ∀ (fuel : Nat) (x : Nat) (g : Nat → Int32) (hx : x ≤ 64 * N 0 0) (hB2 : RB g (stx N h P x)), 64 * N 0 0 - x < fuel → XW p l e (rmk 3 71) s m args below meth c 5 0 0 A D (MQ below (va_Qv (fun (u : sT) => ∃ f g : Nat → Int32, u = (N, rZ (rZ Z 26 g) 25 f, E, G, T) ∧ RB f (stp N h P)) (cB D (ty4 cI cJ cD cS) (wM cI a) A) A) args s 0 0 A) (wM cI a) (N, rZ Z 26 g, E, G, T) 23 [(0, .ref (a 0)), (1, .int (nI h)), (2, .int (nI x))] [] := by
          intro fuel
          induction fuel with
          | zero => intro x g hx hB2 hfu; exact absurd hfu (Nat.not_lt_zero _)
          | succ fuel ih_L2 =>
            intro x g hx hB2 hfu_L2
            refine hd_iload_n 24 C dX3_goHour_23 rfl 2 rfl rfl ?_
            refine hd_bipush 26 C dX3_goHour_24 rfl (nI 64) (by decide) ?_
            refine hd_aload_n 27 C dX3_goHour_26 rfl 0 rfl rfl ?_
            refine gm_rooms 30 C hK dX3_goHour_27 rfl (nI (N 0 0)) rfl ?_
            refine hd_imul 31 C dX3_goHour_30 rfl (nI (64 * (N 0 0))) (pk_mul _ _) ?_
            refine hd_icmp_geN 34 90 C dX3_goHour_31 rfl (by decide) (by omega) (by omega) (fun h31 => ?_) (fun h31 => ?_)
            · skip
              refine hd_iconst 91 C dX3_goHour_90 rfl (nI 0) (by decide) ?_
              refine hd_istore_n 92 C dX3_goHour_91 rfl [(2, .int (nI 0)), (0, .ref (a 0)), (1, .int (nI h))] rfl (by decide) rfl ?_
              refine hd_eqS (show (N, rZ Z 26 g, E, G, T) = (N, rZ (rZ Z 26 g) 25 (Z 25), E, G, T) from by rw [← rr_25]) ?_
              have L3 : ∀ (fuel : Nat) (q : Nat) (f : Nat → Int32) (hq3 : q ≤ 64) (hF : ∀ y, y < q → f y = g y), 64 - q < fuel → XW p l e (rmk 3 71) s m args below meth c 5 0 0 A D (MQ below (va_Qv (fun (u : sT) => ∃ f g : Nat → Int32, u = (N, rZ (rZ Z 26 g) 25 f, E, G, T) ∧ RB f (stp N h P)) (cB D (ty4 cI cJ cD cS) (wM cI a) A) A) args s 0 0 A) (wM cI a) (N, rZ (rZ Z 26 g) 25 f, E, G, T) 92 [(0, .ref (a 0)), (1, .int (nI h)), (2, .int (nI q))] [] := by
                intro fuel
                induction fuel with
                | zero => intro q f hq3 hF hfu; exact absurd hfu (Nat.not_lt_zero _)
                | succ fuel ih_L3 =>
                  intro q f hq3 hF hfu_L3
                  refine hd_iload_n 93 C dX3_goHour_92 rfl 2 rfl rfl ?_
                  refine hd_bipush 95 C dX3_goHour_93 rfl (nI 64) (by decide) ?_
                  refine hd_icmp_geN 98 116 C dX3_goHour_95 rfl (by decide) (by omega) (by omega) (fun h95 => ?_) (fun h95 => ?_)
                  · skip
                    exact hd_vret C hK dX3_goHour_116 ⟨f, g, rfl, RB_eq (RB_congr hB2 (fun s r hs => stx_end hP (by omega) hs)) (fun s hs => hF s (by omega))⟩
                  · skip
                    refine hd_aload_n 99 C dX3_goHour_98 rfl 0 rfl rfl ?_
                    refine gm_beenIn 102 C hK dX3_goHour_99 rfl ?_
                    refine hd_iload_n 103 C dX3_goHour_102 rfl 2 rfl rfl ?_
                    refine hd_aload_n 104 C dX3_goHour_103 rfl 0 rfl rfl ?_
                    refine gm_thenIn 107 C hK dX3_goHour_104 rfl ?_
                    refine hd_iload_n 108 C dX3_goHour_107 rfl 2 rfl rfl ?_
                    refine alm_thenIn 109 C hK dX3_goHour_108 rfl (by omega) (g q) rfl ?_
                    refine asm_beenIn 110 C hK dX3_goHour_109 rfl (by omega) ?_
                    refine hd_eqS (show (N, uZ (rZ (rZ Z 26 g) 25 f) 25 q (g q), E, G, T) = (N, rZ (rZ Z 26 g) 25 (upd f q (g q)), E, G, T) from by rw [uZ_rZ]) ?_
                    refine hd_iinc 113 C dX3_goHour_110 rfl 2 (nI (q + 1)) [(2, .int (nI (q + 1))), (0, .ref (a 0)), (1, .int (nI h))] rfl (nI_add _ _) (by decide) rfl ?_
                    refine hd_goto 92 C dX3_goHour_113 (by decide) ?_
                    refine hd_sub [(0, .ref (a 0)), (1, .int (nI h)), (2, .int (nI (q + 1)))] [1, 2, 0] rfl ?_
                    exact ih_L3 (q + 1) _ (by omega) (fun y hy => by by_cases e9 : y = q; rw [e9, pk_us]; rw [pk_un e9]; exact hF y (by omega)) (by omega)
              refine hd_sub [(0, .ref (a 0)), (1, .int (nI h)), (2, .int (nI 0))] [1, 2, 0] rfl ?_
              exact L3 65 0 _ (Nat.zero_le _) (fun y hy => absurd hy (Nat.not_lt_zero y)) (by omega)
            · skip
              have hR0 : 0 < N 0 0 := by omega
              have hx64 : x / N 0 0 < 64 := Nat.div_lt_of_lt_mul (by rw [Nat.mul_comm]; exact h31)
              have hxr : x % N 0 0 < N 0 0 := Nat.mod_lt _ hR0
              obtain ⟨b9, hb9, eb9, hbP⟩ := hB (x / N 0 0) hx64
              refine hd_iload_n 35 C dX3_goHour_34 rfl 2 rfl rfl ?_
              refine hd_aload_n 36 C dX3_goHour_35 rfl 0 rfl rfl ?_
              refine gm_rooms 39 C hK dX3_goHour_36 rfl (nI (N 0 0)) rfl ?_
              refine hd_idiv 40 C dX3_goHour_39 rfl (nI (x / (N 0 0))) (nI_ne0 (by omega) (by omega)) (pk_div (by omega) (by omega) (by omega)) ?_
              refine hd_istore_n 41 C dX3_goHour_40 rfl [(3, .int (nI (x / (N 0 0)))), (0, .ref (a 0)), (1, .int (nI h)), (2, .int (nI x))] rfl (by decide) rfl ?_
              refine hd_iload_n 42 C dX3_goHour_41 rfl 3 rfl rfl ?_
              refine hd_aload_n 43 C dX3_goHour_42 rfl 1 rfl rfl ?_
              refine gm_rooms 46 C hK dX3_goHour_43 rfl (nI (N 0 0)) rfl ?_
              refine hd_irem 47 C dX3_goHour_46 rfl (nI (x % (N 0 0))) (nI_ne0 (by omega) (by omega)) (pk_rem (by omega) (by omega) (by omega)) ?_
              refine hd_istore 49 C dX3_goHour_47 rfl [(4, .int (nI (x % (N 0 0)))), (3, .int (nI (x / (N 0 0)))), (0, .ref (a 0)), (1, .int (nI h)), (2, .int (nI x))] (by decide) rfl ?_
              refine hd_aload_n 50 C dX3_goHour_49 rfl 2 rfl rfl ?_
              refine gm_beenIn 53 C hK dX3_goHour_50 rfl ?_
              refine hd_iload_n 54 C dX3_goHour_53 rfl 1 rfl rfl ?_
              refine alm_beenIn 55 C hK dX3_goHour_54 rfl hx64 (nI b9) eb9 ?_
              refine hd_iload 57 C dX3_goHour_55 rfl 0 rfl ?_
              refine hd_callSI (rest := []) 60 C hK hZ hA ⟨Nat.zero_le _, Nat.zero_le _⟩ dX3_goHour_57 rfl kc_X3_172 (m_isIn b9 (x % (N 0 0)) (by omega) (by omega)) ⟨rfl, rfl⟩ ⟨by decide, by decide⟩ rfl rfl (Nat.le_of_ble_eq_true rfl) (fun r57 u57 h57 => ?_)
              obtain ⟨rfl, rfl⟩ := h57
              refine hd_if_eqB 63 84 C dX3_goHour_60 rfl (by decide) (fun h60 => ?_) (fun h60 => ?_)
              · skip
                have hpx : ¬ P (x / N 0 0) (x % N 0 0) := fun q => absurd ((hbP _).mpr q) (by rw [h60]; decide)
                refine hd_iinc 87 C dX3_goHour_84 rfl 4 (nI (x + 1)) [(2, .int (nI (x + 1))), (4, .int (nI (x % (N 0 0)))), (3, .int (nI (x / (N 0 0)))), (0, .ref (a 0)), (1, .int (nI h))] rfl (nI_add _ _) (by decide) rfl ?_
                refine hd_goto 23 C dX3_goHour_87 (by decide) ?_
                refine hd_sub [(0, .ref (a 0)), (1, .int (nI h)), (2, .int (nI (x + 1)))] [3, 4, 0] rfl ?_
                exact ih_L2 (x + 1) g (by omega) (RB_congr hB2 (fun s r _ => stx_f hP hpx)) (by omega)
              · skip
                have hpx : P (x / N 0 0) (x % N 0 0) := (hbP _).mp h60
                obtain ⟨c9, hc9, ec9, -⟩ := hB2 (x / N 0 0) hx64
                refine hd_aload_n 64 C dX3_goHour_63 rfl 2 rfl rfl ?_
                refine gm_thenIn 67 C hK dX3_goHour_64 rfl ?_
                refine hd_iload_n 68 C dX3_goHour_67 rfl 1 rfl rfl ?_
                refine hd_dup2 69 C dX3_goHour_68 rfl rfl rfl ?_
                refine alm_thenIn 70 C hK dX3_goHour_69 rfl hx64 (nI c9) ec9 ?_
                refine hd_iconst 71 C dX3_goHour_70 rfl (nI 1) (by decide) ?_
                refine hd_iload 73 C dX3_goHour_71 rfl 0 rfl ?_
                refine hd_ishl 74 C dX3_goHour_73 rfl (nI (2 ^ (x % (N 0 0)))) (nI_shl1 (by omega)) ?_
                refine hd_ior 75 C dX3_goHour_74 rfl (nI (c9 ||| (2 ^ (x % (N 0 0))))) (fa_or _ _) ?_
                refine asm_thenIn 76 C hK dX3_goHour_75 rfl hx64 ?_
                refine hd_eqS (show (N, uZ (rZ Z 26 g) 26 (x / (N 0 0)) (nI (c9 ||| (2 ^ (x % (N 0 0))))), E, G, T) = (N, rZ Z 26 (upd g (x / (N 0 0)) (nI (c9 ||| (2 ^ (x % (N 0 0)))))), E, G, T) from by rw [uZ_rZ]) ?_
                have hB5 := RB_up hB2 hx64 (show x % N 0 0 < 6 by omega) ec9 hc9
                refine hd_aload_n 77 C dX3_goHour_76 rfl 2 rfl rfl ?_
                refine hd_iload_n 78 C dX3_goHour_77 rfl 1 rfl rfl ?_
                refine hd_iload 80 C dX3_goHour_78 rfl 0 rfl ?_
                refine hd_iload_n 81 C dX3_goHour_80 rfl 3 rfl rfl ?_
                refine hd_callVV (rest := []) 84 C hK hZ hA ⟨Nat.zero_le _, Nat.zero_le _⟩ dX3_goHour_81 rfl kc_X3_185 (m_goOn (x / (N 0 0)) (x % (N 0 0)) h _ hI hx64 hxr (by omega) hB5 hg) ⟨rfl, rfl⟩ ⟨by decide, by decide⟩ 0 3 rfl rfl rfl rfl rfl (Nat.le_of_ble_eq_true rfl) (fun u81 h81 => ?_)
                obtain ⟨g5, rfl, hB6⟩ := h81
                refine hd_eqS (show (N, rZ (rZ Z 26 (upd g (x / (N 0 0)) (nI (c9 ||| (2 ^ (x % (N 0 0))))))) 26 g5, E, G, T) = (N, rZ Z 26 g5, E, G, T) from by rw [rZ_rZ]) ?_
                refine hd_iinc 87 C dX3_goHour_84 rfl 4 (nI (x + 1)) [(2, .int (nI (x + 1))), (4, .int (nI (x % (N 0 0)))), (3, .int (nI (x / (N 0 0)))), (0, .ref (a 0)), (1, .int (nI h))] rfl (nI_add _ _) (by decide) rfl ?_
                refine hd_goto 23 C dX3_goHour_87 (by decide) ?_
                refine hd_sub [(0, .ref (a 0)), (1, .int (nI h)), (2, .int (nI (x + 1)))] [3, 4, 0] rfl ?_
                exact ih_L2 (x + 1) g5 (by omega) (RB_congr hB6 (fun s r _ => stx_t hP hx64 hpx)) (by omega)
        refine hd_sub [(0, .ref (a 0)), (1, .int (nI h)), (2, .int (nI 0))] [1, 2, 0] rfl ?_
        exact L2 (64 * N 0 0 + 1) 0 _ (Nat.zero_le _) (fun s hs => ⟨0, by decide, hG s (by omega), fun r => ⟨fun q => absurd q (by rw [Nat.zero_testBit]; decide), fun q => absurd q stx_0⟩⟩) (by omega)
      · skip
        refine hd_aload_n 9 C dX3_goHour_8 rfl 0 rfl rfl ?_
        refine gm_thenIn 12 C hK dX3_goHour_9 rfl ?_
        refine hd_iload_n 13 C dX3_goHour_12 rfl 2 rfl rfl ?_
        refine hd_iconst 14 C dX3_goHour_13 rfl (nI 0) (by decide) ?_
        refine asm_thenIn 15 C hK dX3_goHour_14 rfl (by omega) ?_
        refine hd_eqS (show (N, uZ (rZ Z 26 g) 26 q (nI 0), E, G, T) = (N, rZ Z 26 (upd g q (nI 0)), E, G, T) from by rw [uZ_rZ]) ?_
        refine hd_iinc 18 C dX3_goHour_15 rfl 2 (nI (q + 1)) [(2, .int (nI (q + 1))), (0, .ref (a 0)), (1, .int (nI h))] rfl (nI_add _ _) (by decide) rfl ?_
        refine hd_goto 2 C dX3_goHour_18 (by decide) ?_
        refine hd_sub [(0, .ref (a 0)), (1, .int (nI h)), (2, .int (nI (q + 1)))] [1, 2, 0] rfl ?_
        exact ih_L1 (q + 1) _ (by omega) (fun y hy => by by_cases e9 : y = q; rw [e9, pk_us]; rw [pk_un e9]; exact hG y (by omega)) (by omega)
  refine hd_sub [(0, .ref (a 0)), (1, .int (nI h)), (2, .int (nI 0))] [1, 2, 0] rfl ?_
  exact L1 65 0 _ (Nat.zero_le _) (fun y hy => absurd hy (Nat.not_lt_zero y)) (by omega)

set_option maxHeartbeats 4000000 in
set_option maxRecDepth 100000 in
theorem m_haveBeen {l : Launch} {D : va_G} {cI cJ cD cS : ClassId} {a : Nat → Nat} {N : Nat → Nat → Nat} {Z : Nat → Nat → Int32} {E : Nat → Nat → Int32} {G : Nat → Nat → Int64} {T : Nat → Nat} (st : Nat) (P : Nat → Nat → Prop) (hst : st < 64) (hB : RB (Z 25) P)  : ctI l D (ty4 cI cJ cD cS) none (wM cI a) yX3_haveBeen cX3_haveBeen 4 (some .boolean) (rmk 0 0) [.ref (a 0), .int (nI st)] (N, Z, E, G, T) (fun (r : Int32) (u : sT) => u = (N, Z, E, G, T) ∧ ∃ b : Bool, (b = true ↔ hvP P st) ∧ r = bI b) := by
  refine ctI_of [(0, .ref (a 0)), (1, .int (nI st))] (by decide) (Nat.le_of_ble_eq_true rfl) rfl ?_
  intro p e s m args below meth c A C hK hZ hA
  refine hd_iconst 1 C dX3_haveBeen_0 rfl (nI 0) (by decide) ?_
  refine hd_istore_n 2 C dX3_haveBeen_1 rfl [(2, .int (nI 0)), (0, .ref (a 0)), (1, .int (nI st))] rfl (by decide) rfl ?_
  refine hd_iconst 3 C dX3_haveBeen_2 rfl (nI 0) (by decide) ?_
  refine hd_istore_n 4 C dX3_haveBeen_3 rfl [(3, .int (nI 0)), (2, .int (nI 0)), (0, .ref (a 0)), (1, .int (nI st))] rfl (by decide) rfl ?_
  have L : ∀ (fuel : Nat) (q : Nat) (bv : Bool) (hq : q ≤ 64) (hV : bv = true ↔ hvq P st q), 64 - q < fuel → XW p l e (rmk 0 0) s m args below meth c 4 0 0 A D (MQ below (va_Qi (fun (r : Int32) (u : sT) => u = (N, Z, E, G, T) ∧ ∃ b : Bool, (b = true ↔ hvP P st) ∧ r = bI b) (cB D (ty4 cI cJ cD cS) (wM cI a) A) A) args s 0 0 A) (wM cI a) (N, Z, E, G, T) 4 [(0, .ref (a 0)), (1, .int (nI st)), (2, .int (bI bv)), (3, .int (nI q))] [] := by
    intro fuel
    induction fuel with
    | zero => intro q bv hq hV hfu; exact absurd hfu (Nat.not_lt_zero _)
    | succ fuel ih_L =>
      intro q bv hq hV hfu_L
      refine hd_iload_n 5 C dX3_haveBeen_4 rfl 3 rfl rfl ?_
      refine hd_bipush 7 C dX3_haveBeen_5 rfl (nI 64) (by decide) ?_
      refine hd_icmp_geN 10 43 C dX3_haveBeen_7 rfl (by decide) (by omega) (by omega) (fun h7 => ?_) (fun h7 => ?_)
      · skip
        refine hd_iload_n 44 C dX3_haveBeen_43 rfl 2 rfl rfl ?_
        have e9 : q = 64 := by omega
        subst e9
        exact hd_zret C hK dX3_haveBeen_44 (bI_01 _) ⟨rfl, bv, hV, rfl⟩
      · skip
        refine hd_iload_n 11 C dX3_haveBeen_10 rfl 2 rfl rfl ?_
        refine hd_if_neB 14 31 C dX3_haveBeen_11 rfl (by decide) (fun h11 => ?_) (fun h11 => ?_)
        · skip
          refine hd_iconst 32 C dX3_haveBeen_31 rfl (nI 1) (by decide) ?_
          refine hd_goto 36 C dX3_haveBeen_32 (by decide) ?_
          refine hd_istore_n 37 C dX3_haveBeen_36 rfl [(2, .int (nI 1)), (0, .ref (a 0)), (1, .int (nI st)), (3, .int (nI q))] rfl (by decide) rfl ?_
          refine hd_iinc 40 C dX3_haveBeen_37 rfl 3 (nI (q + 1)) [(3, .int (nI (q + 1))), (2, .int (nI 1)), (0, .ref (a 0)), (1, .int (nI st))] rfl (nI_add _ _) (by decide) rfl ?_
          refine hd_goto 4 C dX3_haveBeen_40 (by decide) ?_
          refine hd_sub [(0, .ref (a 0)), (1, .int (nI st)), (2, .int (nI 1)), (3, .int (nI (q + 1)))] [2, 3, 1, 0] rfl ?_
          exact ih_L (q + 1) true (by omega) (⟨fun _ => hvq_t (hV.mp h11), fun _ => rfl⟩) (by omega)
        · skip
          obtain ⟨b9, hb9, eb9, hbP⟩ := hB q (by omega)
          refine hd_aload_n 15 C dX3_haveBeen_14 rfl 0 rfl rfl ?_
          refine gm_beenIn 18 C hK dX3_haveBeen_15 rfl ?_
          refine hd_iload_n 19 C dX3_haveBeen_18 rfl 3 rfl rfl ?_
          refine alm_beenIn 20 C hK dX3_haveBeen_19 rfl (by omega) (nI b9) eb9 ?_
          refine hd_if_eqN 23 35 C dX3_haveBeen_20 rfl (by decide) (by omega) (fun h20 => ?_) (fun h20 => ?_)
          · skip
            refine hd_iconst 36 C dX3_haveBeen_35 rfl (nI 0) (by decide) ?_
            refine hd_istore_n 37 C dX3_haveBeen_36 rfl [(2, .int (nI 0)), (0, .ref (a 0)), (1, .int (nI st)), (3, .int (nI q))] rfl (by decide) rfl ?_
            refine hd_iinc 40 C dX3_haveBeen_37 rfl 3 (nI (q + 1)) [(3, .int (nI (q + 1))), (2, .int (nI 0)), (0, .ref (a 0)), (1, .int (nI st))] rfl (nI_add _ _) (by decide) rfl ?_
            refine hd_goto 4 C dX3_haveBeen_40 (by decide) ?_
            refine hd_sub [(0, .ref (a 0)), (1, .int (nI st)), (2, .int (nI 0)), (3, .int (nI (q + 1)))] [2, 3, 1, 0] rfl ?_
            exact ih_L (q + 1) false (by omega) (⟨fun k => absurd k (by decide), fun k => absurd k (hvq_f (fun k => absurd (hV.mpr k) (by rw [h11]; decide)) (fun k => k.1.elim (fun r hr => absurd ((hbP r).mpr hr) (by rw [h20, Nat.zero_testBit]; decide))))⟩) (by omega)
          · skip
            refine hd_iload_n 24 C dX3_haveBeen_23 rfl 1 rfl rfl ?_
            refine hd_iload_n 25 C dX3_haveBeen_24 rfl 3 rfl rfl ?_
            refine hd_iconst 26 C dX3_haveBeen_25 rfl (-1) (by decide) ?_
            refine hd_ixor 27 C dX3_haveBeen_26 rfl ((nI q) ^^^ (-1)) rfl ?_
            refine hd_iand 28 C dX3_haveBeen_27 rfl ((nI st) &&& ((nI q) ^^^ (-1))) rfl ?_
            refine hd_if_ne 31 35 C dX3_haveBeen_28 rfl (by decide) (fun h28 => ?_) (fun h28 => ?_)
            · skip
              refine hd_iconst 36 C dX3_haveBeen_35 rfl (nI 0) (by decide) ?_
              refine hd_istore_n 37 C dX3_haveBeen_36 rfl [(2, .int (nI 0)), (0, .ref (a 0)), (1, .int (nI st)), (3, .int (nI q))] rfl (by decide) rfl ?_
              refine hd_iinc 40 C dX3_haveBeen_37 rfl 3 (nI (q + 1)) [(3, .int (nI (q + 1))), (2, .int (nI 0)), (0, .ref (a 0)), (1, .int (nI st))] rfl (nI_add _ _) (by decide) rfl ?_
              refine hd_goto 4 C dX3_haveBeen_40 (by decide) ?_
              refine hd_sub [(0, .ref (a 0)), (1, .int (nI st)), (2, .int (nI 0)), (3, .int (nI (q + 1)))] [2, 3, 1, 0] rfl ?_
              exact ih_L (q + 1) false (by omega) (⟨fun k => absurd k (by decide), fun k => absurd k (hvq_f (fun k => absurd (hV.mpr k) (by rw [h11]; decide)) (fun k => h28 ((andnot hst).mpr k.2)))⟩) (by omega)
            · skip
              refine hd_iconst 32 C dX3_haveBeen_31 rfl (nI 1) (by decide) ?_
              refine hd_goto 36 C dX3_haveBeen_32 (by decide) ?_
              refine hd_istore_n 37 C dX3_haveBeen_36 rfl [(2, .int (nI 1)), (0, .ref (a 0)), (1, .int (nI st)), (3, .int (nI q))] rfl (by decide) rfl ?_
              refine hd_iinc 40 C dX3_haveBeen_37 rfl 3 (nI (q + 1)) [(3, .int (nI (q + 1))), (2, .int (nI 1)), (0, .ref (a 0)), (1, .int (nI st))] rfl (nI_add _ _) (by decide) rfl ?_
              refine hd_goto 4 C dX3_haveBeen_40 (by decide) ?_
              refine hd_sub [(0, .ref (a 0)), (1, .int (nI st)), (2, .int (nI 1)), (3, .int (nI (q + 1)))] [2, 3, 1, 0] rfl ?_
              exact ih_L (q + 1) true (by omega) (⟨fun _ => ⟨q, by omega, (nz_bit h20).elim (fun r hr => ⟨r, (hbP r).mp hr⟩), (andnot hst).mp h28⟩, fun _ => rfl⟩) (by omega)
  refine hd_sub [(0, .ref (a 0)), (1, .int (nI st)), (2, .int (nI 0)), (3, .int (nI 0))] [2, 3, 1, 0] rfl ?_
  exact L 65 0 false (Nat.zero_le _) (⟨fun k => absurd k (by decide), fun ⟨_, k, _⟩ => absurd k (Nat.not_lt_zero _)⟩) (by omega)

set_option maxHeartbeats 4000000 in
set_option maxRecDepth 100000 in
theorem m_errands {l : Launch} {D : va_G} {cI cJ cD cS : ClassId} {a : Nat → Nat} {N : Nat → Nat → Nat} {Z : Nat → Nat → Int32} {E : Nat → Nat → Int32} {G : Nat → Nat → Int64} {T : Nat → Nat} (xf xs xh : Int32) (hI : inv N) (hg : Z 0 2 = -9)  : ctI l D (ty4 cI cJ cD cS) none (wM cI a) yX3_errands cX3_errands 5 (some .int) (rmk 4 95) [.ref (a 0), .int xf, .int xs, .int xh] (N, Z, E, G, T) (fun (r : Int32) (u : sT) => (∃ f g : Nat → Int32, u = (N, rZ (rZ Z 26 g) 25 f, E, G, T)) ∧ erP N xf xs xh r) := by
  refine ctI_of [(0, .ref (a 0)), (1, .int xf), (2, .int xs), (3, .int xh)] (by decide) (Nat.le_of_ble_eq_true rfl) rfl ?_
  intro p e s m args below meth c A C hK hZ hA
  have hR := hI.R
  have hDn := hI.D
  have hQn := hI.Q
  have hp64 : 2 ^ N 0 0 ≤ 2 ^ 6 := Nat.pow_le_pow_right (show 0 < 2 by decide) hI.R
  refine hd_aload_n 1 C dX3_errands_0 rfl 0 rfl rfl ?_
  refine hd_iload_n 2 C dX3_errands_1 rfl 1 rfl rfl ?_
  refine hd_callVI (rest := []) 5 C hK hZ hA ⟨Nat.zero_le _, Nat.zero_le _⟩ dX3_errands_2 rfl kc_X3_145 (m_noRoom xf hI) ⟨rfl, rfl⟩ ⟨by decide, by decide⟩ 0 3 rfl rfl rfl rfl rfl (Nat.le_of_ble_eq_true rfl) (fun r2 u2 h2 => ?_)
  obtain ⟨rfl, rfl⟩ := h2
  refine hd_if_eqB 8 10 C dX3_errands_5 rfl (by decide) (fun h5 => ?_) (fun h5 => ?_)
  · skip
    simp only [Bool.not_eq_true', Bool.not_eq_false'] at h5
    obtain ⟨r2, hj_r2, rfl⟩ := inB_t h5 (by omega)
    have hc_r2 : (nI r2).toNatClampNeg = r2 := nI_clamp (by omega)
    have h2r : 2 ^ r2 < 64 := pow_lt6 (by omega)
    refine hd_iload_n 11 C dX3_errands_10 rfl 2 rfl rfl ?_
    refine hd_i2l 12 C dX3_errands_11 rfl xs.toInt64 rfl ?_
    refine hd_lconst 13 C dX3_errands_12 rfl 0 (by decide) ?_
    refine hd_iconst 14 C dX3_errands_13 rfl (nI 1) (by decide) ?_
    refine hd_aload_n 15 C dX3_errands_14 rfl 0 rfl rfl ?_
    refine gm_rooms 18 C hK dX3_errands_15 rfl (nI (N 0 0)) rfl ?_
    refine hd_ishl 19 C dX3_errands_18 rfl (nI (2 ^ (N 0 0))) (nI_shl1 (by omega)) ?_
    refine hd_i2l 20 C dX3_errands_19 rfl ((nI (2 ^ (N 0 0))).toInt64) rfl ?_
    refine hd_lconst 21 C dX3_errands_20 rfl 1 (by decide) ?_
    refine hd_lsub 22 C dX3_errands_21 rfl (((nI (2 ^ (N 0 0))).toInt64) - 1) rfl ?_
    refine hd_callSI (rest := []) 25 C hK hZ hA ⟨Nat.zero_le _, Nat.zero_le _⟩ dX3_errands_22 rfl kc_X3_77 (m_in xs.toInt64 0 (((nI (2 ^ (N 0 0))).toInt64) - 1)) ⟨rfl, rfl⟩ ⟨by decide, by decide⟩ rfl rfl (Nat.le_of_ble_eq_true rfl) (fun r22 u22 h22 => ?_)
    obtain ⟨rfl, rfl⟩ := h22
    refine hd_if_eqB 28 35 C dX3_errands_25 rfl (by decide) (fun h25 => ?_) (fun h25 => ?_)
    · skip
      rw [inL_in xs (n := 2 ^ N 0 0) (by omega)] at h25
      refine hd_bipush 37 C dX3_errands_35 rfl (-2) (by decide) ?_
      exact hd_iret C hK dX3_errands_37 ⟨⟨Z 25, Z 26, by rw [rZ_self, rZ_self]⟩, Or.inr (Or.inl ⟨h5, fun k => absurd (k.1.symm.trans h25) (by decide), rfl⟩)⟩
    · skip
      rw [inL_in xs (n := 2 ^ N 0 0) (by omega)] at h25
      obtain ⟨s2, hj_s2, rfl⟩ := inB_t h25 (by omega)
      have hc_s2 : (nI s2).toNatClampNeg = s2 := nI_clamp (by omega)
      refine hd_iload_n 29 C dX3_errands_28 rfl 3 rfl rfl ?_
      refine hd_callSI (rest := []) 32 C hK hZ hA ⟨Nat.zero_le _, Nat.zero_le _⟩ dX3_errands_29 rfl kc_X3_137 (m_noHour xh) ⟨rfl, rfl⟩ ⟨by decide, by decide⟩ rfl rfl (Nat.le_of_ble_eq_true rfl) (fun r29 u29 h29 => ?_)
      obtain ⟨rfl, rfl⟩ := h29
      refine hd_if_eqB 35 38 C dX3_errands_32 rfl (by decide) (fun h32 => ?_) (fun h32 => ?_)
      · skip
        simp only [Bool.not_eq_true', Bool.not_eq_false'] at h32
        obtain ⟨h2, hj_h2, rfl⟩ := inB_t h32 (by decide)
        have hc_h2 : (nI h2).toNatClampNeg = h2 := nI_clamp (by omega)
        refine hd_iconst 39 C dX3_errands_38 rfl (nI 0) (by decide) ?_
        refine hd_istore 41 C dX3_errands_39 rfl [(4, .int (nI 0)), (0, .ref (a 0)), (1, .int (nI r2)), (2, .int (nI s2)), (3, .int (nI h2))] (by decide) rfl ?_
        refine hd_eqS (show (N, Z, E, G, T) = (N, rZ Z 25 (Z 25), E, G, T) from by rw [rZ_self]) ?_
        have L1 : ∀ (fuel : Nat) (q : Nat) (f : Nat → Int32) (hq : q ≤ 64) (hF : ∀ y, y < q → f y = nI (if y = 2 ^ r2 then 2 ^ r2 else 0)), 64 - q < fuel → XW p l e (rmk 4 95) s m args below meth c 5 0 0 A D (MQ below (va_Qi (fun (r : Int32) (u : sT) => (∃ f g : Nat → Int32, u = (N, rZ (rZ Z 26 g) 25 f, E, G, T)) ∧ erP N (nI r2) (nI s2) (nI h2) r) (cB D (ty4 cI cJ cD cS) (wM cI a) A) A) args s 0 0 A) (wM cI a) (N, rZ Z 25 f, E, G, T) 41 [(0, .ref (a 0)), (1, .int (nI r2)), (2, .int (nI s2)), (3, .int (nI h2)), (4, .int (nI q))] [] := by
          intro fuel
          induction fuel with
          | zero => intro q f hq hF hfu; exact absurd hfu (Nat.not_lt_zero _)
          | succ fuel ih_L1 =>
            intro q f hq hF hfu_L1
            refine hd_iload 43 C dX3_errands_41 rfl 4 rfl ?_
            refine hd_bipush 45 C dX3_errands_43 rfl (nI 64) (by decide) ?_
            refine hd_icmp_geN 48 76 C dX3_errands_45 rfl (by decide) (by omega) (by omega) (fun h45 => ?_) (fun h45 => ?_)
            · skip
              refine hd_iconst 77 C dX3_errands_76 rfl (nI 0) (by decide) ?_
              refine hd_istore 79 C dX3_errands_77 rfl [(4, .int (nI 0)), (0, .ref (a 0)), (1, .int (nI r2)), (2, .int (nI s2)), (3, .int (nI h2))] (by decide) rfl ?_
              refine hd_eqS (show (N, rZ Z 25 f, E, G, T) = (N, rZ (rZ Z 26 (Z 26)) 25 f, E, G, T) from by rw [← rr_26s]) ?_
              have L2 : ∀ (fuel : Nat) (tm : Nat) (f g : Nat → Int32) (ht : tm ≤ 25) (hB9 : RB f (est N r2 h2 tm)) (hno : ∀ y, y < tm → ¬ hvP (est N r2 h2 y) s2), 25 - tm < fuel → XW p l e (rmk 4 95) s m args below meth c 5 0 0 A D (MQ below (va_Qi (fun (r : Int32) (u : sT) => (∃ f g : Nat → Int32, u = (N, rZ (rZ Z 26 g) 25 f, E, G, T)) ∧ erP N (nI r2) (nI s2) (nI h2) r) (cB D (ty4 cI cJ cD cS) (wM cI a) A) A) args s 0 0 A) (wM cI a) (N, rZ (rZ Z 26 g) 25 f, E, G, T) 79 [(0, .ref (a 0)), (1, .int (nI r2)), (2, .int (nI s2)), (3, .int (nI h2)), (4, .int (nI tm))] [] := by
                intro fuel
                induction fuel with
                | zero => intro tm f g ht hB9 hno hfu; exact absurd hfu (Nat.not_lt_zero _)
                | succ fuel ih_L2 =>
                  intro tm f g ht hB9 hno hfu_L2
                  refine hd_iload 81 C dX3_errands_79 rfl 4 rfl ?_
                  refine hd_bipush 83 C dX3_errands_81 rfl (nI 24) (by decide) ?_
                  refine hd_icmp_gtN 86 114 C dX3_errands_83 rfl (by decide) (by omega) (by omega) (fun h83 => ?_) (fun h83 => ?_)
                  · skip
                    refine hd_bipush 116 C dX3_errands_114 rfl (-9) (by decide) ?_
                    exact hd_iret C hK dX3_errands_116 ⟨⟨f, g, rfl⟩, Or.inr (Or.inr ⟨h5, ⟨h25, h32⟩, by rw [show cl (nI r2) = r2 from hc_r2, show cl (nI s2) = s2 from hc_s2, show cl (nI h2) = h2 from hc_h2]; exact Or.inr ⟨rfl, fun y hy => hno y (by omega)⟩⟩)⟩
                  · skip
                    refine hd_aload_n 87 C dX3_errands_86 rfl 0 rfl rfl ?_
                    refine hd_iload_n 88 C dX3_errands_87 rfl 2 rfl rfl ?_
                    refine hd_callVI (rest := []) 91 C hK hZ hA ⟨Nat.zero_le _, Nat.zero_le _⟩ dX3_errands_88 rfl kc_X3_189 (m_haveBeen s2 _ (by omega) hB9) ⟨rfl, rfl⟩ ⟨by decide, by decide⟩ 0 3 rfl rfl rfl rfl rfl (Nat.le_of_ble_eq_true rfl) (fun r88 u88 h88 => ?_)
                    obtain ⟨rfl, bv9, hbv, rfl⟩ := h88
                    refine hd_if_eqB 94 97 C dX3_errands_91 rfl (by decide) (fun h91 => ?_) (fun h91 => ?_)
                    · skip
                      refine hd_aload_n 98 C dX3_errands_97 rfl 0 rfl rfl ?_
                      refine hd_iload_n 99 C dX3_errands_98 rfl 3 rfl rfl ?_
                      refine hd_iload 101 C dX3_errands_99 rfl 4 rfl ?_
                      refine hd_iadd 102 C dX3_errands_101 rfl (nI (h2 + tm)) (nI_add _ _) ?_
                      refine hd_bipush 104 C dX3_errands_102 rfl (nI 12) (by decide) ?_
                      refine hd_irem 105 C dX3_errands_104 rfl (nI ((h2 + tm) % 12)) (nI_ne0 (by omega) (by omega)) (pk_rem (by omega) (by omega) (by omega)) ?_
                      refine hd_callVV (rest := []) 108 C hK hZ hA ⟨Nat.zero_le _, Nat.zero_le _⟩ dX3_errands_105 rfl kc_X3_192 (m_goHour ((h2 + tm) % 12) _ hI (by omega) (est_lt hI (by omega) _) hB9 hg) ⟨rfl, rfl⟩ ⟨by decide, by decide⟩ 0 3 rfl rfl rfl rfl rfl (Nat.le_of_ble_eq_true rfl) (fun u105 h105 => ?_)
                      obtain ⟨f8, g8, rfl, hB8⟩ := h105
                      refine hd_eqS (show (N, rZ (rZ (rZ (rZ Z 26 g) 25 f) 26 g8) 25 f8, E, G, T) = (N, rZ (rZ Z 26 g8) 25 f8, E, G, T) from by rw [rr_26]) ?_
                      refine hd_iinc 111 C dX3_errands_108 rfl 4 (nI (tm + 1)) [(4, .int (nI (tm + 1))), (0, .ref (a 0)), (1, .int (nI r2)), (2, .int (nI s2)), (3, .int (nI h2))] rfl (nI_add _ _) (by decide) rfl ?_
                      refine hd_goto 79 C dX3_errands_111 (by decide) ?_
                      refine hd_sub [(0, .ref (a 0)), (1, .int (nI r2)), (2, .int (nI s2)), (3, .int (nI h2)), (4, .int (nI (tm + 1)))] [1, 2, 3, 4, 0] rfl ?_
                      exact ih_L2 (tm + 1) f8 g8 (by omega) hB8 (fun y hy => by by_cases e9 : y = tm; rw [e9]; exact fun k => absurd (hbv.mpr k) (by rw [h91]; decide); exact hno y (by omega)) (by omega)
                    · skip
                      refine hd_iload 96 C dX3_errands_94 rfl 4 rfl ?_
                      exact hd_iret C hK dX3_errands_96 ⟨⟨f, g, rfl⟩, Or.inr (Or.inr ⟨h5, ⟨h25, h32⟩, by rw [show cl (nI r2) = r2 from hc_r2, show cl (nI s2) = s2 from hc_s2, show cl (nI h2) = h2 from hc_h2]; exact Or.inl ⟨tm, by omega, rfl, hbv.mp h91, hno⟩⟩)⟩
              refine hd_sub [(0, .ref (a 0)), (1, .int (nI r2)), (2, .int (nI s2)), (3, .int (nI h2)), (4, .int (nI 0))] [1, 2, 3, 4, 0] rfl ?_
              exact L2 26 0 _ _ (Nat.zero_le _) (RB_start (by omega) (fun y hy => hF y (by omega))) (fun y hy => absurd hy (Nat.not_lt_zero y)) (by omega)
            · skip
              refine hd_aload_n 49 C dX3_errands_48 rfl 0 rfl rfl ?_
              refine gm_beenIn 52 C hK dX3_errands_49 rfl ?_
              refine hd_iload 54 C dX3_errands_52 rfl 4 rfl ?_
              refine hd_iload 56 C dX3_errands_54 rfl 4 rfl ?_
              refine hd_iconst 57 C dX3_errands_56 rfl (nI 1) (by decide) ?_
              refine hd_iload_n 58 C dX3_errands_57 rfl 1 rfl rfl ?_
              refine hd_ishl 59 C dX3_errands_58 rfl (nI (2 ^ r2)) (nI_shl1 (by omega)) ?_
              refine hd_icmp_neN 62 68 C dX3_errands_59 rfl (by decide) (by omega) (by omega) (fun h59 => ?_) (fun h59 => ?_)
              · skip
                refine hd_iconst 69 C dX3_errands_68 rfl (nI 0) (by decide) ?_
                refine asm_beenIn 70 C hK dX3_errands_69 rfl (by omega) ?_
                refine hd_eqS (show (N, uZ (rZ Z 25 f) 25 q (nI 0), E, G, T) = (N, rZ Z 25 (upd f q (nI 0)), E, G, T) from by rw [uZ_rZ]) ?_
                refine hd_iinc 73 C dX3_errands_70 rfl 4 (nI (q + 1)) [(4, .int (nI (q + 1))), (0, .ref (a 0)), (1, .int (nI r2)), (2, .int (nI s2)), (3, .int (nI h2))] rfl (nI_add _ _) (by decide) rfl ?_
                refine hd_goto 41 C dX3_errands_73 (by decide) ?_
                refine hd_sub [(0, .ref (a 0)), (1, .int (nI r2)), (2, .int (nI s2)), (3, .int (nI h2)), (4, .int (nI (q + 1)))] [1, 2, 3, 4, 0] rfl ?_
                exact ih_L1 (q + 1) _ (by omega) (fun y hy => by by_cases e9 : y = q; rw [e9, pk_us, if_neg h59]; rw [pk_un e9]; exact hF y (by omega)) (by omega)
              · skip
                refine hd_iconst 63 C dX3_errands_62 rfl (nI 1) (by decide) ?_
                refine hd_iload_n 64 C dX3_errands_63 rfl 1 rfl rfl ?_
                refine hd_ishl 65 C dX3_errands_64 rfl (nI (2 ^ r2)) (nI_shl1 (by omega)) ?_
                refine hd_goto 69 C dX3_errands_65 (by decide) ?_
                refine asm_beenIn 70 C hK dX3_errands_69 rfl (by omega) ?_
                refine hd_eqS (show (N, uZ (rZ Z 25 f) 25 q (nI (2 ^ r2)), E, G, T) = (N, rZ Z 25 (upd f q (nI (2 ^ r2))), E, G, T) from by rw [uZ_rZ]) ?_
                refine hd_iinc 73 C dX3_errands_70 rfl 4 (nI (q + 1)) [(4, .int (nI (q + 1))), (0, .ref (a 0)), (1, .int (nI r2)), (2, .int (nI s2)), (3, .int (nI h2))] rfl (nI_add _ _) (by decide) rfl ?_
                refine hd_goto 41 C dX3_errands_73 (by decide) ?_
                refine hd_sub [(0, .ref (a 0)), (1, .int (nI r2)), (2, .int (nI s2)), (3, .int (nI h2)), (4, .int (nI (q + 1)))] [1, 2, 3, 4, 0] rfl ?_
                exact ih_L1 (q + 1) _ (by omega) (fun y hy => by by_cases e9 : y = q; rw [e9, pk_us, if_pos h59]; rw [pk_un e9]; exact hF y (by omega)) (by omega)
        refine hd_sub [(0, .ref (a 0)), (1, .int (nI r2)), (2, .int (nI s2)), (3, .int (nI h2)), (4, .int (nI 0))] [1, 2, 3, 4, 0] rfl ?_
        exact L1 65 0 _ (Nat.zero_le _) (fun y hy => absurd hy (Nat.not_lt_zero y)) (by omega)
      · skip
        simp only [Bool.not_eq_true', Bool.not_eq_false'] at h32
        refine hd_bipush 37 C dX3_errands_35 rfl (-2) (by decide) ?_
        exact hd_iret C hK dX3_errands_37 ⟨⟨Z 25, Z 26, by rw [rZ_self, rZ_self]⟩, Or.inr (Or.inl ⟨h5, fun k => absurd (k.2.symm.trans h32) (by decide), rfl⟩)⟩
  · skip
    simp only [Bool.not_eq_true', Bool.not_eq_false'] at h5
    refine hd_iconst 9 C dX3_errands_8 rfl (-1) (by decide) ?_
    exact hd_iret C hK dX3_errands_9 ⟨⟨Z 25, Z 26, by rw [rZ_self, rZ_self]⟩, Or.inl ⟨h5, rfl⟩⟩

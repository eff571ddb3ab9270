set_option maxHeartbeats 4000000 in
set_option maxRecDepth 100000 in
theorem x_goesOn {l : Launch} {D : va_G} {tys : List (ClassId × FieldType)} {σ : Type} {w : σ → va_W} {S : σ} {t : Option Nat} (p2 R : Nat) (x : Int32) (hp : p2 < 100) (hR : R ≤ 6)  : ctI l D tys t w yX2_goesOn cX2_goesOn 3 (some .boolean) (rmk 0 0) [.int (nI p2), .int x, .int (nI R)] S (fun (r : Int32) (u : σ) => u = S ∧ r = bI (gOn p2 x R)) := by
  refine ctI_of [(0, .int (nI p2)), (1, .int x), (2, .int (nI R))] (by decide) (Nat.le_of_ble_eq_true rfl) rfl ?_
  intro p e s m args below meth c A C hK hZ hA
  refine hd_iload_n 1 C dX2_goesOn_0 rfl 0 rfl rfl ?_
  refine hd_if_neN 4 16 C dX2_goesOn_1 rfl (by decide) (by omega) (fun h1 => ?_) (fun h1 => ?_)
  · skip
    refine hd_iload_n 17 C dX2_goesOn_16 rfl 0 rfl rfl ?_
    refine hd_iconst 18 C dX2_goesOn_17 rfl (nI 1) (by decide) ?_
    refine hd_icmp_neN 21 39 C dX2_goesOn_18 rfl (by decide) (by omega) (by omega) (fun h18 => ?_) (fun h18 => ?_)
    · skip
      refine hd_iload_n 40 C dX2_goesOn_39 rfl 0 rfl rfl ?_
      refine hd_bipush 42 C dX2_goesOn_40 rfl (nI 42) (by decide) ?_
      refine hd_icmp_ltN 45 47 C dX2_goesOn_42 rfl (by decide) (by omega) (by omega) (fun h42 => ?_) (fun h42 => ?_)
      · skip
        have hp42 : ¬ 42 ≤ p2 := by omega
        refine hd_iload_n 48 C dX2_goesOn_47 rfl 0 rfl rfl ?_
        refine hd_iconst 49 C dX2_goesOn_48 rfl (nI 2) (by decide) ?_
        refine hd_isub 50 C dX2_goesOn_49 rfl (nI (p2 - 2)) (pk_sub (by omega)) ?_
        refine hd_iconst 51 C dX2_goesOn_50 rfl (nI 5) (by decide) ?_
        refine hd_irem 52 C dX2_goesOn_51 rfl (nI ((p2 - 2) % 5)) (nI_ne0 (by omega) (by omega)) (pk_rem (by omega) (by omega) (by omega)) ?_
        rcases sw5 (Nat.mod_lt (p2 - 2) (show 0 < 5 by decide)) with h5 | h5 | h5 | h5 | h5 <;> rw [h5]
        · skip
          refine hd_tableIn 88 C dX2_goesOn_52 (by decide) (by decide) rfl (by decide) ?_
          refine hd_iload_n 89 C dX2_goesOn_88 rfl 1 rfl rfl ?_
          refine hd_bipush 91 C dX2_goesOn_89 rfl (nI 59) (by decide) ?_
          refine hd_icmp_ne 94 98 C dX2_goesOn_91 rfl (by decide) (fun h91 => ?_) (fun h91 => ?_)
          · skip
            refine hd_iconst 99 C dX2_goesOn_98 rfl (nI 0) (by decide) ?_
            exact hd_zret C hK dX2_goesOn_99 (by decide) ⟨rfl, bI_is0 (by simp [gOn, h1, h18, h42, hp42, h5, h91])⟩
          · skip
            refine hd_iconst 95 C dX2_goesOn_94 rfl (nI 1) (by decide) ?_
            refine hd_goto 99 C dX2_goesOn_95 (by decide) ?_
            exact hd_zret C hK dX2_goesOn_99 (by decide) ⟨rfl, bI_is1 (by simp [gOn, h1, h18, h42, hp42, h5, h91])⟩
        · skip
          refine hd_tableIn 100 C dX2_goesOn_52 (by decide) (by decide) rfl (by decide) ?_
          refine hd_iload_n 101 C dX2_goesOn_100 rfl 1 rfl rfl ?_
          refine hd_bipush 103 C dX2_goesOn_101 rfl (nI 112) (by decide) ?_
          refine hd_icmp_eq 106 118 C dX2_goesOn_103 rfl (by decide) (fun h103 => ?_) (fun h103 => ?_)
          · skip
            refine hd_iconst 119 C dX2_goesOn_118 rfl (nI 1) (by decide) ?_
            refine hd_goto 123 C dX2_goesOn_119 (by decide) ?_
            exact hd_zret C hK dX2_goesOn_123 (by decide) ⟨rfl, bI_is1 (by simp [gOn, h1, h18, h42, hp42, h5, h103])⟩
          · skip
            refine hd_iload_n 107 C dX2_goesOn_106 rfl 1 rfl rfl ?_
            refine hd_bipush 109 C dX2_goesOn_107 rfl (nI 108) (by decide) ?_
            refine hd_icmp_eq 112 118 C dX2_goesOn_109 rfl (by decide) (fun h109 => ?_) (fun h109 => ?_)
            · skip
              refine hd_iconst 119 C dX2_goesOn_118 rfl (nI 1) (by decide) ?_
              refine hd_goto 123 C dX2_goesOn_119 (by decide) ?_
              exact hd_zret C hK dX2_goesOn_123 (by decide) ⟨rfl, bI_is1 (by simp [gOn, h1, h18, h42, hp42, h5, h103, h109])⟩
            · skip
              refine hd_iload_n 113 C dX2_goesOn_112 rfl 1 rfl rfl ?_
              refine hd_bipush 115 C dX2_goesOn_113 rfl (nI 99) (by decide) ?_
              refine hd_icmp_ne 118 122 C dX2_goesOn_115 rfl (by decide) (fun h115 => ?_) (fun h115 => ?_)
              · skip
                refine hd_iconst 123 C dX2_goesOn_122 rfl (nI 0) (by decide) ?_
                exact hd_zret C hK dX2_goesOn_123 (by decide) ⟨rfl, bI_is0 (by simp [gOn, h1, h18, h42, hp42, h5, h103, h109, h115])⟩
              · skip
                refine hd_iconst 119 C dX2_goesOn_118 rfl (nI 1) (by decide) ?_
                refine hd_goto 123 C dX2_goesOn_119 (by decide) ?_
                exact hd_zret C hK dX2_goesOn_123 (by decide) ⟨rfl, bI_is1 (by simp [gOn, h1, h18, h42, hp42, h5, h103, h109, h115])⟩
        · skip
          refine hd_tableIn 142 C dX2_goesOn_52 (by decide) (by decide) rfl (by decide) ?_
          refine hd_iload_n 143 C dX2_goesOn_142 rfl 1 rfl rfl ?_
          refine hd_bipush 145 C dX2_goesOn_143 rfl (nI 48) (by decide) ?_
          refine hd_icmp_lt 148 160 C dX2_goesOn_145 rfl (by decide) (fun h145 => ?_) (fun h145 => ?_)
          · skip
            refine hd_iconst 161 C dX2_goesOn_160 rfl (nI 0) (by decide) ?_
            exact hd_zret C hK dX2_goesOn_161 (by decide) ⟨rfl, bI_is0 (by simp [gOn, h1, h18, h42, hp42, h5, h145])⟩
          · skip
            refine hd_iload_n 149 C dX2_goesOn_148 rfl 1 rfl rfl ?_
            refine hd_bipush 151 C dX2_goesOn_149 rfl (nI 48) (by decide) ?_
            refine hd_iload_n 152 C dX2_goesOn_151 rfl 2 rfl rfl ?_
            refine hd_iadd 153 C dX2_goesOn_152 rfl (nI (48 + R)) (nI_add _ _) ?_
            refine hd_icmp_ge 156 160 C dX2_goesOn_153 rfl (by decide) (fun h153 => ?_) (fun h153 => ?_)
            · skip
              refine hd_iconst 161 C dX2_goesOn_160 rfl (nI 0) (by decide) ?_
              exact hd_zret C hK dX2_goesOn_161 (by decide) ⟨rfl, bI_is0 (by simp [gOn, h1, h18, h42, hp42, h5, h145, h153])⟩
            · skip
              refine hd_iconst 157 C dX2_goesOn_156 rfl (nI 1) (by decide) ?_
              refine hd_goto 161 C dX2_goesOn_157 (by decide) ?_
              exact hd_zret C hK dX2_goesOn_161 (by decide) ⟨rfl, bI_is1 (by simp [gOn, h1, h18, h42, hp42, h5, h145, h153])⟩
        · skip
          refine hd_tableIn 142 C dX2_goesOn_52 (by decide) (by decide) rfl (by decide) ?_
          refine hd_iload_n 143 C dX2_goesOn_142 rfl 1 rfl rfl ?_
          refine hd_bipush 145 C dX2_goesOn_143 rfl (nI 48) (by decide) ?_
          refine hd_icmp_lt 148 160 C dX2_goesOn_145 rfl (by decide) (fun h145 => ?_) (fun h145 => ?_)
          · skip
            refine hd_iconst 161 C dX2_goesOn_160 rfl (nI 0) (by decide) ?_
            exact hd_zret C hK dX2_goesOn_161 (by decide) ⟨rfl, bI_is0 (by simp [gOn, h1, h18, h42, hp42, h5, h145])⟩
          · skip
            refine hd_iload_n 149 C dX2_goesOn_148 rfl 1 rfl rfl ?_
            refine hd_bipush 151 C dX2_goesOn_149 rfl (nI 48) (by decide) ?_
            refine hd_iload_n 152 C dX2_goesOn_151 rfl 2 rfl rfl ?_
            refine hd_iadd 153 C dX2_goesOn_152 rfl (nI (48 + R)) (nI_add _ _) ?_
            refine hd_icmp_ge 156 160 C dX2_goesOn_153 rfl (by decide) (fun h153 => ?_) (fun h153 => ?_)
            · skip
              refine hd_iconst 161 C dX2_goesOn_160 rfl (nI 0) (by decide) ?_
              exact hd_zret C hK dX2_goesOn_161 (by decide) ⟨rfl, bI_is0 (by simp [gOn, h1, h18, h42, hp42, h5, h145, h153])⟩
            · skip
              refine hd_iconst 157 C dX2_goesOn_156 rfl (nI 1) (by decide) ?_
              refine hd_goto 161 C dX2_goesOn_157 (by decide) ?_
              exact hd_zret C hK dX2_goesOn_161 (by decide) ⟨rfl, bI_is1 (by simp [gOn, h1, h18, h42, hp42, h5, h145, h153])⟩
        · skip
          refine hd_tableIn 124 C dX2_goesOn_52 (by decide) (by decide) rfl (by decide) ?_
          refine hd_iload_n 125 C dX2_goesOn_124 rfl 1 rfl rfl ?_
          refine hd_bipush 127 C dX2_goesOn_125 rfl (nI 48) (by decide) ?_
          refine hd_icmp_lt 130 140 C dX2_goesOn_127 rfl (by decide) (fun h127 => ?_) (fun h127 => ?_)
          · skip
            refine hd_iconst 141 C dX2_goesOn_140 rfl (nI 0) (by decide) ?_
            exact hd_zret C hK dX2_goesOn_141 (by decide) ⟨rfl, bI_is0 (by simp [gOn, h1, h18, h42, hp42, h5, h127])⟩
          · skip
            refine hd_iload_n 131 C dX2_goesOn_130 rfl 1 rfl rfl ?_
            refine hd_bipush 133 C dX2_goesOn_131 rfl (nI 53) (by decide) ?_
            refine hd_icmp_gt 136 140 C dX2_goesOn_133 rfl (by decide) (fun h133 => ?_) (fun h133 => ?_)
            · skip
              refine hd_iconst 141 C dX2_goesOn_140 rfl (nI 0) (by decide) ?_
              exact hd_zret C hK dX2_goesOn_141 (by decide) ⟨rfl, bI_is0 (by simp [gOn, h1, h18, h42, hp42, h5, h127, h133])⟩
            · skip
              refine hd_iconst 137 C dX2_goesOn_136 rfl (nI 1) (by decide) ?_
              refine hd_goto 141 C dX2_goesOn_137 (by decide) ?_
              exact hd_zret C hK dX2_goesOn_141 (by decide) ⟨rfl, bI_is1 (by simp [gOn, h1, h18, h42, hp42, h5, h127, h133])⟩
      · skip
        refine hd_iconst 46 C dX2_goesOn_45 rfl (nI 0) (by decide) ?_
        exact hd_zret C hK dX2_goesOn_46 (by decide) ⟨rfl, bI_is0 (by simp [gOn, h1, h18, h42])⟩
    · skip
      refine hd_iload_n 22 C dX2_goesOn_21 rfl 1 rfl rfl ?_
      refine hd_bipush 24 C dX2_goesOn_22 rfl (nI 50) (by decide) ?_
      refine hd_icmp_lt 27 37 C dX2_goesOn_24 rfl (by decide) (fun h24 => ?_) (fun h24 => ?_)
      · skip
        refine hd_iconst 38 C dX2_goesOn_37 rfl (nI 0) (by decide) ?_
        exact hd_zret C hK dX2_goesOn_38 (by decide) ⟨rfl, bI_is0 (by simp [gOn, h1, h18, h24])⟩
      · skip
        refine hd_iload_n 28 C dX2_goesOn_27 rfl 1 rfl rfl ?_
        refine hd_bipush 30 C dX2_goesOn_28 rfl (nI 54) (by decide) ?_
        refine hd_icmp_gt 33 37 C dX2_goesOn_30 rfl (by decide) (fun h30 => ?_) (fun h30 => ?_)
        · skip
          refine hd_iconst 38 C dX2_goesOn_37 rfl (nI 0) (by decide) ?_
          exact hd_zret C hK dX2_goesOn_38 (by decide) ⟨rfl, bI_is0 (by simp [gOn, h1, h18, h24, h30])⟩
        · skip
          refine hd_iconst 34 C dX2_goesOn_33 rfl (nI 1) (by decide) ?_
          refine hd_goto 38 C dX2_goesOn_34 (by decide) ?_
          exact hd_zret C hK dX2_goesOn_38 (by decide) ⟨rfl, bI_is1 (by simp [gOn, h1, h18, h24, h30])⟩
  · skip
    refine hd_iload_n 5 C dX2_goesOn_4 rfl 1 rfl rfl ?_
    refine hd_bipush 7 C dX2_goesOn_5 rfl (nI 100) (by decide) ?_
    refine hd_icmp_ne 10 14 C dX2_goesOn_7 rfl (by decide) (fun h7 => ?_) (fun h7 => ?_)
    · skip
      refine hd_iconst 15 C dX2_goesOn_14 rfl (nI 0) (by decide) ?_
      exact hd_zret C hK dX2_goesOn_15 (by decide) ⟨rfl, bI_is0 (by simp [gOn, h1, h7])⟩
    · skip
      refine hd_iconst 11 C dX2_goesOn_10 rfl (nI 1) (by decide) ?_
      refine hd_goto 15 C dX2_goesOn_11 (by decide) ?_
      exact hd_zret C hK dX2_goesOn_15 (by decide) ⟨rfl, bI_is1 (by simp [gOn, h1, h7])⟩

set_option maxHeartbeats 4000000 in
set_option maxRecDepth 100000 in
theorem x_kindOfLetter {l : Launch} {D : va_G} {tys : List (ClassId × FieldType)} {σ : Type} {w : σ → va_W} {S : σ} {t : Option Nat} (x : Int32)  : ctI l D tys t w yX2_kindOfLetter cX2_kindOfLetter 1 (some .int) (rmk 0 0) [.int x] S (fun (r : Int32) (u : σ) => u = S ∧ r = nI (kdL x)) := by
  refine ctI_of [(0, .int x)] (by decide) (Nat.le_of_ble_eq_true rfl) rfl ?_
  intro p e s m args below meth c A C hK hZ hA
  refine hd_iload_n 1 C dX2_kindOfLetter_0 rfl 0 rfl rfl ?_
  refine hd_bipush 3 C dX2_kindOfLetter_1 rfl (nI 99) (by decide) ?_
  refine hd_icmp_ne 6 8 C dX2_kindOfLetter_3 rfl (by decide) (fun h3 => ?_) (fun h3 => ?_)
  · skip
    refine hd_iload_n 9 C dX2_kindOfLetter_8 rfl 0 rfl rfl ?_
    refine hd_bipush 11 C dX2_kindOfLetter_9 rfl (nI 108) (by decide) ?_
    refine hd_icmp_ne 14 18 C dX2_kindOfLetter_11 rfl (by decide) (fun h11 => ?_) (fun h11 => ?_)
    · skip
      refine hd_iconst 19 C dX2_kindOfLetter_18 rfl (nI 0) (by decide) ?_
      exact hd_iret C hK dX2_kindOfLetter_19 ⟨rfl, by unfold kdL; rw [if_neg h3, if_neg h11]⟩
    · skip
      refine hd_iconst 15 C dX2_kindOfLetter_14 rfl (nI 1) (by decide) ?_
      refine hd_goto 19 C dX2_kindOfLetter_15 (by decide) ?_
      exact hd_iret C hK dX2_kindOfLetter_19 ⟨rfl, by unfold kdL; rw [if_neg h3, if_pos h11]⟩
  · skip
    refine hd_iconst 7 C dX2_kindOfLetter_6 rfl (nI 2) (by decide) ?_
    exact hd_iret C hK dX2_kindOfLetter_7 ⟨rfl, by unfold kdL; rw [if_pos h3]⟩

set_option maxHeartbeats 4000000 in
set_option maxRecDepth 100000 in
theorem x_firstFault {l : Launch} {D : va_G} {cI cJ cD cS : ClassId} {a : Nat → Nat} {N : Nat → Nat → Nat} {Z : Nat → Nat → Int32} {E : Nat → Nat → Int32} {G : Nat → Nat → Int64} {T : Nat → Nat} {t : Option Nat} (k i n : Nat) (hk : k < 4) (hin : i + n ≤ 60)  : ctI l D (ty4 cI cJ cD cS) t (wX cI cJ cD cS a) yX2_firstFault cX2_firstFault 6 (some .int) (rmk 1 22) [.ref (a (30 + k)), .int (nI i), .int (nI n)] (N, Z, E, G, T) (fun (r : Int32) (u : sT) => u = (N, Z, E, G, T) ∧ r = oI (ffo (fun q => E k (i + q)) n n 0)) := by
  refine ctI_of [(0, .ref (a (30 + k))), (1, .int (nI i)), (2, .int (nI n))] (by decide) (Nat.le_of_ble_eq_true rfl) rfl ?_
  intro p e s m args below meth c A C hK hZ hA
  refine hd_iconst 1 C dX2_firstFault_0 rfl (nI 0) (by decide) ?_
  refine hd_istore_n 2 C dX2_firstFault_1 rfl [(3, .int (nI 0)), (0, .ref (a (30 + k))), (1, .int (nI i)), (2, .int (nI n))] rfl (by decide) rfl ?_
  refine hd_iconst 3 C dX2_firstFault_2 rfl (nI 0) (by decide) ?_
  refine hd_istore 5 C dX2_firstFault_3 rfl [(4, .int (nI 0)), (3, .int (nI 0)), (0, .ref (a (30 + k))), (1, .int (nI i)), (2, .int (nI n))] (by decide) rfl ?_
  have L : ∀ (fuel : Nat) (q x3 : Nat) (hq : q ≤ n) (hR : x3 ≤ 6) (hx3 : 2 ≤ q → x3 = dg (E k (i + 1))) (hF : ∀ y, y < q → gd (fun q => E k (i + q)) y = true), n - q < fuel → XW p l e (rmk 1 22) s m args below meth c 6 0 0 A D (MQ below (va_Qi (fun (r : Int32) (u : sT) => u = (N, Z, E, G, T) ∧ r = oI (ffo (fun q => E k (i + q)) n n 0)) (cB D (ty4 cI cJ cD cS) (wX cI cJ cD cS a) A) A) args s 0 0 A) (wX cI cJ cD cS a) (N, Z, E, G, T) 5 [(0, .ref (a (30 + k))), (1, .int (nI i)), (2, .int (nI n)), (3, .int (nI x3)), (4, .int (nI q))] [] := by
    intro fuel
    induction fuel with
    | zero => intro q x3 hq hR hx3 hF hfu; exact absurd hfu (Nat.not_lt_zero _)
    | succ fuel ih_L =>
      intro q x3 hq hR hx3 hF hfu_L
      refine hd_iload 7 C dX2_firstFault_5 rfl 4 rfl ?_
      refine hd_iload_n 8 C dX2_firstFault_7 rfl 2 rfl rfl ?_
      refine hd_icmp_geN 11 54 C dX2_firstFault_8 rfl (by decide) (by omega) (by omega) (fun h8 => ?_) (fun h8 => ?_)
      · skip
        refine hd_iload_n 55 C dX2_firstFault_54 rfl 2 rfl rfl ?_
        refine hd_iconst 56 C dX2_firstFault_55 rfl (nI 2) (by decide) ?_
        refine hd_icmp_leN 59 71 C dX2_firstFault_56 rfl (by decide) (by omega) (by omega) (fun h56 => ?_) (fun h56 => ?_)
        · skip
          refine hd_iconst 72 C dX2_firstFault_71 rfl (nI 0) (by decide) ?_
          refine hd_istore 74 C dX2_firstFault_72 rfl [(4, .int (nI 0)), (0, .ref (a (30 + k))), (1, .int (nI i)), (2, .int (nI n)), (3, .int (nI x3))] (by decide) rfl ?_
          refine hd_iload 76 C dX2_firstFault_74 rfl 0 rfl ?_
          refine hd_if_eq 79 84 C dX2_firstFault_76 rfl (by decide) (fun _ => ?_) (fun q => absurd (by decide) q)
          refine hd_iload_n 85 C dX2_firstFault_84 rfl 3 rfl rfl ?_
          have hE := ffo_end (fun y hy => hF y (by omega) : ∀ y, y < n → gd (fun q => E k (i + q)) y = true)
          exact hd_iret C hK dX2_firstFault_85 ⟨rfl, by rw [hE, if_neg (by omega)]; rfl⟩
        · skip
          refine hd_iload_n 60 C dX2_firstFault_59 rfl 2 rfl rfl ?_
          refine hd_iconst 61 C dX2_firstFault_60 rfl (nI 2) (by decide) ?_
          refine hd_isub 62 C dX2_firstFault_61 rfl (nI (n - 2)) (pk_sub (by omega)) ?_
          refine hd_iconst 63 C dX2_firstFault_62 rfl (nI 5) (by decide) ?_
          refine hd_irem 64 C dX2_firstFault_63 rfl (nI ((n - 2) % 5)) (nI_ne0 (by omega) (by omega)) (pk_rem (by omega) (by omega) (by omega)) ?_
          refine hd_if_neN 67 71 C dX2_firstFault_64 rfl (by decide) (by omega) (fun h64 => ?_) (fun h64 => ?_)
          · skip
            refine hd_iconst 72 C dX2_firstFault_71 rfl (nI 0) (by decide) ?_
            refine hd_istore 74 C dX2_firstFault_72 rfl [(4, .int (nI 0)), (0, .ref (a (30 + k))), (1, .int (nI i)), (2, .int (nI n)), (3, .int (nI x3))] (by decide) rfl ?_
            refine hd_iload 76 C dX2_firstFault_74 rfl 0 rfl ?_
            refine hd_if_eq 79 84 C dX2_firstFault_76 rfl (by decide) (fun _ => ?_) (fun q => absurd (by decide) q)
            refine hd_iload_n 85 C dX2_firstFault_84 rfl 3 rfl rfl ?_
            have hE := ffo_end (fun y hy => hF y (by omega) : ∀ y, y < n → gd (fun q => E k (i + q)) y = true)
            exact hd_iret C hK dX2_firstFault_85 ⟨rfl, by rw [hE, if_neg (by omega)]; rfl⟩
          · skip
            refine hd_iconst 68 C dX2_firstFault_67 rfl (nI 1) (by decide) ?_
            refine hd_goto 72 C dX2_firstFault_68 (by decide) ?_
            refine hd_istore 74 C dX2_firstFault_72 rfl [(4, .int (nI 1)), (0, .ref (a (30 + k))), (1, .int (nI i)), (2, .int (nI n)), (3, .int (nI x3))] (by decide) rfl ?_
            refine hd_iload 76 C dX2_firstFault_74 rfl 0 rfl ?_
            refine hd_if_eq 79 84 C dX2_firstFault_76 rfl (by decide) (fun q => absurd q (by decide)) (fun _ => ?_)
            refine hd_bipush 81 C dX2_firstFault_79 rfl (-9) (by decide) ?_
            refine hd_goto 85 C dX2_firstFault_81 (by decide) ?_
            have hE := ffo_end (fun y hy => hF y (by omega) : ∀ y, y < n → gd (fun q => E k (i + q)) y = true)
            exact hd_iret C hK dX2_firstFault_85 ⟨rfl, by rw [hE, if_pos ⟨by omega, by omega⟩]; rfl⟩
      · skip
        refine hd_aload_n 12 C dX2_firstFault_11 rfl 0 rfl rfl ?_
        refine gs2_cells (by omega) 15 C hK dX2_firstFault_12 rfl ?_
        refine hd_iload_n 16 C dX2_firstFault_15 rfl 1 rfl rfl ?_
        refine hd_iload 18 C dX2_firstFault_16 rfl 4 rfl ?_
        refine hd_iadd 19 C dX2_firstFault_18 rfl (nI (i + q)) (nI_add _ _) ?_
        refine alx_cells (by omega) 20 C hK dX2_firstFault_19 rfl (by omega) (E k (i + q)) rfl ?_
        refine hd_istore 22 C dX2_firstFault_20 rfl [(5, .int (E k (i + q))), (0, .ref (a (30 + k))), (1, .int (nI i)), (2, .int (nI n)), (3, .int (nI x3)), (4, .int (nI q))] (by decide) rfl ?_
        refine hd_iload 24 C dX2_firstFault_22 rfl 5 rfl ?_
        refine hd_iload 26 C dX2_firstFault_24 rfl 0 rfl ?_
        refine hd_iload_n 27 C dX2_firstFault_26 rfl 4 rfl rfl ?_
        refine hd_callSI (rest := []) 30 C hK hZ hA ⟨Nat.zero_le _, Nat.zero_le _⟩ dX2_firstFault_27 rfl kc_X2_198 (x_goesOn q x3 (E k (i + q)) (by omega) (by omega)) ⟨rfl, rfl⟩ ⟨by decide, by decide⟩ rfl rfl (Nat.le_of_ble_eq_true rfl) (fun r27 u27 h27 => ?_)
        obtain ⟨rfl, rfl⟩ := h27
        refine hd_if_neB 33 36 C dX2_firstFault_30 rfl (by decide) (fun h30 => ?_) (fun h30 => ?_)
        · skip
          have hgg : gd (fun q => E k (i + q)) q = gOn q (E k (i + q)) x3 := by
            by_cases h9 : 2 ≤ q
            · rw [hx3 h9]; rfl
            · exact gOn_01 (by omega) _ _ _
          have hgq : gd (fun q => E k (i + q)) q = true := by rw [hgg]; exact h30
          refine hd_iload 38 C dX2_firstFault_36 rfl 5 rfl ?_
          refine hd_iconst 39 C dX2_firstFault_38 rfl (nI 1) (by decide) ?_
          refine hd_icmp_neN 42 48 C dX2_firstFault_39 rfl (by decide) (by omega) (by omega) (fun h39 => ?_) (fun h39 => ?_)
          · skip
            refine hd_iinc 51 C dX2_firstFault_48 rfl 5 (nI (q + 1)) [(4, .int (nI (q + 1))), (5, .int (E k (i + q))), (0, .ref (a (30 + k))), (1, .int (nI i)), (2, .int (nI n)), (3, .int (nI x3))] rfl (nI_add _ _) (by decide) rfl ?_
            refine hd_goto 5 C dX2_firstFault_51 (by decide) ?_
            refine hd_sub [(0, .ref (a (30 + k))), (1, .int (nI i)), (2, .int (nI n)), (3, .int (nI x3)), (4, .int (nI (q + 1)))] [2, 3, 4, 5, 0] rfl ?_
            exact ih_L (q + 1) x3 (by omega) hR (by intro hq9; exact hx3 (by omega)) (fun y hy => by by_cases e9 : y = q; rw [e9]; exact hgq; exact hF y (by omega)) (by omega)
          · skip
            have hgR := gd_R (h39 ▸ hgq : gd (fun q => E k (i + q)) 1 = true)
            refine hd_iload 44 C dX2_firstFault_42 rfl 0 rfl ?_
            refine hd_bipush 46 C dX2_firstFault_44 rfl (nI 48) (by decide) ?_
            refine hd_isub 47 C dX2_firstFault_46 rfl (nI (dg (E k (i + 1)))) (by rw [show q = 1 from h39]; exact hgR.1) ?_
            refine hd_istore_n 48 C dX2_firstFault_47 rfl [(3, .int (nI (dg (E k (i + 1))))), (5, .int (E k (i + q))), (0, .ref (a (30 + k))), (1, .int (nI i)), (2, .int (nI n)), (4, .int (nI q))] rfl (by decide) rfl ?_
            refine hd_iinc 51 C dX2_firstFault_48 rfl 5 (nI (q + 1)) [(4, .int (nI (q + 1))), (3, .int (nI (dg (E k (i + 1))))), (5, .int (E k (i + q))), (0, .ref (a (30 + k))), (1, .int (nI i)), (2, .int (nI n))] rfl (nI_add _ _) (by decide) rfl ?_
            refine hd_goto 5 C dX2_firstFault_51 (by decide) ?_
            refine hd_sub [(0, .ref (a (30 + k))), (1, .int (nI i)), (2, .int (nI n)), (3, .int (nI (dg (E k (i + 1))))), (4, .int (nI (q + 1)))] [3, 4, 5, 1, 0] rfl ?_
            exact ih_L (q + 1) _ (by omega) hgR.2.2 (fun _ => rfl) (fun y hy => by by_cases e9 : y = q; rw [e9]; exact hgq; exact hF y (by omega)) (by omega)
        · skip
          have hgg : gd (fun q => E k (i + q)) q = gOn q (E k (i + q)) x3 := by
            by_cases h9 : 2 ≤ q
            · rw [hx3 h9]; rfl
            · exact gOn_01 (by omega) _ _ _
          have hgq : gd (fun q => E k (i + q)) q = false := by rw [hgg]; exact h30
          refine hd_iload 35 C dX2_firstFault_33 rfl 5 rfl ?_
          exact hd_iret C hK dX2_firstFault_35 ⟨rfl, by rw [ffo_stop h8 hF hgq]; rfl⟩
  refine hd_sub [(0, .ref (a (30 + k))), (1, .int (nI i)), (2, .int (nI n)), (3, .int (nI 0)), (4, .int (nI 0))] [2, 3, 4, 1, 0] rfl ?_
  exact L (n + 1) 0 0 (Nat.zero_le _) (Nat.zero_le _) (fun hq9 => absurd hq9 (by decide)) (fun y hy => absurd hy (Nat.not_lt_zero y)) (by omega)

set_option maxHeartbeats 4000000 in
set_option maxRecDepth 100000 in
theorem x_build {l : Launch} {D : va_G} {cI cJ cD cS : ClassId} {a : Nat → Nat} {N : Nat → Nat → Nat} {Z : Nat → Nat → Int32} {E : Nat → Nat → Int32} {G : Nat → Nat → Int64} {T : Nat → Nat} {t : Option Nat} (k i n : Nat) (hk : k < 4) (hin : i + n ≤ 60) (hw : whl n) (hgd : ∀ q, q < n → gd (fun q => E k (i + q)) q = true)  : ctV l D (ty4 cI cJ cD cS) t (wX cI cJ cD cS a) yX2_build cX2_build 6 none (rmk 1 20) [.ref (a 0), .ref (a (30 + k)), .int (nI i), .int (nI n)] (N, Z, E, G, T) (fun (u : sT) => u = (nbd N (dg (E k (i + 1))) ((n - 2) / 5) 0 (fun q => E k (i + q)) ((n - 2) / 5), Z, E, G, T)) := by
  refine ctV_of [(0, .ref (a 0)), (1, .ref (a (30 + k))), (2, .int (nI i)), (3, .int (nI n))] (by decide) (Nat.le_of_ble_eq_true rfl) rfl ?_
  intro p e s m args below meth c A C hK hZ hA
  have hw2 := hw.1
  have hw5 := hw.2
  have hR1 := gd_R (hgd 1 (by omega))
  have hn42 : n ≤ 42 := by have := gd_lt (hgd (n - 1) (by omega)); omega
  refine hd_aload_n 1 C dX2_build_0 rfl 0 rfl rfl ?_
  refine hd_aload_n 2 C dX2_build_1 rfl 1 rfl rfl ?_
  refine gs2_cells (by omega) 5 C hK dX2_build_2 rfl ?_
  refine hd_iload_n 6 C dX2_build_5 rfl 2 rfl rfl ?_
  refine hd_iconst 7 C dX2_build_6 rfl (nI 1) (by decide) ?_
  refine hd_iadd 8 C dX2_build_7 rfl (nI (i + 1)) (nI_add _ _) ?_
  refine alx_cells (by omega) 9 C hK dX2_build_8 rfl (by omega) (E k (i + 1)) rfl ?_
  refine hd_bipush 11 C dX2_build_9 rfl (nI 48) (by decide) ?_
  refine hd_isub 12 C dX2_build_11 rfl (nI (dg (E k (i + 1)))) hR1.1 ?_
  refine px_rooms 15 C hK dX2_build_12 rfl ?_
  refine hd_aload_n 16 C dX2_build_15 rfl 0 rfl rfl ?_
  refine hd_iload_n 17 C dX2_build_16 rfl 3 rfl rfl ?_
  refine hd_iconst 18 C dX2_build_17 rfl (nI 2) (by decide) ?_
  refine hd_isub 19 C dX2_build_18 rfl (nI (n - 2)) (pk_sub (by omega)) ?_
  refine hd_iconst 20 C dX2_build_19 rfl (nI 5) (by decide) ?_
  refine hd_idiv 21 C dX2_build_20 rfl (nI ((n - 2) / 5)) (nI_ne0 (by omega) (by omega)) (pk_div (by omega) (by omega) (by omega)) ?_
  refine px_doorCount 24 C hK dX2_build_21 rfl ?_
  refine hd_aload_n 25 C dX2_build_24 rfl 0 rfl rfl ?_
  refine hd_iconst 26 C dX2_build_25 rfl (nI 0) (by decide) ?_
  refine px_readingCount 29 C hK dX2_build_26 rfl ?_
  refine hd_eqS (show (uN (uN (uN N 0 0 (dg (E k (i + 1)))) 0 1 ((n - 2) / 5)) 0 2 0, Z, E, G, T) = (nbd N (dg (E k (i + 1))) ((n - 2) / 5) 0 (fun q => E k (i + q)) 0, Z, E, G, T) from by rw [nbd_0]) ?_
  refine hd_iconst 30 C dX2_build_29 rfl (nI 0) (by decide) ?_
  refine hd_istore 32 C dX2_build_30 rfl [(4, .int (nI 0)), (0, .ref (a 0)), (1, .ref (a (30 + k))), (2, .int (nI i)), (3, .int (nI n))] (by decide) rfl ?_
  have L : ∀ (fuel : Nat) (d : Nat) (hd : d ≤ (n - 2) / 5), (n - 2) / 5 - d < fuel → XW p l e (rmk 1 20) s m args below meth c 6 0 0 A D (MQ below (va_Qv (fun (u : sT) => u = (nbd N (dg (E k (i + 1))) ((n - 2) / 5) 0 (fun q => E k (i + q)) ((n - 2) / 5), Z, E, G, T)) (cB D (ty4 cI cJ cD cS) (wX cI cJ cD cS a) A) A) args s 0 0 A) (wX cI cJ cD cS a) (nbd N (dg (E k (i + 1))) ((n - 2) / 5) 0 (fun q => E k (i + q)) d, Z, E, G, T) 32 [(0, .ref (a 0)), (1, .ref (a (30 + k))), (2, .int (nI i)), (3, .int (nI n)), (4, .int (nI d))] [] := by
    intro fuel
    induction fuel with
    | zero => intro d hd hfu; exact absurd hfu (Nat.not_lt_zero _)
    | succ fuel ih_L =>
      intro d hd hfu_L
      refine hd_iload 34 C dX2_build_32 rfl 4 rfl ?_
      refine hd_aload_n 35 C dX2_build_34 rfl 0 rfl rfl ?_
      refine gx_doorCount 38 C hK dX2_build_35 rfl (nI ((n - 2) / 5)) rfl ?_
      refine hd_icmp_geN 41 145 C dX2_build_38 rfl (by decide) (by omega) (by omega) (fun h38 => ?_) (fun h38 => ?_)
      · skip
        exact hd_vret C hK dX2_build_145 (by rw [show (n - 2) / 5 = d by omega])
      · skip
        refine hd_iload_n 42 C dX2_build_41 rfl 2 rfl rfl ?_
        refine hd_iconst 43 C dX2_build_42 rfl (nI 2) (by decide) ?_
        refine hd_iadd 44 C dX2_build_43 rfl (nI (i + 2)) (nI_add _ _) ?_
        refine hd_iload 46 C dX2_build_44 rfl 4 rfl ?_
        refine hd_iconst 47 C dX2_build_46 rfl (nI 5) (by decide) ?_
        refine hd_imul 48 C dX2_build_47 rfl (nI (d * 5)) (pk_mul _ _) ?_
        refine hd_iadd 49 C dX2_build_48 rfl (nI (i + 2 + 5 * d)) (by rw [nI_add, Nat.mul_comm d 5]) ?_
        refine hd_istore 51 C dX2_build_49 rfl [(5, .int (nI (i + 2 + 5 * d))), (0, .ref (a 0)), (1, .ref (a (30 + k))), (2, .int (nI i)), (3, .int (nI n)), (4, .int (nI d))] (by decide) rfl ?_
        have e4 : E k (i + (4 + 5 * d)) - nI 48 = nI (dg (E k (i + (4 + 5 * d)))) := (gd_rm (f := (fun q => E k (i + q))) hR1.2.2 (p := 4 + 5 * d) (by omega) (by omega) (hgd (4 + 5 * d) (by omega))).1
        have e5 : E k (i + (5 + 5 * d)) - nI 48 = nI (dg (E k (i + (5 + 5 * d)))) := (gd_rm (f := (fun q => E k (i + q))) hR1.2.2 (p := 5 + 5 * d) (by omega) (by omega) (hgd (5 + 5 * d) (by omega))).1
        have e6 : E k (i + (6 + 5 * d)) - nI 48 = nI (dg (E k (i + (6 + 5 * d)))) := (gd_st (f := (fun q => E k (i + q))) (p := 6 + 5 * d) (by omega) (by omega) (hgd (6 + 5 * d) (by omega))).1
        refine hd_aload_n 52 C dX2_build_51 rfl 1 rfl rfl ?_
        refine gx_doors 55 C hK dX2_build_52 rfl ?_
        refine hd_iload 57 C dX2_build_55 rfl 5 rfl ?_
        refine alx_doors 58 C hK dX2_build_57 rfl (by omega) ?_
        refine hd_aload_n 59 C dX2_build_58 rfl 2 rfl rfl ?_
        refine gs2_cells (by omega) 62 C hK dX2_build_59 rfl ?_
        refine hd_iload 64 C dX2_build_62 rfl 0 rfl ?_
        refine hd_iconst 65 C dX2_build_64 rfl (nI 1) (by decide) ?_
        refine hd_iadd 66 C dX2_build_65 rfl (nI ((i + 2 + 5 * d) + 1)) (nI_add _ _) ?_
        refine alx_cells (by omega) 67 C hK dX2_build_66 rfl (by omega) (E k (i + (3 + 5 * d))) (by rw [show i + 2 + 5 * d + 1 = i + (3 + 5 * d) by omega]) ?_
        refine hd_callSI (rest := [.ref (a (20 + d))]) 70 C hK hZ hA ⟨Nat.zero_le _, Nat.zero_le _⟩ dX2_build_67 rfl kc_X2_202 (x_kindOfLetter (E k (i + (3 + 5 * d)))) ⟨rfl, rfl⟩ ⟨by decide, by decide⟩ rfl rfl (Nat.le_of_ble_eq_true rfl) (fun r67 u67 h67 => ?_)
        obtain ⟨rfl, rfl⟩ := h67
        refine pd2_kind (by omega) 73 C hK dX2_build_70 rfl ?_
        refine hd_aload_n 74 C dX2_build_73 rfl 1 rfl rfl ?_
        refine gx_doors 77 C hK dX2_build_74 rfl ?_
        refine hd_iload 79 C dX2_build_77 rfl 5 rfl ?_
        refine alx_doors 80 C hK dX2_build_79 rfl (by omega) ?_
        refine hd_aload_n 81 C dX2_build_80 rfl 2 rfl rfl ?_
        refine gs2_cells (by omega) 84 C hK dX2_build_81 rfl ?_
        refine hd_iload 86 C dX2_build_84 rfl 0 rfl ?_
        refine hd_iconst 87 C dX2_build_86 rfl (nI 2) (by decide) ?_
        refine hd_iadd 88 C dX2_build_87 rfl (nI ((i + 2 + 5 * d) + 2)) (nI_add _ _) ?_
        refine alx_cells (by omega) 89 C hK dX2_build_88 rfl (by omega) (E k (i + (4 + 5 * d))) (by rw [show i + 2 + 5 * d + 2 = i + (4 + 5 * d) by omega]) ?_
        refine hd_bipush 91 C dX2_build_89 rfl (nI 48) (by decide) ?_
        refine hd_isub 92 C dX2_build_91 rfl (nI (dg (E k (i + (4 + 5 * d))))) e4 ?_
        refine pd2_room (by omega) 95 C hK dX2_build_92 rfl ?_
        refine hd_aload_n 96 C dX2_build_95 rfl 1 rfl rfl ?_
        refine gx_doors 99 C hK dX2_build_96 rfl ?_
        refine hd_iload 101 C dX2_build_99 rfl 5 rfl ?_
        refine alx_doors 102 C hK dX2_build_101 rfl (by omega) ?_
        refine hd_aload_n 103 C dX2_build_102 rfl 2 rfl rfl ?_
        refine gs2_cells (by omega) 106 C hK dX2_build_103 rfl ?_
        refine hd_iload 108 C dX2_build_106 rfl 0 rfl ?_
        refine hd_iconst 109 C dX2_build_108 rfl (nI 3) (by decide) ?_
        refine hd_iadd 110 C dX2_build_109 rfl (nI ((i + 2 + 5 * d) + 3)) (nI_add _ _) ?_
        refine alx_cells (by omega) 111 C hK dX2_build_110 rfl (by omega) (E k (i + (5 + 5 * d))) (by rw [show i + 2 + 5 * d + 3 = i + (5 + 5 * d) by omega]) ?_
        refine hd_bipush 113 C dX2_build_111 rfl (nI 48) (by decide) ?_
        refine hd_isub 114 C dX2_build_113 rfl (nI (dg (E k (i + (5 + 5 * d))))) e5 ?_
        refine pd2_to (by omega) 117 C hK dX2_build_114 rfl ?_
        refine hd_aload_n 118 C dX2_build_117 rfl 1 rfl rfl ?_
        refine gx_doors 121 C hK dX2_build_118 rfl ?_
        refine hd_iload 123 C dX2_build_121 rfl 5 rfl ?_
        refine alx_doors 124 C hK dX2_build_123 rfl (by omega) ?_
        refine hd_aload_n 125 C dX2_build_124 rfl 2 rfl rfl ?_
        refine gs2_cells (by omega) 128 C hK dX2_build_125 rfl ?_
        refine hd_iload 130 C dX2_build_128 rfl 0 rfl ?_
        refine hd_iconst 131 C dX2_build_130 rfl (nI 4) (by decide) ?_
        refine hd_iadd 132 C dX2_build_131 rfl (nI ((i + 2 + 5 * d) + 4)) (nI_add _ _) ?_
        refine alx_cells (by omega) 133 C hK dX2_build_132 rfl (by omega) (E k (i + (6 + 5 * d))) (by rw [show i + 2 + 5 * d + 4 = i + (6 + 5 * d) by omega]) ?_
        refine hd_bipush 135 C dX2_build_133 rfl (nI 48) (by decide) ?_
        refine hd_isub 136 C dX2_build_135 rfl (nI (dg (E k (i + (6 + 5 * d))))) e6 ?_
        refine pd2_step (by omega) 139 C hK dX2_build_136 rfl ?_
        refine hd_eqS (show (uN (uN (uN (uN (nbd N (dg (E k (i + 1))) ((n - 2) / 5) 0 (fun q => E k (i + q)) d) 1 d (kdL (E k (i + (3 + 5 * d))))) 2 d (dg (E k (i + (4 + 5 * d))))) 3 d (dg (E k (i + (5 + 5 * d))))) 4 d (dg (E k (i + (6 + 5 * d)))), Z, E, G, T) = (nbd N (dg (E k (i + 1))) ((n - 2) / 5) 0 (fun q => E k (i + q)) (d + 1), Z, E, G, T) from by rw [← nbd_s]) ?_
        refine hd_iinc 142 C dX2_build_139 rfl 5 (nI (d + 1)) [(4, .int (nI (d + 1))), (5, .int (nI (i + 2 + 5 * d))), (0, .ref (a 0)), (1, .ref (a (30 + k))), (2, .int (nI i)), (3, .int (nI n))] rfl (nI_add _ _) (by decide) rfl ?_
        refine hd_goto 32 C dX2_build_142 (by decide) ?_
        refine hd_sub [(0, .ref (a 0)), (1, .ref (a (30 + k))), (2, .int (nI i)), (3, .int (nI n)), (4, .int (nI (d + 1)))] [2, 3, 4, 5, 0] rfl ?_
        exact ih_L (d + 1) (by omega) (by omega)
  refine hd_sub [(0, .ref (a 0)), (1, .ref (a (30 + k))), (2, .int (nI i)), (3, .int (nI n)), (4, .int (nI 0))] [1, 2, 3, 4, 0] rfl ?_
  exact L ((n - 2) / 5 + 1) 0 (Nat.zero_le _) (by omega)

set_option maxHeartbeats 4000000 in
set_option maxRecDepth 100000 in
theorem x_house {l : Launch} {D : va_G} {cI cJ cD cS : ClassId} {a : Nat → Nat} {N : Nat → Nat → Nat} {Z : Nat → Nat → Int32} {E : Nat → Nat → Int32} {G : Nat → Nat → Int64} {T : Nat → Nat} {t : Option Nat} (xk ln xi xn : Int32) (hI : inv N) (hz : ∀ k, k < 4 → szOK (Z 2 k))  : ctI l D (ty4 cI cJ cD cS) t (wX cI cJ cD cS a) yX2_house cX2_house 8 (some .int) (rmk 2 47) [.ref (a 0), .int xk, .int ln, .int xi, .int xn] (N, Z, E, G, T) (fun (r : Int32) (u : sT) => u = (nnHouse N Z E xk ln xi xn, uZ Z 0 1 (fzHouse Z xk ln xi xn), E, G, T) ∧ r = spHouse Z E xk ln xi xn) := by
  refine ctI_of [(0, .ref (a 0)), (1, .int xk), (2, .int ln), (3, .int xi), (4, .int xn)] (by decide) (Nat.le_of_ble_eq_true rfl) rfl ?_
  intro p e s m args below meth c A C hK hZ hA
  have hR := hI.R
  have hDn := hI.D
  have hQn := hI.Q
  refine hd_aload_n 1 C dX2_house_0 rfl 0 rfl rfl ?_
  refine hd_iconst 2 C dX2_house_1 rfl (nI 0) (by decide) ?_
  refine px_latestFault 5 C hK dX2_house_2 rfl ?_
  refine hd_iload_n 6 C dX2_house_5 rfl 1 rfl rfl ?_
  refine hd_callSI (rest := []) 9 C hK hZ hA ⟨Nat.zero_le _, Nat.zero_le _⟩ dX2_house_6 rfl kc_X2_53 (x_isSheet xk) ⟨rfl, rfl⟩ ⟨by decide, by decide⟩ rfl rfl (Nat.le_of_ble_eq_true rfl) (fun r6 u6 h6 => ?_)
  obtain ⟨rfl, rfl⟩ := h6
  refine hd_if_neB 12 14 C dX2_house_9 rfl (by decide) (fun h9 => ?_) (fun h9 => ?_)
  · skip
    obtain ⟨k, hj_k, rfl⟩ := inB_t h9 (by decide)
    have hc_k : (nI k).toNatClampNeg = k := nI_clamp (by omega)
    refine hd_iload_n 15 C dX2_house_14 rfl 2 rfl rfl ?_
    refine hd_callSI (rest := []) 18 C hK hZ hA ⟨Nat.zero_le _, Nat.zero_le _⟩ dX2_house_15 rfl kc_X2_57 (x_isLane ln) ⟨rfl, rfl⟩ ⟨by decide, by decide⟩ rfl rfl (Nat.le_of_ble_eq_true rfl) (fun r15 u15 h15 => ?_)
    obtain ⟨rfl, rfl⟩ := h15
    refine hd_if_neB 21 24 C dX2_house_18 rfl (by decide) (fun h18 => ?_) (fun h18 => ?_)
    · skip
      refine hd_aload_n 25 C dX2_house_24 rfl 0 rfl rfl ?_
      refine gx_sheets 28 C hK dX2_house_25 rfl ?_
      refine hd_iload_n 29 C dX2_house_28 rfl 1 rfl rfl ?_
      refine alx_sheets 30 C hK dX2_house_29 rfl (by omega) ?_
      refine hd_astore 32 C dX2_house_30 rfl [(5, .ref (a (30 + k))), (0, .ref (a 0)), (1, .int (nI k)), (2, .int ln), (3, .int xi), (4, .int xn)] (by decide) rfl ?_
      refine hd_aload 34 C dX2_house_32 rfl 0 rfl ?_
      refine hd_iload_n 35 C dX2_house_34 rfl 3 rfl rfl ?_
      refine hd_iload_n 36 C dX2_house_35 rfl 4 rfl rfl ?_
      refine hd_iload 38 C dX2_house_36 rfl 5 rfl ?_
      refine hd_callVI (rest := []) 41 C hK hZ hA ⟨Nat.zero_le _, Nat.zero_le _⟩ dX2_house_38 rfl kc_X2_60 (x_faultOfTaking k (by omega) ln xi xn (Z 2 k) (Z 3 k) rfl rfl (hz _ (by omega))) ⟨rfl, rfl⟩ ⟨by decide, by decide⟩ (18 + k) 1 (wX_sheet _ (by omega)) rfl rfl rfl rfl (Nat.le_of_ble_eq_true rfl) (fun r38 u38 h38 => ?_)
      obtain ⟨rfl, rfl⟩ := h38
      have hft38 := ftN_lt (Z 2 k) (Z 3 k) ln xi xn
      refine hd_istore 43 C dX2_house_41 rfl [(6, .int (nI (ftN (Z 2 k) (Z 3 k) ln xi xn))), (5, .ref (a (30 + k))), (0, .ref (a 0)), (1, .int (nI k)), (2, .int ln), (3, .int xi), (4, .int xn)] (by decide) rfl ?_
      refine hd_iload 45 C dX2_house_43 rfl 0 rfl ?_
      refine hd_if_eqN 48 55 C dX2_house_45 rfl (by decide) (by omega) (fun h45 => ?_) (fun h45 => ?_)
      · skip
        obtain ⟨hn1, hl9, -, hok⟩ := ftN_0 h45
        obtain ⟨mz, i2, n2, ez, rfl, rfl, hm60, hsum⟩ := okC_nat (hz k (by omega)) hok
        have hc_i2 : (nI i2).toNatClampNeg = i2 := nI_clamp (by omega)
        have hc_n2 : (nI n2).toNatClampNeg = n2 := nI_clamp (by omega)
        have htx : txt E (nI k) (nI i2) = fun q => E k (i2 + q) := by funext q; simp [txt, hc_k, hc_i2]
        refine hd_aload 57 C dX2_house_55 rfl 1 rfl ?_
        refine hd_iload_n 58 C dX2_house_57 rfl 5 rfl rfl ?_
        refine hd_iload 60 C dX2_house_58 rfl 6 rfl ?_
        refine hd_callSI (rest := []) 63 C hK hZ hA ⟨Nat.zero_le _, Nat.zero_le _⟩ dX2_house_60 rfl kc_X2_68 (x_firstFault k i2 n2 (by omega) (by omega)) ⟨rfl, rfl⟩ ⟨by decide, by decide⟩ rfl rfl (Nat.le_of_ble_eq_true rfl) (fun r60 u60 h60 => ?_)
        obtain ⟨rfl, rfl⟩ := h60
        rcases ho60 : ffo (fun q => E k (i2 + q)) n2 n2 0 with _ | rv60
        · skip
          have hnn := ffo_none ho60
          refine hd_istore 65 C dX2_house_63 rfl [(7, .int (-9)), (6, .int (nI (ftN (Z 2 k) (Z 3 k) ln (nI i2) (nI n2)))), (5, .ref (a (30 + k))), (0, .ref (a 0)), (1, .int (nI k)), (2, .int ln), (3, .int (nI i2)), (4, .int (nI n2))] (by decide) rfl ?_
          refine hd_iload 67 C dX2_house_65 rfl 0 rfl ?_
          refine hd_bipush 69 C dX2_house_67 rfl (-9) (by decide) ?_
          refine hd_icmp_eq 72 78 C dX2_house_69 rfl (by decide) (fun _ => ?_) (fun q => absurd (by decide) q)
          refine hd_aload_n 79 C dX2_house_78 rfl 3 rfl rfl ?_
          refine hd_aload 81 C dX2_house_79 rfl 2 rfl ?_
          refine hd_iload_n 82 C dX2_house_81 rfl 6 rfl rfl ?_
          refine hd_iload 84 C dX2_house_82 rfl 7 rfl ?_
          refine hd_callVV (rest := []) 87 C hK hZ hA ⟨Nat.zero_le _, Nat.zero_le _⟩ dX2_house_84 rfl kc_X2_72 (x_build k i2 n2 (by omega) (by omega) hnn.1 hnn.2) ⟨rfl, rfl⟩ ⟨by decide, by decide⟩ 0 2 rfl rfl rfl rfl rfl (Nat.le_of_ble_eq_true rfl) (fun u84 h84 => ?_)
          subst h84
          refine hd_aload_n 88 C dX2_house_87 rfl 3 rfl rfl ?_
          refine gx_doorCount 91 C hK dX2_house_88 rfl (nI ((n2 - 2) / 5)) rfl ?_
          exact hd_iret C hK dX2_house_91 ⟨by simp [nnHouse, fzHouse, uZ_uZ, nI_0, h9, hc_k, h18, h45, hc_i2, hc_n2, htx, ho60], by simp [spHouse, h9, hc_k, h18, h45, hc_i2, hc_n2, htx, ho60]⟩
        · skip
          have hlt : rv60 ≤ n2 := ffo_le ho60
          refine hd_istore 65 C dX2_house_63 rfl [(7, .int (nI rv60)), (6, .int (nI (ftN (Z 2 k) (Z 3 k) ln (nI i2) (nI n2)))), (5, .ref (a (30 + k))), (0, .ref (a 0)), (1, .int (nI k)), (2, .int ln), (3, .int (nI i2)), (4, .int (nI n2))] (by decide) rfl ?_
          refine hd_iload 67 C dX2_house_65 rfl 0 rfl ?_
          refine hd_bipush 69 C dX2_house_67 rfl (-9) (by decide) ?_
          refine hd_icmp_eq 72 78 C dX2_house_69 rfl (by decide) (fun q => absurd q (nI_ne9 (by omega))) (fun _ => ?_)
          refine hd_bipush 74 C dX2_house_72 rfl (-100) (by decide) ?_
          refine hd_iload 76 C dX2_house_74 rfl 0 rfl ?_
          refine hd_isub 77 C dX2_house_76 rfl (-100 - nI rv60) rfl ?_
          exact hd_iret C hK dX2_house_77 ⟨by simp [nnHouse, fzHouse, uZ_uZ, nI_0, h9, hc_k, h18, h45, hc_i2, hc_n2, htx, ho60], by simp [spHouse, h9, hc_k, h18, h45, hc_i2, hc_n2, htx, ho60]⟩
      · skip
        refine hd_aload_n 49 C dX2_house_48 rfl 2 rfl rfl ?_
        refine hd_iload 51 C dX2_house_49 rfl 0 rfl ?_
        refine hd_callVI (rest := []) 54 C hK hZ hA ⟨Nat.zero_le _, Nat.zero_le _⟩ dX2_house_51 rfl kc_X2_64 (x_faulted (nI (ftN (Z 2 k) (Z 3 k) ln xi xn))) ⟨rfl, rfl⟩ ⟨by decide, by decide⟩ 0 2 rfl rfl rfl rfl rfl (Nat.le_of_ble_eq_true rfl) (fun r51 u51 h51 => ?_)
        obtain ⟨rfl, rfl⟩ := h51
        exact hd_iret C hK dX2_house_54 ⟨by simp [nnHouse, fzHouse, uZ_uZ, nI_0, h9, hc_k, h18, h45], by simp [spHouse, h9, hc_k, h18, h45]⟩
    · skip
      refine hd_bipush 23 C dX2_house_21 rfl (-2) (by decide) ?_
      exact hd_iret C hK dX2_house_23 ⟨by simp [nnHouse, fzHouse, uZ_uZ, nI_0, h9, hc_k, h18], by simp [spHouse, h9, hc_k, h18]⟩
  · skip
    refine hd_iconst 13 C dX2_house_12 rfl (-1) (by decide) ?_
    exact hd_iret C hK dX2_house_13 ⟨by simp [nnHouse, fzHouse, uZ_uZ, nI_0, h9], by simp [spHouse, h9]⟩

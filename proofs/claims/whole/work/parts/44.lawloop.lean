theorem and31 (x : Int32) : ∃ j : Nat, j < 32 ∧ x &&& nI 31 = nI j := by
  refine ⟨(x &&& nI 31).toBitVec.toNat, ?_, ?_⟩
  · have h : (x &&& nI 31).toBitVec = x.toBitVec &&& 31#32 := rfl
    rw [h, BitVec.toNat_and]
    exact Nat.lt_of_le_of_lt Nat.and_le_right (by decide)
  · apply Int32.toBitVec_inj.mp
    show _ = BitVec.ofNat 32 _
    rw [BitVec.ofNat_toNat, BitVec.setWidth_eq]
theorem sub8 {L i : Nat} (hL : L ≤ 512) (hi : i ≤ 520) (h : ¬ nI L - nI 8 < nI i) : i + 8 ≤ L := by
  have h1 : (nI L - nI 8).toInt = (L : Int) - 8 := by
    rw [Int32.toInt_sub, nI_toInt (by omega), nI_toInt (by omega), fb_bmod (by omega) (by omega)]
    rfl
  rw [Int32.lt_iff_toInt_lt, h1, nI_toInt (by omega)] at h
  omega
section HDC3
variable {p : Program} {l : Launch} {e : Env} {s : State} {m : MethodId} {args : Array Value} {below : List Frame} {meth : Method} {c : Code} {cells slots : Nat} {A : Nat → Prop} {D : va_G} {Q : State → Prop} {cI cJ cD cS : ClassId} {tt b0 L : Nat} {xs : Nat → Int32} {a a' : Nat → Nat}
theorem lw_body (hC : lwC p s m args meth c A D cI cJ cD cS tt b0 L xs cells slots) (hend : ∀ (u : sT × sT) (lv : List (Nat × Value)), XW p l e room_1 s m args below meth c 4 cells slots A D Q (wP (wX cI cJ cD cS a) (wM cI a')) u 1176 lv []) (i : Nat) (u : sT × sT) (hi : i ≤ L + 8) (hg : good2 u) (hnext : i + 8 ≤ L → ∀ u' : sT × sT, good2 u' → XW p l e room_1 s m args below meth c 4 cells slots A D Q (wP (wX cI cJ cD cS a) (wM cI a')) u' 18 (lvL (i + 8) a a' b0) []) : XW p l e room_1 s m args below meth c 4 cells slots A D Q (wP (wX cI cJ cD cS a) (wM cI a')) u 18 (lvL i a a' b0) [] := by
  obtain ⟨C, hK, hZ, hA, hX, hbl, hbA, hL, hcs⟩ := id hC
  refine hd_iload_n 19 C dL_law_18 rfl 0 rfl rfl ?_
  refine hd_aload_n 20 C dL_law_19 rfl 3 rfl rfl ?_
  refine hl_slen 21 C hX hbl hbA dL_law_20 rfl ?_
  refine hd_bipush 23 C dL_law_21 rfl (nI 8) (by decide) ?_
  refine hd_isub 24 C dL_law_23 rfl (nI L - nI 8) rfl ?_
  refine hd_icmp_gt 27 1176 C dL_law_24 rfl (by decide) (fun _ => hend _ _) (fun hle => ?_)
  have h8 : i + 8 ≤ L := sub8 hL (by omega) hle
  refine hd_aload_n 28 C dL_law_27 rfl 3 rfl rfl ?_
  refine hd_iload_n 29 C dL_law_28 rfl 0 rfl rfl ?_
  refine hl_sld 30 C hX hbl hbA dL_law_29 rfl (vp_in_nI (show i < L by omega) (by omega)) (xs i) (by rw [nI_clamp (by omega)]) ?_
  refine hd_bipush 32 C dL_law_30 rfl (nI 31) (by decide) ?_
  obtain ⟨j, hj, hje⟩ := and31 (xs i)
  refine hd_iand 33 C dL_law_32 rfl (nI j) hje ?_
  have kk : ∀ u' : sT × sT, good2 u' → XW p l e room_1 s m args below meth c 4 cells slots A D Q (wP (wX cI cJ cD cS a) (wM cI a')) u' 1170 (lvL i a a' b0) [] := by
    intro u' hg'
    refine hd_iinc 1173 C dL_law_1170 rfl 0 (nI (i + 8)) (lvL (i + 8) a a' b0) rfl (by rw [show Int32.ofInt 8 = nI 8 by decide]; exact nI_add i 8) (by decide) rfl ?_
    exact hd_goto 18 C dL_law_1173 (by decide) (hnext h8 u' hg')
  obtain ⟨⟨N, Z, E, G, T⟩, N', Z', E', G', T'⟩ := u
  obtain ⟨hN, hI, hR⟩ := hg
  have hN : N = N' := hN
  subst hN
  have hI : inv N := hI
  have hR : RZ Z E Z' E' := hR
  match j, hj with
  | 0, _ => exact hd_tableIn 160 C dL_law_33 (by decide) (by decide) rfl (by decide) (lc_house hC h8 hI hR kk)
  | 1, _ => exact hd_tableIn 213 C dL_law_33 (by decide) (by decide) rfl (by decide) (lc_ofDoor hC h8 hI hR kk)
  | 2, _ => exact hd_tableIn 246 C dL_law_33 (by decide) (by decide) rfl (by decide) (lc_leads hC h8 hI hR kk)
  | 3, _ => exact hd_tableIn 279 C dL_law_33 (by decide) (by decide) rfl (by decide) (lc_step hC h8 hI hR kk)
  | 4, _ => exact hd_tableIn 312 C dL_law_33 (by decide) (by decide) rfl (by decide) (lc_turn hC h8 hI hR kk)
  | 5, _ => exact hd_tableIn 345 C dL_law_33 (by decide) (by decide) rfl (by decide) (lc_walk hC h8 hI hR kk)
  | 6, _ => exact hd_tableIn 432 C dL_law_33 (by decide) (by decide) rfl (by decide) (lc_soonest hC h8 hI hR kk)
  | 7, _ => exact hd_tableIn 485 C dL_law_33 (by decide) (by decide) rfl (by decide) (lc_errands hC h8 hI hR kk)
  | 8, _ => exact hd_tableIn 528 C dL_law_33 (by decide) (by decide) rfl (by decide) (lc_meet hC h8 hI hR kk)
  | 9, _ => exact hd_tableIn 571 C dL_law_33 (by decide) (by decide) rfl (by decide) (lc_cut hC h8 hI hR kk)
  | 10, _ => exact hd_tableIn 614 C dL_law_33 (by decide) (by decide) rfl (by decide) (lc_reach hC h8 hI hR kk)
  | 11, _ => exact hd_tableIn 637 C dL_law_33 (by decide) (by decide) rfl (by decide) (lc_reading hC h8 hI hR kk)
  | 12, _ => exact hd_tableIn 680 C dL_law_33 (by decide) (by decide) rfl (by decide) (lc_back hC h8 hI hR kk)
  | 13, _ => exact hd_tableIn 703 C dL_law_33 (by decide) (by decide) rfl (by decide) (lc_steps hC h8 hI hR kk)
  | 14, _ => exact hd_tableIn 726 C dL_law_33 (by decide) (by decide) rfl (by decide) (lc_targets hC h8 hI hR kk)
  | 15, _ => exact hd_tableIn 749 C dL_law_33 (by decide) (by decide) rfl (by decide) (lc_kinds hC h8 hI hR kk)
  | 16, _ => exact hd_tableIn 772 C dL_law_33 (by decide) (by decide) rfl (by decide) (lc_odds hC h8 hI hR kk)
  | 17, _ => exact hd_tableIn 826 C dL_law_33 (by decide) (by decide) rfl (by decide) (lc_sheet hC h8 hI hR kk)
  | 18, _ => exact hd_tableIn 869 C dL_law_33 (by decide) (by decide) rfl (by decide) (lc_lose hC h8 hI hR kk)
  | 19, _ => exact hd_tableIn 892 C dL_law_33 (by decide) (by decide) rfl (by decide) (lc_put hC h8 hI hR kk)
  | 20, _ => exact hd_tableIn 935 C dL_law_33 (by decide) (by decide) rfl (by decide) (lc_cell hC h8 hI hR kk)
  | 21, _ => exact hd_tableIn 979 C dL_law_33 (by decide) (by decide) rfl (by decide) (lc_copy hC h8 hI hR kk)
  | 22, _ => exact hd_tableIn 1042 C dL_law_33 (by decide) (by decide) rfl (by decide) (lc_tell hC h8 hI hR kk)
  | 23, _ => exact hd_tableIn 1065 C dL_law_33 (by decide) (by decide) rfl (by decide) (lc_knock hC h8 hI hR kk)
  | 24, _ => exact hd_tableIn 1088 C dL_law_33 (by decide) (by decide) rfl (by decide) (lc_as hC h8 hI hR kk)
  | 25, _ => exact hd_tableIn 1121 C dL_law_33 (by decide) (by decide) rfl (by decide) (lc_trace hC h8 hI hR kk)
  | 26, _ => exact hd_tableIn 1134 C dL_law_33 (by decide) (by decide) rfl (by decide) (lc_fault hC h8 hI hR kk)
  | 27, _ => exact hd_tableIn 1147 C dL_law_33 (by decide) (by decide) rfl (by decide) (lc_many hC h8 hI hR kk)
  | j + 28, hj => exact hd_tableOut 1170 C dL_law_33 (Or.inr (by rw [nI_toInt (by omega)]; omega)) (by decide) (kk _ ⟨rfl, hI, hR⟩)
theorem lw_loop (hC : lwC p s m args meth c A D cI cJ cD cS tt b0 L xs cells slots) (hend : ∀ (u : sT × sT) (lv : List (Nat × Value)), XW p l e room_1 s m args below meth c 4 cells slots A D Q (wP (wX cI cJ cD cS a) (wM cI a')) u 1176 lv []) : ∀ (n i : Nat) (u : sT × sT), L + 8 ≤ i + n → i ≤ L + 8 → good2 u → XW p l e room_1 s m args below meth c 4 cells slots A D Q (wP (wX cI cJ cD cS a) (wM cI a')) u 18 (lvL i a a' b0) [] := by
  intro n
  induction n with
  | zero => exact fun i u hn hi hg => lw_body hC hend i u hi hg (fun h => absurd h (by omega))
  | succ n ih => exact fun i u hn hi hg => lw_body hC hend i u hi hg (fun h u' hg' => ih (i + 8) u' (by omega) (by omega) hg')
end HDC3
theorem inv0 : inv (fun _ _ => 0) := ⟨by decide, by decide, by decide, fun _ => rfl, fun _ => ⟨Nat.le_of_ble_eq_true rfl, Nat.le_of_ble_eq_true rfl, Nat.le_of_ble_eq_true rfl, Nat.le_of_ble_eq_true rfl⟩, fun _ => ⟨Nat.le_of_ble_eq_true rfl, Nat.le_of_ble_eq_true rfl⟩, fun d h => absurd h (Nat.not_lt_zero d), fun d h => absurd h (Nat.not_lt_zero d)⟩
theorem rz0 : RZ z0X (fun _ _ => nI 0) z0M (fun _ _ => nI 0) := by
  refine ⟨rfl, rfl, fun _ => rfl, fun k hk => ⟨?_, Or.inl rfl⟩, fun k hk h => absurd rfl h, rfl⟩
  rcases (show k = 0 ∨ k = 1 ∨ k = 2 ∨ k = 3 by omega) with rfl | rfl | rfl | rfl <;> rfl
theorem good0 : good2 (s0X, s0M) := ⟨rfl, inv0, rz0⟩

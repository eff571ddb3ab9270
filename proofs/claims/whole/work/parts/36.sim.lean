/-! what both objects have in common -/
def RZ (Z E Z' E' : Nat → Nat → Int32) : Prop := Z 0 0 = Z' 0 0 ∧ Z 0 1 = Z' 0 1 ∧ (∀ i, Z 1 i = Z' 1 i) ∧ (∀ k, k < 4 → Z 2 k = Z' 2 k ∧ szOK (Z 2 k)) ∧ (∀ k, k < 4 → ¬ Z 2 k = -1 → Z 3 k = Z' 3 k ∧ ∀ i, i < cl (Z 2 k) → E k i = E' k i) ∧ Z' 0 2 = -9
theorem RZ.hz {Z E Z' E' : Nat → Nat → Int32} (h : RZ Z E Z' E') : ∀ k, k < 4 → szOK (Z 2 k) := fun k hk => (h.2.2.2.1 k hk).2
theorem RZ.hz' {Z E Z' E' : Nat → Nat → Int32} (h : RZ Z E Z' E') : ∀ k, k < 4 → szOK (Z' 2 k) := fun k hk => (h.2.2.2.1 k hk).1 ▸ (h.2.2.2.1 k hk).2
theorem RZ.hg {Z E Z' E' : Nat → Nat → Int32} (h : RZ Z E Z' E') : Z' 0 2 = -9 := h.2.2.2.2.2
theorem RZ_ft {Z E Z' E' : Nat → Nat → Int32} (h : RZ Z E Z' E') {k : Nat} (hk : k < 4) (ln i n : Int32) : ftN (Z 2 k) (Z 3 k) ln i n = ftN (Z' 2 k) (Z' 3 k) ln i n := by
  obtain ⟨h1, h2⟩ := h.2.2.2.1 k hk
  by_cases e : Z 2 k = -1
  · rw [← h1]; unfold ftN; rw [if_pos e, if_pos e]
  · rw [← h1, (h.2.2.2.2.1 k hk e).1]
theorem cl_lt4 {k : Int32} (h : inB k 4 = true) : cl k < 4 := by
  obtain ⟨j, hj, rfl⟩ := inB_t h (by decide)
  rw [show cl (nI j) = j from nI_clamp (by omega)]; exact hj
theorem RZ_cells {Z E Z' E' : Nat → Nat → Int32} (h : RZ Z E Z' E') {k : Nat} (hk : k < 4) {ln i n : Int32} (hf : ftN (Z 2 k) (Z 3 k) ln i n = 0) : ∀ q, q < cl n → E k (cl i + q) = E' k (cl i + q) := by
  intro q hq
  obtain ⟨hn1, hl9, -, hok⟩ := ftN_0 hf
  obtain ⟨mz, i2, n2, ez, rfl, rfl, hm60, hsum⟩ := okC_nat (h.hz k hk) hok
  have e1 : cl (nI i2) = i2 := nI_clamp (by omega)
  have e2 : cl (nI n2) = n2 := nI_clamp (by omega)
  rw [e1]; rw [e2] at hq
  refine (h.2.2.2.2.1 k hk hn1).2 _ ?_
  rw [ez, show cl (nI mz) = mz from nI_clamp (by omega)]; omega
theorem gd_cong {f g : Nat → Int32} {n : Nat} (h : ∀ q, q < n → f q = g q) (q : Nat) (hq : q < n) (h1 : 1 < n ∨ q = 0) : gd f q = gd g q := by
  unfold gd
  rcases h1 with h1 | rfl
  · rw [h q hq, h 1 h1]
  · rw [h 0 hq]; exact gOn_01 (by decide) _ _ _
theorem ffo_cong {f g : Nat → Int32} {n : Nat} (h : ∀ q, q < n → f q = g q) : ∀ k p, p + k = n → ffo f n k p = ffo g n k p
  | 0, _, _ => rfl
  | k + 1, p, hp => by
    rw [ffo_s, ffo_s, gd_cong h p (by omega) (by omega), ffo_cong h k (p + 1) (by omega)]
theorem sp_house {Z E Z' E' : Nat → Nat → Int32} (h : RZ Z E Z' E') (k ln i n : Int32) : spHouse Z E k ln i n = spHouse Z' E' k ln i n := by
  unfold spHouse
  by_cases hk : inB k 4 = true
  · have h4 := cl_lt4 hk
    rw [← RZ_ft h h4]
    by_cases hf : ftN (Z 2 (cl k)) (Z 3 (cl k)) ln i n = 0
    · rw [ffo_cong (f := txt E k i) (g := txt E' k i) (fun q hq => RZ_cells h h4 hf q hq) (cl n) 0 (by omega)]
    · rw [if_neg hf, if_neg hf]
  · rw [if_neg hk, if_neg hk]
theorem fz_house {Z E Z' E' : Nat → Nat → Int32} (h : RZ Z E Z' E') (k ln i n : Int32) : fzHouse Z k ln i n = fzHouse Z' k ln i n := by
  unfold fzHouse
  by_cases hk : inB k 4 = true
  · rw [← RZ_ft h (cl_lt4 hk)]
  · rw [if_neg (fun q => hk q.1), if_neg (fun q => hk q.1)]
theorem nbd_cong {N : Nat → Nat → Nat} {f g : Nat → Int32} {n : Nat} (h : ∀ q, q < n → f q = g q) (hn : 2 < n) : nbd N (dg (f 1)) ((n - 2) / 5) 0 f ((n - 2) / 5) = nbd N (dg (g 1)) ((n - 2) / 5) 0 g ((n - 2) / 5) := by
  funext x i
  unfold nbd
  rw [h 1 (by omega)]
  by_cases hi : i < (n - 2) / 5
  · rw [if_pos hi, if_pos hi, h (3 + 5 * i) (by omega), h (4 + 5 * i) (by omega), h (5 + 5 * i) (by omega), h (6 + 5 * i) (by omega)]
  · rw [if_neg hi, if_neg hi]
theorem nn_house {N : Nat → Nat → Nat} {Z E Z' E' : Nat → Nat → Int32} (h : RZ Z E Z' E') (k ln i n : Int32) : nnHouse N Z E k ln i n = nnHouse N Z' E' k ln i n := by
  unfold nnHouse
  by_cases hk : inB k 4 = true
  · have h4 := cl_lt4 hk
    rw [← RZ_ft h h4]
    by_cases hf : ftN (Z 2 (cl k)) (Z 3 (cl k)) ln i n = 0
    · have hc : ∀ q, q < cl n → txt E k i q = txt E' k i q := fun q hq => RZ_cells h h4 hf q hq
      have e := ffo_cong hc (cl n) 0 (by omega)
      rw [← e]
      by_cases hn : ffo (txt E k i) (cl n) (cl n) 0 = none
      · rw [nbd_cong hc (ffo_none hn).1.1]
      · rw [if_neg (fun q => hn q.2.2.2), if_neg (fun q => hn q.2.2.2)]
    · rw [if_neg (fun q => hf q.2.2.1), if_neg (fun q => hf q.2.2.1)]
  · rw [if_neg (fun q => hk q.1), if_neg (fun q => hk q.1)]
theorem fz_walk {N : Nat → Nat → Nat} {Z E Z' E' : Nat → Nat → Int32} (h : RZ Z E Z' E') (xr xh xk ln xi xn xw : Int32) : fzWalk N Z xr xh xk ln xi xn xw = fzWalk N Z' xr xh xk ln xi xn xw := by
  unfold fzWalk
  by_cases hk : inB xk 4 = true
  · rw [← RZ_ft h (cl_lt4 hk)]
  · rw [if_neg (fun q => hk q.2.1), if_neg (fun q => hk q.2.1)]
theorem aaB_cong {e e' : Nat → Int32} {i D : Nat} : ∀ n, (∀ q, q < n → e (i + q) = e' (i + q)) → aaB e i D n = aaB e' i D n
  | 0, _ => rfl
  | n + 1, h => by rw [aaB, aaB, aaB_cong n (fun q hq => h q (by omega)), h n (by omega)]
theorem wkM_cong {N : Nat → Nat → Nat} {h : Nat} {ac ac' : Nat → Nat} : ∀ n q x7 x8 x9, (∀ y, y < q + n → ac y = ac' y) → wkM N h ac n q x7 x8 x9 = wkM N h ac' n q x7 x8 x9
  | 0, _, _, _, _, _ => rfl
  | n + 1, q, x7, x8, x9, e => by
    rw [wkM_s, wkM_s, e q (by omega)]
    split
    · rfl
    · exact wkM_cong n (q + 1) _ _ _ (fun y hy => e y (by omega))
theorem sp_walk {N : Nat → Nat → Nat} {Z E Z' E' : Nat → Nat → Int32} (h : RZ Z E Z' E') (xr xh xk ln xi xn xw : Int32) : spWalk N Z E xr xh xk ln xi xn xw = spWalk N Z' E' xr xh xk ln xi xn xw := by
  unfold spWalk
  by_cases hk : inB xk 4 = true
  · have h4 := cl_lt4 hk
    rw [← RZ_ft h h4]
    by_cases hf : ftN (Z 2 (cl xk)) (Z 3 (cl xk)) ln xi xn = 0
    · have hc := RZ_cells h h4 hf
      rw [aaB_cong (cl xn) hc, wkM_cong (cl xn) 0 _ _ _ (fun y hy => by rw [hc y (by omega)])]
    · rw [if_neg hf, if_neg hf]
  · rw [if_neg (fun q => hk q.2), if_neg (fun q => hk q.2)]
theorem RZ_M {Z E Z' E' Z1 : Nat → Nat → Int32} (h : RZ Z E Z' E') (h0 : Z1 0 0 = Z' 0 0) (h1 : Z1 0 1 = Z' 0 1) (h2 : Z1 0 2 = Z' 0 2) (hr : ∀ r i, 1 ≤ r → r ≤ 3 → Z1 r i = Z' r i) : RZ Z E Z1 E' := by
  obtain ⟨k0, k1, k2, k3, k4, k5⟩ := h
  refine ⟨k0.trans h0.symm, k1.trans h1.symm, fun i => (k2 i).trans (hr 1 i (by decide) (by decide)).symm, fun k hk => ⟨(k3 k hk).1.trans (hr 2 k (by decide) (by decide)).symm, (k3 k hk).2⟩, fun k hk e => ⟨((k4 k hk e).1).trans (hr 3 k (by decide) (by decide)).symm, (k4 k hk e).2⟩, h2.trans k5⟩
theorem RZ_X {Z E Z' E' Z1 : Nat → Nat → Int32} (h : RZ Z E Z' E') (h0 : Z1 0 0 = Z 0 0) (h1 : Z1 0 1 = Z 0 1) (hr : ∀ r i, 1 ≤ r → r ≤ 3 → Z1 r i = Z r i) : RZ Z1 E Z' E' := by
  obtain ⟨k0, k1, k2, k3, k4, k5⟩ := h
  refine ⟨h0.trans k0, h1.trans k1, fun i => (hr 1 i (by decide) (by decide)).trans (k2 i), fun k hk => ?_, fun k hk e => ?_, k5⟩
  · rw [hr 2 k (by decide) (by decide)]; exact k3 k hk
  · rw [hr 2 k (by decide) (by decide)] at e
    rw [hr 2 k (by decide) (by decide), hr 3 k (by decide) (by decide)]; exact k4 k hk e
theorem RZ_fz {Z E Z' E' : Nat → Nat → Int32} (h : RZ Z E Z' E') (v : Int32) : RZ (uZ Z 0 1 v) E (uZ Z' 0 1 v) E' := by
  obtain ⟨k0, k1, k2, k3, k4, k5⟩ := h
  exact ⟨k0, rfl, k2, k3, k4, k5⟩
theorem RZ_tr {Z E Z' E' : Nat → Nat → Int32} (h : RZ Z E Z' E') (v : Int32) : RZ (uZ Z 0 0 v) E (uZ Z' 0 0 v) E' := by
  obtain ⟨k0, k1, k2, k3, k4, k5⟩ := h
  exact ⟨rfl, k1, k2, k3, k4, k5⟩
theorem RZ_ft3 {Z E Z' E' : Nat → Nat → Int32} (h : RZ Z E Z' E') {k : Nat} (hk : k < 4) (i n : Int32) : ftN (Z 2 k) (Z 3 k) (Z 3 k) i n = ftN (Z' 2 k) (Z' 3 k) (Z' 3 k) i n := by
  obtain ⟨h1, h2⟩ := h.2.2.2.1 k hk
  by_cases e : Z 2 k = -1
  · rw [← h1]; unfold ftN; rw [if_pos e, if_pos e]
  · rw [← h1, (h.2.2.2.2.1 k hk e).1]
theorem sp_put {Z E Z' E' : Nat → Nat → Int32} (h : RZ Z E Z' E') (k i : Int32) : spPut Z k i = spPut Z' k i ∧ fzPut Z k i = fzPut Z' k i := by
  unfold spPut fzPut
  by_cases hk : inB k 4 = true
  · rw [← RZ_ft3 h (cl_lt4 hk)]; exact ⟨rfl, rfl⟩
  · rw [if_neg hk, if_neg hk, if_neg hk, if_neg hk]; exact ⟨rfl, rfl⟩
theorem fz_cell {Z E Z' E' : Nat → Nat → Int32} (h : RZ Z E Z' E') (k i ln : Int32) : fzCell Z k i ln = fzCell Z' k i ln := by
  unfold fzCell
  by_cases hk : inB k 4 = true
  · rw [← RZ_ft h (cl_lt4 hk)]
  · rw [if_neg (fun q => hk q.1), if_neg (fun q => hk q.1)]
theorem sp_cell {Z E Z' E' : Nat → Nat → Int32} (h : RZ Z E Z' E') (k i ln : Int32) : spCell Z E k i ln = spCell Z' E' k i ln := by
  unfold spCell
  by_cases hk : inB k 4 = true
  · have h4 := cl_lt4 hk
    rw [← RZ_ft h h4]
    by_cases hf : ftN (Z 2 (cl k)) (Z 3 (cl k)) ln i (nI 1) = 0
    · have e := RZ_cells h h4 hf 0 (by rw [show cl (nI 1) = 1 from nI_clamp (by decide)]; decide)
      rw [Nat.add_zero] at e
      rw [e]
    · rw [if_neg (fun q => hf q.2.2), if_neg (fun q => hf q.2.2)]
  · rw [if_neg (fun q => hk q.1), if_neg (fun q => hk q.1)]
theorem cp_N {Z E Z' E' : Nat → Nat → Int32} (h : RZ Z E Z' E') {k o : Int32} (hk : inB k 4 = true) (ho : inB o 4 = true) (i j n : Int32) : cpN Z k i o j n = cpN Z' k i o j n := by
  have h1 := (h.2.2.2.1 _ (cl_lt4 hk)).1
  have h2 := (h.2.2.2.1 _ (cl_lt4 ho)).1
  unfold cpN
  rw [← h1, ← h2]
  by_cases e : Z 2 (cl k) = -1 ∨ Z 2 (cl o) = -1
  · rw [if_pos e, if_pos e]
  · rw [(h.2.2.2.2.1 _ (cl_lt4 hk) (fun q => e (Or.inl q))).1, (h.2.2.2.2.1 _ (cl_lt4 ho) (fun q => e (Or.inr q))).1]
theorem sp_copy {Z E Z' E' : Nat → Nat → Int32} (h : RZ Z E Z' E') (k i o j n : Int32) : spCopy Z k i o j n = spCopy Z' k i o j n ∧ fzCopy Z k i o j n = fzCopy Z' k i o j n := by
  unfold spCopy fzCopy
  by_cases hk : inB k 4 = true ∧ inB o 4 = true
  · rw [← cp_N h hk.1 hk.2]; exact ⟨rfl, rfl⟩
  · rw [if_neg hk, if_neg hk, if_neg hk, if_neg hk]; exact ⟨rfl, rfl⟩
theorem RZ_put {Z E Z' E' : Nat → Nat → Int32} (h : RZ Z E Z' E') (k i v : Int32) : RZ Z (nePut Z E k i v) Z' (nePut Z' E' k i v) := by
  unfold nePut
  by_cases hk : inB k 4 = true
  · have h4 := cl_lt4 hk
    rw [← RZ_ft3 h h4]
    by_cases hf : ftN (Z 2 (cl k)) (Z 3 (cl k)) (Z 3 (cl k)) i (nI 1) = 0
    · rw [if_pos ⟨hk, hf⟩, if_pos ⟨hk, hf⟩]
      have hl := (h.2.2.2.2.1 _ h4 (ftN_0 hf).1).1
      obtain ⟨k0, k1, k2, k3, k4, k5⟩ := h
      refine ⟨k0, k1, k2, k3, fun q hq e => ⟨(k4 q hq e).1, fun y hy => ?_⟩, k5⟩
      unfold uZ
      rw [← hl]
      split
      · rfl
      · exact (k4 q hq e).2 y hy
    · rw [if_neg (fun q => hf q.2), if_neg (fun q => hf q.2)]; exact h
  · rw [if_neg (fun q => hk q.1), if_neg (fun q => hk q.1)]; exact h
theorem RZ_copy {Z E Z' E' : Nat → Nat → Int32} (h : RZ Z E Z' E') (k i o j n : Int32) : RZ Z (neCopy Z E k i o j n) Z' (neCopy Z' E' k i o j n) := by
  unfold neCopy
  by_cases hk : inB k 4 = true ∧ inB o 4 = true
  · rw [← cp_N h hk.1 hk.2]
    by_cases hf : cpN Z k i o j n = 0
    · rw [if_pos ⟨hk.1, hk.2, hf⟩, if_pos ⟨hk.1, hk.2, hf⟩]
      have h4 := cl_lt4 hk.1
      have hcp : ¬ (Z 2 (cl k) = -1 ∨ Z 2 (cl o) = -1) ∧ okC (Z 2 (cl k)) i n = true := by
        unfold cpN at hf
        split at hf
        · exact absurd hf (by decide)
        · split at hf
          · exact absurd hf (by decide)
          · split at hf
            · rename_i a1 a2 a3; exact ⟨a1, a3.1⟩
            · exact absurd hf (by decide)
      obtain ⟨mz, i2, n2, ez, rfl, rfl, hm60, hsum⟩ := okC_nat (h.hz _ h4) hcp.2
      have e1 : cl (nI i2) = i2 := nI_clamp (by omega)
      have e2 : cl (nI n2) = n2 := nI_clamp (by omega)
      have e3 : cl (nI mz) = mz := nI_clamp (by omega)
      obtain ⟨k0, k1, k2, k3, k4, k5⟩ := h
      have hs := (k4 _ h4 (fun q => hcp.1 (Or.inl q))).2
      rw [ez, e3] at hs
      refine ⟨k0, k1, k2, k3, fun q hq e => ⟨(k4 q hq e).1, fun y hy => ?_⟩, k5⟩
      by_cases e9 : q = cl o
      · subst e9
        show rZ E (cl o) _ (cl o) y = rZ E' (cl o) _ (cl o) y
        unfold rZ
        rw [if_pos rfl, if_pos rfl]
        unfold va_cpy
        rw [e1, e2]
        split
        · exact hs _ (by omega)
        · exact (k4 _ hq e).2 y hy
      · show rZ E (cl o) _ q y = rZ E' (cl o) _ q y
        unfold rZ
        rw [if_neg e9, if_neg e9]
        exact (k4 q hq e).2 y hy
    · rw [if_neg (fun q => hf q.2.2), if_neg (fun q => hf q.2.2)]; exact h
  · rw [if_neg (fun q => hk ⟨q.1, q.2.1⟩), if_neg (fun q => hk ⟨q.1, q.2.1⟩)]; exact h

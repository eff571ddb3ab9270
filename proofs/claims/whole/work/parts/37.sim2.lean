/-! the invariant and the relation are kept -/
theorem cl_inB {x : Int32} {n : Nat} (hn : n < 2 ^ 31) (h : inB x n = true) : cl x < n := by
  obtain ⟨j, hj, rfl⟩ := inB_t h hn
  rw [show cl (nI j) = j from nI_clamp (by omega)]; exact hj
theorem inv_nxStep {N : Nat → Nat → Nat} (hI : inv N) (d v : Int32) : inv (nxStep N d v) := by
  unfold nxStep; split
  · exact inv_step hI (cl_inB (by decide) (by assumption : _ ∧ _).2)
  · exact hI
theorem inv_nxTurn {N : Nat → Nat → Nat} (hI : inv N) (d r : Int32) : inv (nxTurn N d r) := by
  unfold nxTurn; split
  · exact inv_turn hI (cl_inB (by have := hI.R; omega) (by assumption : _ ∧ _).2)
  · exact hI
theorem inv_nxBack {N : Nat → Nat → Nat} (hI : inv N) (k : Int32) : inv (nxBack N k) := by
  unfold nxBack; split
  · have hq := hI.Q
    obtain ⟨k0, k1, k2, k3, k4, k5, k6, k7⟩ := hI
    refine ⟨k0, k1, ?_, k3, k4, k5, k6, fun j hj => k7 j ?_⟩
    · show N 0 2 - cl k ≤ 8; omega
    · have hj' : j < N 0 2 - cl k := hj
      omega
  · exact hI
theorem inv_nxReading {N : Nat → Nat → Nat} (hI : inv N) (d h r : Int32) : inv (nxReading N d h r) := by
  unfold nxReading; split
  · rename_i q
    have hd := cl_inB (by have := hI.D; omega) q.1
    have hh := cl_inB (by decide) q.2.2.1
    have hD := hI.D
    have h8 := q.2.2.2
    obtain ⟨k0, k1, k2, k3, k4, k5, k6, k7⟩ := hI
    refine ⟨k0, k1, ?_, k3, k4, fun j => ?_, k6, fun j hj => ?_⟩
    · show N 0 2 + 1 ≤ 8; omega
    · have e5 : uN (uN (uN N 5 (N 0 2) (cl d)) 6 (N 0 2) (cl h)) 0 2 (N 0 2 + 1) 5 j = if j = N 0 2 then cl d else N 5 j := by simp [uN]
      have e6 : uN (uN (uN N 5 (N 0 2) (cl d)) 6 (N 0 2) (cl h)) 0 2 (N 0 2 + 1) 6 j = if j = N 0 2 then cl h else N 6 j := by simp [uN]
      rw [e5, e6]
      split
      · exact ⟨by omega, hh⟩
      · exact k5 j
    · have hj' : j < N 0 2 + 1 := hj
      have e5 : uN (uN (uN N 5 (N 0 2) (cl d)) 6 (N 0 2) (cl h)) 0 2 (N 0 2 + 1) 5 j = if j = N 0 2 then cl d else N 5 j := by simp [uN]
      rw [e5]
      show _ < N 0 1
      split
      · exact hd
      · exact k7 j (by omega)
  · exact hI
theorem RZ_reading {N : Nat → Nat → Nat} {Z E Z' E' : Nat → Nat → Int32} (h : RZ Z E Z' E') (d hr r : Int32) : RZ (nzReading N Z d hr r) E (nzReading N Z' d hr r) E' := by
  unfold nzReading; split
  · obtain ⟨k0, k1, k2, k3, k4, k5⟩ := h
    refine ⟨k0, k1, fun i => ?_, k3, k4, k5⟩
    show (if 1 = 1 ∧ i = N 0 2 then r else Z 1 i) = (if 1 = 1 ∧ i = N 0 2 then r else Z' 1 i)
    rw [k2 i]
  · exact h
theorem RZ_lose {Z E Z' E' : Nat → Nat → Int32} (h : RZ Z E Z' E') (k : Int32) : RZ (nzLose Z k) E (nzLose Z' k) E' ∧ spLose Z k = spLose Z' k := by
  unfold nzLose spLose
  by_cases hk : inB k 4 = true
  · have h4 := cl_lt4 hk
    rw [if_pos hk, if_pos hk, if_pos hk, if_pos hk, (h.2.2.2.1 _ h4).1]
    refine ⟨?_, rfl⟩
    obtain ⟨k0, k1, k2, k3, k4, k5⟩ := h
    have e2 : ∀ (Y : Nat → Nat → Int32) q, uZ Y 2 (cl k) (-1) 2 q = if q = cl k then -1 else Y 2 q := fun Y q => by simp [uZ]
    refine ⟨k0, k1, k2, fun q hq => ?_, fun q hq e => ?_, k5⟩
    · rw [e2, e2]
      split
      · exact ⟨rfl, Or.inl rfl⟩
      · exact k3 q hq
    · rw [e2] at e
      by_cases e9 : q = cl k
      · rw [if_pos e9] at e; exact absurd rfl e
      · rw [if_neg e9] at e
        rw [e2, if_neg e9]
        exact k4 q hq e
  · rw [if_neg hk, if_neg hk, if_neg hk, if_neg hk]; exact ⟨h, rfl⟩
theorem RZ_sheet {Z E Z' E' : Nat → Nat → Int32} (h : RZ Z E Z' E') {k : Nat} (ln n : Int32) (hn : n ≤ nI 60) (h0 : ¬ n < 0) : RZ (uZ (uZ (uZ Z 0 1 0) 3 k ln) 2 k n) (rZ E k (fun j => if j < 60 then nI 0 else E k j)) (uZ (uZ (uZ Z' 2 k n) 3 k ln) 0 1 0) (fz0 E' k (cl n)) := by
  have hm : ∃ m, n = nI m ∧ 0 ≤ m ∧ m ≤ 60 := fig_of (by decide) (by decide) (by rw [nI_0]; exact h0) (by rw [fa_lt]; rw [fa_le] at hn; omega)
  obtain ⟨m, rfl, -, hm⟩ := hm
  have ec : cl (nI m) = m := nI_clamp (by omega)
  obtain ⟨k0, k1, k2, k3, k4, k5⟩ := h
  have x2 : ∀ q, uZ (uZ (uZ Z 0 1 0) 3 k ln) 2 k (nI m) 2 q = if q = k then nI m else Z 2 q := fun q => by simp [uZ]
  have x3 : ∀ q, uZ (uZ (uZ Z 0 1 0) 3 k ln) 2 k (nI m) 3 q = if q = k then ln else Z 3 q := fun q => by simp [uZ]
  have y2 : ∀ q, uZ (uZ (uZ Z' 2 k (nI m)) 3 k ln) 0 1 0 2 q = if q = k then nI m else Z' 2 q := fun q => by simp [uZ]
  have y3 : ∀ q, uZ (uZ (uZ Z' 2 k (nI m)) 3 k ln) 0 1 0 3 q = if q = k then ln else Z' 3 q := fun q => by simp [uZ]
  refine ⟨?_, ?_, fun i => ?_, fun q hq => ?_, fun q hq e => ?_, ?_⟩
  · simp [uZ]; exact k0
  · simp [uZ]
  · simp [uZ]; exact k2 i
  · rw [x2, y2]
    split
    · exact ⟨rfl, Or.inr ⟨m, hm, rfl⟩⟩
    · exact k3 q hq
  · rw [x2] at e
    rw [x3, y3, x2]
    by_cases e9 : q = k
    · subst e9
      rw [if_pos rfl, if_pos rfl, if_pos rfl, ec]
      refine ⟨rfl, fun y hy => ?_⟩
      unfold rZ fz0
      rw [if_pos rfl, if_pos (show y < 60 by omega), if_pos (show q = q ∧ y < m from ⟨rfl, hy⟩)]; rfl
    · rw [if_neg e9] at e
      rw [if_neg e9, if_neg e9, if_neg e9]
      refine ⟨(k4 q hq e).1, fun y hy => ?_⟩
      unfold rZ fz0
      rw [if_neg e9, if_neg (fun w => e9 w.1)]
      exact (k4 q hq e).2 y hy
  · simp [uZ]; exact k5

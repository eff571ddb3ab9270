/-! sheets -/
def szOK (z : Int32) : Prop := z = -1 ∨ ∃ n : Nat, n ≤ 60 ∧ z = nI n
theorem szOK_r {z : Int32} (h : szOK z) : -1 ≤ z.toInt ∧ z.toInt ≤ 60 := by
  rcases h with rfl | ⟨n, hn, rfl⟩
  · decide
  · rw [nI_toInt (by omega)]; omega
theorem szOK_n {z : Int32} (h : szOK z) (h1 : ¬ z = -1) : ∃ n : Nat, n ≤ 60 ∧ z = nI n := h.resolve_left h1
theorem szOK_neg {z : Int32} (h : szOK z) : z < 0 ↔ z = -1 := by
  rcases h with rfl | ⟨n, hn, rfl⟩
  · decide
  · constructor
    · intro q; exact absurd q (nI_pos (by omega))
    · intro q
      have := congrArg Int32.toInt q
      rw [nI_toInt (by omega)] at this
      have e1 : (-1 : Int32).toInt = -1 := rfl
      omega
def okC (z i n : Int32) : Bool := decide (0 ≤ i.toInt ∧ 0 ≤ n.toInt ∧ i.toInt + n.toInt ≤ z.toInt)
def ftN (z ln lane i n : Int32) : Nat := if z = -1 then 1 else if ¬ ln = lane then 2 else if n < 0 then 4 else if okC z i n = true then 0 else 3
theorem ftN_lt (z ln lane i n : Int32) : ftN z ln lane i n < 5 := by
  unfold ftN
  repeat' split
  all_goals omega
theorem okC_sub {z i : Int32} (hz : szOK z) (h1 : ¬ i < 0) (h9 : ¬ z < i) : (z - i).toInt = z.toInt - i.toInt := by
  have := szOK_r hz
  rw [fa_lt] at h1 h9
  have e0 : (0 : Int32).toInt = 0 := rfl
  exact fb_subI (by omega) (by omega)
theorem okC_t {z i n : Int32} (hz : szOK z) (h1 : ¬ i < 0) (h9 : ¬ z < i) (h13 : ¬ n < 0) (h23 : ¬ z - i < n) : okC z i n = true := by
  have h := okC_sub hz h1 h9
  rw [fa_lt] at h1 h9 h13 h23
  have e0 : (0 : Int32).toInt = 0 := rfl
  exact decide_eq_true (by omega)
theorem okC_f1 {z i n : Int32} (h1 : i < 0) : okC z i n = false := by
  rw [fa_lt] at h1
  have e0 : (0 : Int32).toInt = 0 := rfl
  exact decide_eq_false (by omega)
theorem okC_f2 {z i n : Int32} (h9 : z < i) : okC z i n = false := by
  rw [fa_lt] at h9
  exact decide_eq_false (by omega)
theorem okC_f3 {z i n : Int32} (h13 : n < 0) : okC z i n = false := by
  rw [fa_lt] at h13
  have e0 : (0 : Int32).toInt = 0 := rfl
  exact decide_eq_false (by omega)
theorem okC_f4 {z i n : Int32} (hz : szOK z) (h1 : ¬ i < 0) (h9 : ¬ z < i) (h23 : z - i < n) : okC z i n = false := by
  have h := okC_sub hz h1 h9
  rw [fa_lt] at h23
  exact decide_eq_false (by omega)
/-- cells that may be taken: their places as naturals -/
theorem okC_nat {z i n : Int32} (hz : szOK z) (h : okC z i n = true) : ∃ m j k : Nat, z = nI m ∧ i = nI j ∧ n = nI k ∧ m ≤ 60 ∧ j + k ≤ m := by
  have h := of_decide_eq_true h
  have hr := szOK_r hz
  obtain ⟨j, hj, rfl⟩ := vp_in_of (x := i) (n := 61) (vp_in_iff.mpr (by omega)) (by decide)
  obtain ⟨k, hk, rfl⟩ := vp_in_of (x := n) (n := 61) (vp_in_iff.mpr (by omega)) (by decide)
  obtain ⟨m, hm, rfl⟩ := vp_in_of (x := z) (n := 61) (vp_in_iff.mpr (by omega)) (by decide)
  rw [nI_toInt (by omega), nI_toInt (by omega), nI_toInt (by omega)] at h
  exact ⟨m, j, k, rfl, rfl, rfl, by omega, by omega⟩
theorem okC_N {m j k : Nat} (hm : m < 2 ^ 31) (hj : j < 2 ^ 31) (hk : k < 2 ^ 31) : okC (nI m) (nI j) (nI k) = decide (j + k ≤ m) := by
  unfold okC
  rw [nI_toInt hm, nI_toInt hj, nI_toInt hk]
  by_cases h : j + k ≤ m
  · rw [decide_eq_true h]; exact decide_eq_true (by omega)
  · rw [decide_eq_false h]; exact decide_eq_false (by omega)
theorem ftN_0 {z ln lane i n : Int32} (h : ftN z ln lane i n = 0) : ¬ z = -1 ∧ ln = lane ∧ ¬ n < 0 ∧ okC z i n = true := by
  unfold ftN at h
  split at h
  · omega
  · split at h
    · omega
    · split at h
      · omega
      · split at h
        · rename_i h1 h2 h3 h4; exact ⟨h1, Classical.byContradiction h2, h3, h4⟩
        · omega
def cutL (ln v : Int32) : Int32 := if ln = 0 then v.toInt8.toInt32 else if ln = 1 then v.toInt16.toInt32 else v
def spSheet (k ln n : Int32) : Int32 := if inB k 4 = true then (if inB ln 3 = true ∧ n ≤ nI 60 then (if n < 0 then -14 else 1) else -2) else -1
def fzSheet (k ln n : Int32) : Int32 := if inB k 4 = true ∧ inB ln 3 = true ∧ n < 0 then 4 else 0
def okSheet (k ln n : Int32) : Prop := inB k 4 = true ∧ inB ln 3 = true ∧ n ≤ nI 60 ∧ ¬ n < 0
def spLose (Z : Nat → Nat → Int32) (k : Int32) : Int32 := if inB k 4 = true then (if Z 2 (cl k) = -1 then 0 else 1) else -1
def nzLose (Z : Nat → Nat → Int32) (k : Int32) : Nat → Nat → Int32 := if inB k 4 = true then uZ Z 2 (cl k) (-1) else Z
def fA (f : Nat) : Int32 := if f = 0 then 1 else -10 - nI f
def spPut (Z : Nat → Nat → Int32) (k i : Int32) : Int32 := if inB k 4 = true then fA (ftN (Z 2 (cl k)) (Z 3 (cl k)) (Z 3 (cl k)) i (nI 1)) else -1
def fzPut (Z : Nat → Nat → Int32) (k i : Int32) : Int32 := if inB k 4 = true then nI (ftN (Z 2 (cl k)) (Z 3 (cl k)) (Z 3 (cl k)) i (nI 1)) else 0
def nePut (Z E : Nat → Nat → Int32) (k i v : Int32) : Nat → Nat → Int32 := if inB k 4 = true ∧ ftN (Z 2 (cl k)) (Z 3 (cl k)) (Z 3 (cl k)) i (nI 1) = 0 then uZ E (cl k) (cl i) (cutL (Z 3 (cl k)) v) else E
def spCell (Z E : Nat → Nat → Int32) (k i ln : Int32) : Int64 := if inB k 4 = true ∧ inB ln 3 = true ∧ ftN (Z 2 (cl k)) (Z 3 (cl k)) ln i (nI 1) = 0 then (E (cl k) (cl i)).toInt64 else -9223372036854775808
def fzCell (Z : Nat → Nat → Int32) (k i ln : Int32) : Int32 := if inB k 4 = true ∧ inB ln 3 = true then nI (ftN (Z 2 (cl k)) (Z 3 (cl k)) ln i (nI 1)) else 0
def cpN (Z : Nat → Nat → Int32) (k i o j n : Int32) : Nat := if Z 2 (cl k) = -1 ∨ Z 2 (cl o) = -1 then 1 else if ¬ Z 3 (cl k) = Z 3 (cl o) then 2 else if okC (Z 2 (cl k)) i n = true ∧ okC (Z 2 (cl o)) j n = true then 0 else 3
def spCopy (Z : Nat → Nat → Int32) (k i o j n : Int32) : Int32 := if inB k 4 = true ∧ inB o 4 = true then (if cpN Z k i o j n = 0 then n else -10 - nI (cpN Z k i o j n)) else -1
def fzCopy (Z : Nat → Nat → Int32) (k i o j n : Int32) : Int32 := if inB k 4 = true ∧ inB o 4 = true then nI (cpN Z k i o j n) else 0
def neCopy (Z E : Nat → Nat → Int32) (k i o j n : Int32) : Nat → Nat → Int32 := if inB k 4 = true ∧ inB o 4 = true ∧ cpN Z k i o j n = 0 then rZ E (cl o) (va_cpy (E (cl k)) (E (cl o)) (cl i) (cl j) (cl n)) else E
theorem fl_s (f : Nat → Int32) (v : Int32) (q : Nat) : upd (fun j => if j < q then v else f j) q v = fun j => if j < q + 1 then v else f j := by
  funext j
  by_cases h : j = q
  · subst h; simp [upd]
  · by_cases h2 : j < q
    · simp [upd, h, h2, Nat.lt_succ_of_lt h2]
    · have : ¬ j < q + 1 := by omega
      simp [upd, h, h2, this]
theorem fl_0 (f : Nat → Int32) (v : Int32) : (fun j => if j < 0 then v else f j) = f := by funext j; simp
def fz0 (E : Nat → Nat → Int32) (k i : Nat) : Nat → Nat → Int32 := fun k' i' => if k' = k ∧ i' < i then 0 else E k' i'
theorem fz0_s (E : Nat → Nat → Int32) (k i : Nat) : uZ (fz0 E k i) k i 0 = fz0 E k (i + 1) := by
  funext k' i'
  by_cases h : k' = k
  · subst h
    by_cases h2 : i' = i
    · subst h2; simp [uZ, fz0]
    · by_cases h3 : i' < i
      · simp [uZ, fz0, h2, h3, Nat.lt_succ_of_lt h3]
      · have : ¬ i' < i + 1 := by omega
        simp [uZ, fz0, h2, h3, this]
  · simp [uZ, fz0, h]
theorem fz0_0 (E : Nat → Nat → Int32) (k : Nat) : fz0 E k 0 = E := by funext a b; simp [fz0]
/-- the second half of the reference's copy -/
def cpE (E : Nat → Nat → Int32) (g : Nat → Int32) (o j x : Nat) : Nat → Nat → Int32 := fun k' i' => if k' = o ∧ j ≤ i' ∧ i' < j + x then g (i' - j) else E k' i'
theorem cpE_s (E : Nat → Nat → Int32) (g : Nat → Int32) (o j x : Nat) : uZ (cpE E g o j x) o (j + x) (g x) = cpE E g o j (x + 1) := by
  funext k' i'
  by_cases h : k' = o
  · subst h
    by_cases h2 : i' = j + x
    · subst h2
      have e : j + x - j = x := by omega
      have e2 : j ≤ j + x ∧ j + x < j + (x + 1) := by omega
      simp [uZ, cpE, e, e2]
    · by_cases h3 : j ≤ i' ∧ i' < j + x
      · have : j ≤ i' ∧ i' < j + (x + 1) := by omega
        simp [uZ, cpE, h2, h3, this]
      · have : ¬ (j ≤ i' ∧ i' < j + (x + 1)) := by omega
        simp [uZ, cpE, h2, h3, this]
  · simp [uZ, cpE, h]
theorem cpE_0 (E : Nat → Nat → Int32) (g : Nat → Int32) (o j : Nat) : cpE E g o j 0 = E := by
  funext a b
  have : ¬ (a = o ∧ j ≤ b ∧ b < j + 0) := by omega
  unfold cpE
  rw [if_neg this]

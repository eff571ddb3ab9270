theorem cpE_eq {E : Nat → Nat → Int32} {g : Nat → Int32} {k o i j n : Nat} (hg : ∀ y, y < n → g y = E k (i + y)) : cpE E g o j n = rZ E o (va_cpy (E k) (E o) i j n) := by
  funext a b
  unfold cpE rZ va_cpy
  by_cases h : a = o
  · subst h
    by_cases h2 : j ≤ b ∧ b < j + n
    · have h3 : b - j < n := by omega
      simp only [h2, and_self, if_true, hg _ h3]
    · simp [h2]
  · simp [h]
theorem beyond_t {z i n : Int32} (h1 : i < 0) : okC z i n = false := okC_f1 h1
theorem beyond_sum {z i n : Int32} : i.toInt64 + n.toInt64 ≤ z.toInt64 ↔ i.toInt + n.toInt ≤ z.toInt := by
  have hi := fb_rng i
  have hn := fb_rng n
  rw [fa_le64, fb_addL (by rw [Int32.toInt_toInt64, Int32.toInt_toInt64]; omega) (by rw [Int32.toInt_toInt64, Int32.toInt_toInt64]; omega), Int32.toInt_toInt64, Int32.toInt_toInt64, Int32.toInt_toInt64]
theorem beyond_n {n : Int32} : n.toInt64 < 0 ↔ n < 0 := by
  rw [fa_lt64, fa_lt, Int32.toInt_toInt64]; rfl
theorem beyond_ok {z i n : Int32} (h1 : ¬ i < 0) (h2 : ¬ n.toInt64 < 0) : okC z i n = true ↔ i.toInt64 + n.toInt64 ≤ z.toInt64 := by
  rw [beyond_sum]
  rw [beyond_n] at h2
  rw [fa_lt] at h1 h2
  have e0 : (0 : Int32).toInt = 0 := rfl
  unfold okC
  constructor
  · intro h; exact (of_decide_eq_true h).2.2
  · intro h; exact decide_eq_true (by omega)
theorem neg_f {f : Nat} (hf : f < 5) : (-10 - nI f) < 0 := by
  rcases (show f = 0 ∨ f = 1 ∨ f = 2 ∨ f = 3 ∨ f = 4 by omega) with rfl | rfl | rfl | rfl | rfl <;> decide
/-! walks that are told -/
def aaB (e : Nat → Int32) (i D : Nat) : Nat → Bool
  | 0 => true
  | n + 1 => aaB e i D n && inB (e (i + n)) (D + 1)
theorem aaB_all {e : Nat → Int32} {i D : Nat} (hD : D + 1 < 2 ^ 31) : ∀ n, aaB e i D n = true → ∀ t, t < n → e (i + t) = nI (cl (e (i + t))) ∧ cl (e (i + t)) ≤ D
  | 0, _, t, h => by omega
  | n + 1, h, t, ht => by
    rw [aaB, Bool.and_eq_true] at h
    by_cases q : t = n
    · subst q
      obtain ⟨j, hj, e⟩ := inB_t h.2 hD
      rw [e]
      have : (nI j).toNatClampNeg = j := nI_clamp (by omega)
      exact ⟨by rw [show cl (nI j) = j from this], by rw [show cl (nI j) = j from this]; omega⟩
    · exact aaB_all hD n h.1 t (by omega)
theorem aaB_f {e : Nat → Int32} {i D t : Nat} : ∀ n, t < n → inB (e (i + t)) (D + 1) = false → aaB e i D n = false
  | 0, h, _ => by omega
  | n + 1, h, q => by
    rw [aaB]
    by_cases z : t = n
    · subst z; rw [q, Bool.and_false]
    · rw [aaB_f n (by omega) q]; rfl
def wkM (N : Nat → Nat → Nat) (h : Nat) (ac : Nat → Nat) : Nat → Nat → Nat → Nat → Nat → Option Nat × Nat × Nat × Nat
  | 0, _, at0, been, cnt => (none, at0, been, cnt)
  | f + 1, t, at0, been, cnt => match bh N (-9) at0 ((h + t) % 12) (ac t) with
    | none => (some t, at0, been, cnt)
    | some r => wkM N h ac f (t + 1) r (been ||| 2 ^ r) (cnt + if ac t = N 0 1 then 0 else 1)
theorem wkM_s {N : Nat → Nat → Nat} {h : Nat} {ac : Nat → Nat} {f t at0 been cnt : Nat} : wkM N h ac (f + 1) t at0 been cnt = match bh N (-9) at0 ((h + t) % 12) (ac t) with | none => (some t, at0, been, cnt) | some r => wkM N h ac f (t + 1) r (been ||| 2 ^ r) (cnt + if ac t = N 0 1 then 0 else 1) := rfl
theorem wkM_lt {N : Nat → Nat → Nat} (hI : inv N) {h : Nat} {ac : Nat → Nat} : ∀ f t at0 been cnt, (∀ x, x < t + f → ac x ≤ N 0 1) → at0 < N 0 0 → been < 64 → (wkM N h ac f t at0 been cnt).2.1 < N 0 0 ∧ (wkM N h ac f t at0 been cnt).2.2.1 < 64 ∧ (wkM N h ac f t at0 been cnt).2.2.2 ≤ cnt + f ∧ (∀ x, (wkM N h ac f t at0 been cnt).1 = some x → x < t + f)
  | 0, t, at0, been, cnt, _, h1, h2 => ⟨h1, h2, Nat.le_refl _, fun x q => by cases q⟩
  | f + 1, t, at0, been, cnt, ha, h1, h2 => by
    rw [wkM_s]
    cases hb : bh N (-9) at0 ((h + t) % 12) (ac t) with
    | none => exact ⟨h1, h2, by show cnt ≤ cnt + (f + 1); omega, fun x q => by cases q; omega⟩
    | some r =>
      have hr := bh_lt hI h1 (ha t (by omega)) r hb
      have hR := hI.R
      obtain ⟨q1, q2, q3, q4⟩ := wkM_lt hI (h := h) (ac := ac) f (t + 1) r (been ||| 2 ^ r) (cnt + if ac t = N 0 1 then 0 else 1) (fun x hx => ha x (by omega)) hr (or_lt h2 (by omega))
      refine ⟨q1, q2, ?_, fun x q => by have := q4 x q; omega⟩
      refine Nat.le_trans q3 ?_
      split <;> omega
def wres (w n h : Nat) (q : Option Nat × Nat × Nat × Nat) : Int32 := if w = 1 then oI q.1 else match q.1 with
  | some t => -100 - nI t
  | none => if w = 0 then nI q.2.1 else if w = 2 then nI q.2.2.1 else if w = 3 then nI ((h + n) % 12) else nI q.2.2.2
def g4 (Z : Nat → Nat → Int32) (a b c d : Int32) : Nat → Nat → Int32 := uZ (uZ (uZ (uZ Z 0 6 a) 0 7 b) 0 8 c) 0 9 d
theorem g4_6 (Z : Nat → Nat → Int32) (a b c d v : Int32) : uZ (g4 Z a b c d) 0 6 v = g4 Z v b c d := by
  funext r i; unfold g4 uZ; by_cases h : r = 0 ∧ i = 6
  · obtain ⟨rfl, rfl⟩ := h; simp
  · by_cases h7 : r = 0 ∧ i = 7 <;> by_cases h8 : r = 0 ∧ i = 8 <;> by_cases h9 : r = 0 ∧ i = 9 <;> simp [h, h7, h8, h9]
theorem g4_7 (Z : Nat → Nat → Int32) (a b c d v : Int32) : uZ (g4 Z a b c d) 0 7 v = g4 Z a v c d := by
  funext r i; unfold g4 uZ; by_cases h : r = 0 ∧ i = 7
  · obtain ⟨rfl, rfl⟩ := h; simp
  · by_cases h8 : r = 0 ∧ i = 8 <;> by_cases h9 : r = 0 ∧ i = 9 <;> simp [h, h8, h9]
theorem g4_8 (Z : Nat → Nat → Int32) (a b c d v : Int32) : uZ (g4 Z a b c d) 0 8 v = g4 Z a b v d := by
  funext r i; unfold g4 uZ; by_cases h : r = 0 ∧ i = 8
  · obtain ⟨rfl, rfl⟩ := h; simp
  · by_cases h9 : r = 0 ∧ i = 9 <;> simp [h, h9]
theorem g4_9 (Z : Nat → Nat → Int32) (a b c d v : Int32) : uZ (g4 Z a b c d) 0 9 v = g4 Z a b c v := by
  unfold g4; rw [uZ_uZ]
def okWalk (N : Nat → Nat → Nat) (xr xh xk ln xn xw : Int32) : Prop := inB xr (N 0 0) = true ∧ inB xk 4 = true ∧ inB xh 12 = true ∧ inB ln 3 = true ∧ inB xn 41 = true ∧ inB xw 5 = true
def spWalk (N : Nat → Nat → Nat) (Z E : Nat → Nat → Int32) (xr xh xk ln xi xn xw : Int32) : Int32 :=
  if inB xr (N 0 0) = true ∧ inB xk 4 = true then (if inB xh 12 = true ∧ inB ln 3 = true ∧ inB xn 41 = true ∧ inB xw 5 = true then
    (if ftN (Z 2 (cl xk)) (Z 3 (cl xk)) ln xi xn = 0 then (if aaB (E (cl xk)) (cl xi) (N 0 1) (cl xn) = true then wres (cl xw) (cl xn) (cl xh) (wkM N (cl xh) (fun t => cl (E (cl xk) (cl xi + t))) (cl xn) 0 (cl xr) (2 ^ cl xr) 0) else -2)
     else -10 - nI (ftN (Z 2 (cl xk)) (Z 3 (cl xk)) ln xi xn)) else -2) else -1
def fzWalk (N : Nat → Nat → Nat) (Z : Nat → Nat → Int32) (xr xh xk ln xi xn xw : Int32) : Int32 :=
  if inB xr (N 0 0) = true ∧ inB xk 4 = true ∧ inB xh 12 = true ∧ inB ln 3 = true ∧ inB xn 41 = true ∧ inB xw 5 = true then nI (ftN (Z 2 (cl xk)) (Z 3 (cl xk)) ln xi xn) else 0
theorem sw5 {w : Nat} (h : w < 5) : w = 0 ∨ w = 1 ∨ w = 2 ∨ w = 3 ∨ w = 4 := by omega
theorem g4_self (Z : Nat → Nat → Int32) : g4 Z (Z 0 6) (Z 0 7) (Z 0 8) (Z 0 9) = Z := by
  funext r i
  unfold g4 uZ
  by_cases h9 : r = 0 ∧ i = 9
  · obtain ⟨rfl, rfl⟩ := h9; simp
  · by_cases h8 : r = 0 ∧ i = 8
    · obtain ⟨rfl, rfl⟩ := h8; simp
    · by_cases h7 : r = 0 ∧ i = 7
      · obtain ⟨rfl, rfl⟩ := h7; simp
      · by_cases h6 : r = 0 ∧ i = 6
        · obtain ⟨rfl, rfl⟩ := h6; simp
        · simp [h6, h7, h8, h9]
theorem neg_fp {f : Nat} (hf : f < 5) : ¬ ((0 : Int32) ≤ -10 - nI f) := by
  rcases sw5 hf with rfl | rfl | rfl | rfl | rfl <;> decide

/-! the text of a house -/
def kdL (x : Int32) : Nat := if x = nI 99 then 2 else if x = nI 108 then 1 else 0
theorem kdL_lt (x : Int32) : kdL x < 3 := by unfold kdL; split; decide; split <;> decide
def gOn (p : Nat) (x : Int32) (R : Nat) : Bool :=
  if p = 0 then decide (x = nI 100) else if p = 1 then decide (¬ x < nI 50 ∧ ¬ nI 54 < x) else if 42 ≤ p then false else
  if (p - 2) % 5 = 0 then decide (x = nI 59) else if (p - 2) % 5 = 1 then decide (x = nI 112 ∨ x = nI 108 ∨ x = nI 99) else
  if (p - 2) % 5 = 4 then decide (¬ x < nI 48 ∧ ¬ nI 53 < x) else decide (¬ x < nI 48 ∧ ¬ nI (48 + R) ≤ x)
def dg (x : Int32) : Nat := cl (x - nI 48)
def gd (f : Nat → Int32) (p : Nat) : Bool := gOn p (f p) (dg (f 1))
theorem fig_of {x : Int32} {a b : Nat} (ha : a < 2 ^ 30) (hb : b < 2 ^ 30) (h1 : ¬ x < nI a) (h2 : ¬ nI b < x) : ∃ j, x = nI j ∧ a ≤ j ∧ j ≤ b := by
  rw [fa_lt, nI_toInt (by omega)] at h1; rw [fa_lt, nI_toInt (by omega)] at h2
  obtain ⟨j, hj, rfl⟩ := inB_t (x := x) (n := b + 1) (decide_eq_true ⟨by omega, by omega⟩) (by omega)
  rw [nI_toInt (by omega)] at h1
  exact ⟨j, rfl, by omega, by omega⟩
theorem dg_of {j : Nat} (h : 48 ≤ j) (hj : j < 2 ^ 30) : nI j - nI 48 = nI (dg (nI j)) ∧ dg (nI j) = j - 48 := by
  have e : nI j - nI 48 = nI (j - 48) := pk_sub h
  have e2 : dg (nI j) = j - 48 := by unfold dg; rw [e]; exact nI_clamp (by omega)
  exact ⟨by rw [e2]; exact e, e2⟩
theorem gd_lt {f : Nat → Int32} {p : Nat} (h : gd f p = true) : p < 42 := by
  refine Nat.lt_of_not_le fun q => ?_
  unfold gd gOn at h
  rw [if_neg (by omega), if_neg (by omega), if_pos q] at h
  exact absurd h (by decide)
theorem gd_R {f : Nat → Int32} (h : gd f 1 = true) : f 1 - nI 48 = nI (dg (f 1)) ∧ 2 ≤ dg (f 1) ∧ dg (f 1) ≤ 6 := by
  have h' : (¬ f 1 < nI 50 ∧ ¬ nI 54 < f 1) := of_decide_eq_true h
  obtain ⟨j, e, h1, h2⟩ := fig_of (by decide) (by decide) h'.1 h'.2
  rw [e]
  obtain ⟨e1, e2⟩ := dg_of (j := j) (by omega) (by omega)
  exact ⟨e1, by omega, by omega⟩
theorem gOn_01 {p : Nat} (h : p ≤ 1) (x : Int32) (R R' : Nat) : gOn p x R = gOn p x R' := by
  rcases (show p = 0 ∨ p = 1 by omega) with rfl | rfl <;> simp [gOn]
theorem gd_rm {f : Nat → Int32} {p : Nat} (hR : dg (f 1) ≤ 6) (hp : 2 ≤ p) (h5 : (p - 2) % 5 = 2 ∨ (p - 2) % 5 = 3) (h : gd f p = true) : f p - nI 48 = nI (dg (f p)) ∧ dg (f p) < dg (f 1) := by
  have h42 := gd_lt h
  unfold gd gOn at h
  rw [if_neg (by omega), if_neg (by omega), if_neg (by omega), if_neg (by omega), if_neg (by omega), if_neg (by omega)] at h
  have h' := of_decide_eq_true h
  have h2 : ¬ nI (48 + dg (f 1) - 1) < f p := by
    have h3 := h'.2; have h4 := h'.1
    rw [fa_lt, nI_toInt (by omega)] at h4
    rw [fa_le, nI_toInt (by omega)] at h3
    rw [fa_lt, nI_toInt (by omega)]; omega
  obtain ⟨j, e, h1, h2⟩ := fig_of (by decide) (by omega) h'.1 h2
  have h3 := h'.2
  rw [e, fa_le, nI_toInt (by omega), nI_toInt (by omega)] at h3
  rw [e]
  obtain ⟨e1, e2⟩ := dg_of (j := j) (by omega) (by omega)
  exact ⟨e1, by omega⟩
theorem gd_st {f : Nat → Int32} {p : Nat} (hp : 2 ≤ p) (h5 : (p - 2) % 5 = 4) (h : gd f p = true) : f p - nI 48 = nI (dg (f p)) ∧ dg (f p) < 6 := by
  have h42 := gd_lt h
  unfold gd gOn at h
  rw [if_neg (by omega), if_neg (by omega), if_neg (by omega), if_neg (by omega), if_neg (by omega), if_pos h5] at h
  have h' := of_decide_eq_true h
  obtain ⟨j, e, h1, h2⟩ := fig_of (by decide) (by decide) h'.1 h'.2
  rw [e]
  obtain ⟨e1, e2⟩ := dg_of (j := j) (by omega) (by omega)
  exact ⟨e1, by omega⟩
def whl (n : Nat) : Prop := 2 < n ∧ (n - 2) % 5 = 0
def ffo (f : Nat → Int32) (n : Nat) : Nat → Nat → Option Nat
  | 0, _ => if 2 < n ∧ (n - 2) % 5 = 0 then none else some n
  | k + 1, p => if gd f p = true then ffo f n k (p + 1) else some p
theorem ffo_s {f : Nat → Int32} {n k p : Nat} : ffo f n (k + 1) p = if gd f p = true then ffo f n k (p + 1) else some p := rfl
theorem ffo_go {f : Nat → Int32} {n : Nat} : ∀ p, p ≤ n → (∀ q, q < p → gd f q = true) → ffo f n n 0 = ffo f n (n - p) p
  | 0, _, _ => rfl
  | p + 1, hp, h => by
    rw [ffo_go p (by omega) (fun q hq => h q (by omega)), show n - p = (n - (p + 1)) + 1 by omega, ffo_s, if_pos (h p (by omega))]
theorem ffo_stop {f : Nat → Int32} {n p : Nat} (hp : p < n) (h : ∀ q, q < p → gd f q = true) (hg : gd f p = false) : ffo f n n 0 = some p := by
  rw [ffo_go p (by omega) h, show n - p = (n - p - 1) + 1 by omega, ffo_s, hg]; rfl
theorem ffo_end {f : Nat → Int32} {n : Nat} (h : ∀ q, q < n → gd f q = true) : ffo f n n 0 = if 2 < n ∧ (n - 2) % 5 = 0 then none else some n := by
  rw [ffo_go n (Nat.le_refl _) h, Nat.sub_self]; rfl
theorem ffo_none {f : Nat → Int32} {n : Nat} (e : ffo f n n 0 = none) : whl n ∧ ∀ q, q < n → gd f q = true := by
  have key : ∀ k p, p + k = n → ffo f n k p = none → whl n ∧ ∀ q, p ≤ q → q < n → gd f q = true := by
    intro k; induction k with
    | zero => intro p hp e; unfold ffo at e; split at e; exact ⟨by assumption, fun q h1 h2 => absurd h2 (by omega)⟩; exact absurd e (by simp)
    | succ k ih =>
      intro p hp e; rw [ffo_s] at e; split at e
      · obtain ⟨h1, h2⟩ := ih (p + 1) (by omega) e
        refine ⟨h1, fun q h3 h4 => ?_⟩
        rcases Nat.eq_or_lt_of_le h3 with rfl | h5
        · assumption
        · exact h2 q h5 h4
      · exact absurd e (by simp)
  obtain ⟨h1, h2⟩ := key n 0 (by omega) e
  exact ⟨h1, fun q => h2 q (Nat.zero_le _)⟩
/-- the house told by a text, its first d doors laid -/
def nbd (N : Nat → Nat → Nat) (R D Q : Nat) (f : Nat → Int32) (d : Nat) : Nat → Nat → Nat := fun x i =>
  if x = 0 then (if i = 0 then R else if i = 1 then D else if i = 2 then Q else N x i) else
  if i < d then (if x = 1 then kdL (f (3 + 5 * i)) else if x = 2 then dg (f (4 + 5 * i)) else if x = 3 then dg (f (5 + 5 * i)) else if x = 4 then dg (f (6 + 5 * i)) else N x i) else N x i
theorem nbd_0 (N : Nat → Nat → Nat) (R D Q : Nat) (f : Nat → Int32) : uN (uN (uN N 0 0 R) 0 1 D) 0 2 Q = nbd N R D Q f 0 := by
  funext x i; unfold nbd uN
  by_cases hx : x = 0
  · subst hx; by_cases h0 : i = 0 <;> by_cases h1 : i = 1 <;> by_cases h2 : i = 2 <;> simp [h0, h1, h2] <;> omega
  · simp [hx]
theorem nbd_s (N : Nat → Nat → Nat) (R D Q : Nat) (f : Nat → Int32) (d : Nat) : uN (uN (uN (uN (nbd N R D Q f d) 1 d (kdL (f (3 + 5 * d)))) 2 d (dg (f (4 + 5 * d)))) 3 d (dg (f (5 + 5 * d)))) 4 d (dg (f (6 + 5 * d))) = nbd N R D Q f (d + 1) := by
  funext x i; unfold nbd uN
  by_cases hx : x = 0
  · subst hx; simp
  · by_cases hi : i = d
    · subst hi; by_cases h1 : x = 1 <;> by_cases h2 : x = 2 <;> by_cases h3 : x = 3 <;> by_cases h4 : x = 4 <;> simp [hx, h1, h2, h3, h4] <;> omega
    · by_cases hl : i < d
      · simp [hx, hi, hl, show i < d + 1 by omega]
      · simp [hx, hi, hl, show ¬ i < d + 1 by omega]
theorem nbd_inv {N : Nat → Nat → Nat} (hI : inv N) {f : Nat → Int32} {n : Nat} (hw : whl n) (h : ∀ q, q < n → gd f q = true) : inv (nbd N (dg (f 1)) ((n - 2) / 5) 0 f ((n - 2) / 5)) := by
  obtain ⟨h2, h5⟩ := hw
  obtain ⟨-, hR2, hR6⟩ := gd_R (h 1 (by omega))
  have hn : n ≤ 42 := by have := gd_lt (h (n - 1) (by omega)); omega
  have hkey : ∀ d, d < (n - 2) / 5 → dg (f (4 + 5 * d)) < dg (f 1) ∧ dg (f (5 + 5 * d)) < dg (f 1) ∧ dg (f (6 + 5 * d)) < 6 := fun d hd =>
    ⟨(gd_rm hR6 (by omega) (by omega) (h _ (by omega))).2, (gd_rm hR6 (by omega) (by omega) (h _ (by omega))).2, (gd_st (by omega) (by omega) (h _ (by omega))).2⟩
  refine ⟨hR6, ?_, Nat.zero_le _, fun q => ?_, fun d => ?_, fun k => ?_, fun d hd => ?_, fun k hk => absurd hk (Nat.not_lt_zero _)⟩
  · show (n - 2) / 5 ≤ 8; omega
  · have q' : dg (f 1) = 0 := q; omega
  · have hd0 := hI.door d
    by_cases hd : d < (n - 2) / 5
    · obtain ⟨k1, k2, k3⟩ := hkey d hd
      have k0 := kdL_lt (f (3 + 5 * d))
      simp only [nbd, hd, if_true]
      exact ⟨k0, by simpa using Nat.lt_of_lt_of_le k1 hR6, by simpa using Nat.lt_of_lt_of_le k2 hR6, by simpa using k3⟩
    · simp only [nbd, hd, if_false]; simpa using hd0
  · have := hI.rd k
    simp only [nbd]; simpa using this
  · have hd : d < (n - 2) / 5 := hd
    obtain ⟨k1, k2, -⟩ := hkey d hd
    simp only [nbd, hd, if_true]; simpa using ⟨k1, k2⟩
def okHouse (k lane : Int32) : Bool := inB k 4 && inB lane 3
def txt (E : Nat → Nat → Int32) (k i : Int32) : Nat → Int32 := fun q => E (cl k) (cl i + q)
def spHouse (Z E : Nat → Nat → Int32) (k lane i n : Int32) : Int32 :=
  if inB k 4 = true then (if inB lane 3 = true then (if ftN (Z 2 (cl k)) (Z 3 (cl k)) lane i n = 0 then
    (match ffo (txt E k i) (cl n) (cl n) 0 with | none => nI ((cl n - 2) / 5) | some p => -100 - nI p)
    else -10 - nI (ftN (Z 2 (cl k)) (Z 3 (cl k)) lane i n)) else -2) else -1
def fzHouse (Z : Nat → Nat → Int32) (k lane i n : Int32) : Int32 := if inB k 4 = true ∧ inB lane 3 = true then nI (ftN (Z 2 (cl k)) (Z 3 (cl k)) lane i n) else 0
def nnHouse (N : Nat → Nat → Nat) (Z E : Nat → Nat → Int32) (k lane i n : Int32) : Nat → Nat → Nat :=
  if inB k 4 = true ∧ inB lane 3 = true ∧ ftN (Z 2 (cl k)) (Z 3 (cl k)) lane i n = 0 ∧ ffo (txt E k i) (cl n) (cl n) 0 = none then nbd N (dg (txt E k i 1)) ((cl n - 2) / 5) 0 (txt E k i) ((cl n - 2) / 5) else N
theorem inv_house {N : Nat → Nat → Nat} (hI : inv N) (Z E : Nat → Nat → Int32) (k lane i n : Int32) : inv (nnHouse N Z E k lane i n) := by
  unfold nnHouse; split
  · obtain ⟨h1, h2⟩ := ffo_none (by assumption : _ ∧ _ ∧ _ ∧ _).2.2.2
    exact nbd_inv hI h1 h2
  · exact hI
theorem ffo_le {f : Nat → Int32} {n r : Nat} (e : ffo f n n 0 = some r) : r ≤ n := by
  have key : ∀ k p, p + k = n → ffo f n k p = some r → r ≤ n := by
    intro k; induction k with
    | zero => intro p hp e; unfold ffo at e; split at e; exact absurd e (by simp); exact Nat.le_of_eq (Option.some.inj e).symm
    | succ k ih =>
      intro p hp e; rw [ffo_s] at e; split at e
      · exact ih (p + 1) (by omega) e
      · have := Option.some.inj e; omega
  exact key n 0 (by omega) e

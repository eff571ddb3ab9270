/-! the reference's reading of a text -/
theorem sub48 (x : Int32) : (x - nI 48).toInt = x.toInt - 48 ∨ (x.toInt < 0 ∧ 2 ^ 30 < (x - nI 48).toInt) := by
  have h1 := Int32.le_toInt x
  have h2 := Int32.toInt_lt x
  have e : (nI 48).toInt = 48 := rfl
  rw [Int32.toInt_sub, e, Int.bmod_def]
  split <;> omega
theorem inL_fig {x : Int32} {lo hi : Nat} (hl : lo < 1000) (hh : hi < 1000) : inL (x - nI 48).toInt64 (nI lo).toInt64 (nI hi).toInt64 = decide (¬ x < nI (48 + lo) ∧ ¬ nI (48 + hi) < x) := by
  unfold inL
  rw [Int32.toInt_toInt64, Int32.toInt_toInt64, Int32.toInt_toInt64, nI_toInt (by omega), nI_toInt (by omega)]
  congr 1
  apply propext
  rw [fa_lt, fa_lt, nI_toInt (by omega), nI_toInt (by omega)]
  rcases sub48 x with h | h <;> constructor <;> intro q <;> omega
def fgo (x : Int32) (lo hi : Nat) : Option Nat := if inL (x - nI 48).toInt64 (nI lo).toInt64 (nI hi).toInt64 = true then some (dg x) else none
def og : Option Nat → Nat
  | none => 0
  | some _ => 1
theorem og_s (j : Nat) : og (some j) = 1 := rfl
theorem og_n : og none = 0 := rfl
theorem fgo_t {x : Int32} {lo hi : Nat} (h : inL (x - nI 48).toInt64 (nI lo).toInt64 (nI hi).toInt64 = true) : fgo x lo hi = some (dg x) := if_pos h
theorem fgo_f {x : Int32} {lo hi : Nat} (h : inL (x - nI 48).toInt64 (nI lo).toInt64 (nI hi).toInt64 = false) : fgo x lo hi = none := if_neg (by rw [h]; decide)
theorem fgo_v {x : Int32} {lo hi : Nat} (hl : lo < 1000) (hh : hi < 1000) (h : inL (x - nI 48).toInt64 (nI lo).toInt64 (nI hi).toInt64 = true) : x - nI 48 = nI (dg x) ∧ lo ≤ dg x ∧ dg x ≤ hi := by
  rw [inL_fig hl hh] at h
  have h' := of_decide_eq_true h
  obtain ⟨j, e, h1, h2⟩ := fig_of (by omega) (by omega) h'.1 h'.2
  rw [e]
  obtain ⟨e1, e2⟩ := dg_of (j := j) (by omega) (by omega)
  exact ⟨e1, by omega, by omega⟩
theorem fgo_some {x : Int32} {lo hi j : Nat} (hl : lo < 1000) (hh : hi < 1000) (h : fgo x lo hi = some j) : (¬ x < nI (48 + lo) ∧ ¬ nI (48 + hi) < x) ∧ j = dg x ∧ lo ≤ j ∧ j ≤ hi := by
  unfold fgo at h; split at h
  · rename_i q
    obtain ⟨e1, e2, e3⟩ := fgo_v hl hh q
    have := Option.some.inj h
    rw [inL_fig hl hh] at q
    exact ⟨of_decide_eq_true q, this.symm, by omega, by omega⟩
  · exact absurd h (by simp)
theorem fgo_none {x : Int32} {lo hi : Nat} (hl : lo < 1000) (hh : hi < 1000) (h : fgo x lo hi = none) : ¬ (¬ x < nI (48 + lo) ∧ ¬ nI (48 + hi) < x) := by
  unfold fgo at h; split at h
  · exact absurd h (by simp)
  · rename_i q; rw [inL_fig hl hh] at q; exact fun r => q (decide_eq_true r)
def tx (f : Nat → Int32) (n p : Nat) : Int32 := if p < n then f p else -9
theorem tx_lt {f : Nat → Int32} {n p : Nat} (h : p < n) : tx f n p = f p := if_pos h
theorem tx_ge {f : Nat → Int32} {n p : Nat} (h : ¬ p < n) : tx f n p = -9 := if_neg h
theorem fgo_lt {f : Nat → Int32} {n p lo hi j : Nat} (hl : lo < 1000) (hh : hi < 1000) (h : fgo (tx f n p) lo hi = some j) : p < n := by
  refine Nat.lt_of_not_le fun q => ?_
  rw [tx_ge (by omega)] at h
  refine (fgo_some hl hh h).1.1 ?_
  rw [fa_lt, nI_toInt (by omega)]
  have e9 : (-9 : Int32).toInt = -9 := rfl
  omega
theorem ne9_nI {a : Nat} (h : a < 1000) : ¬ (-9 : Int32) = nI a := fun e => nI_ne9 (by omega) e.symm
theorem tx_eq {f : Nat → Int32} {n p a : Nat} (ha : a < 1000) (h : tx f n p = nI a) : p < n ∧ f p = nI a := by
  by_cases q : p < n
  · rw [tx_lt q] at h; exact ⟨q, h⟩
  · rw [tx_ge q] at h; exact absurd h (ne9_nI ha)
/-- the cells of the reference that reading a text writes -/
def hs (Z : Nat → Nat → Int32) (v3 v4 v5 : Int32) (g1 g2 g3 g4' : Nat → Int32) : Nat → Nat → Int32 := fun x i =>
  if x = 0 then (if i = 3 then v3 else if i = 4 then v4 else if i = 5 then v5 else Z x i) else if x = 21 then g1 i else if x = 22 then g2 i else if x = 23 then g3 i else if x = 24 then g4' i else Z x i
theorem hs_3 (Z : Nat → Nat → Int32) (v3 v4 v5 v : Int32) (g1 g2 g3 g4' : Nat → Int32) : uZ (hs Z v3 v4 v5 g1 g2 g3 g4') 0 3 v = hs Z v v4 v5 g1 g2 g3 g4' := by
  funext x i; unfold hs uZ; by_cases h : x = 0 <;> by_cases h3 : i = 3 <;> simp [h, h3]
theorem hs_4 (Z : Nat → Nat → Int32) (v3 v4 v5 v : Int32) (g1 g2 g3 g4' : Nat → Int32) : uZ (hs Z v3 v4 v5 g1 g2 g3 g4') 0 4 v = hs Z v3 v v5 g1 g2 g3 g4' := by
  funext x i; unfold hs uZ; by_cases h : x = 0 <;> by_cases h3 : i = 4 <;> simp [h, h3]
theorem hs_5 (Z : Nat → Nat → Int32) (v3 v4 v5 v : Int32) (g1 g2 g3 g4' : Nat → Int32) : uZ (hs Z v3 v4 v5 g1 g2 g3 g4') 0 5 v = hs Z v3 v4 v g1 g2 g3 g4' := by
  funext x i; unfold hs uZ; by_cases h : x = 0 <;> by_cases h3 : i = 5 <;> simp [h, h3]
theorem hs_21 (Z : Nat → Nat → Int32) (v3 v4 v5 v : Int32) (d : Nat) (g1 g2 g3 g4' : Nat → Int32) : uZ (hs Z v3 v4 v5 g1 g2 g3 g4') 21 d v = hs Z v3 v4 v5 (upd g1 d v) g2 g3 g4' := by
  funext x i; unfold hs uZ; by_cases h : x = 21 <;> by_cases h3 : i = d <;> simp [h, h3, upd]
theorem hs_22 (Z : Nat → Nat → Int32) (v3 v4 v5 v : Int32) (d : Nat) (g1 g2 g3 g4' : Nat → Int32) : uZ (hs Z v3 v4 v5 g1 g2 g3 g4') 22 d v = hs Z v3 v4 v5 g1 (upd g2 d v) g3 g4' := by
  funext x i; unfold hs uZ; by_cases h : x = 22 <;> by_cases h3 : i = d <;> simp [h, h3, upd]
theorem hs_23 (Z : Nat → Nat → Int32) (v3 v4 v5 v : Int32) (d : Nat) (g1 g2 g3 g4' : Nat → Int32) : uZ (hs Z v3 v4 v5 g1 g2 g3 g4') 23 d v = hs Z v3 v4 v5 g1 g2 (upd g3 d v) g4' := by
  funext x i; unfold hs uZ; by_cases h : x = 23 <;> by_cases h3 : i = d <;> simp [h, h3, upd]
theorem hs_24 (Z : Nat → Nat → Int32) (v3 v4 v5 v : Int32) (d : Nat) (g1 g2 g3 g4' : Nat → Int32) : uZ (hs Z v3 v4 v5 g1 g2 g3 g4') 24 d v = hs Z v3 v4 v5 g1 g2 g3 (upd g4' d v) := by
  funext x i; unfold hs uZ; by_cases h : x = 24 <;> by_cases h3 : i = d <;> simp [h, h3, upd]
theorem hs_self (Z : Nat → Nat → Int32) : hs Z (Z 0 3) (Z 0 4) (Z 0 5) (Z 21) (Z 22) (Z 23) (Z 24) = Z := by
  funext x i; unfold hs
  by_cases h : x = 0
  · subst h; by_cases h3 : i = 3 <;> by_cases h4 : i = 4 <;> by_cases h5 : i = 5 <;> simp [h3, h4, h5]
  · by_cases h1 : x = 21 <;> by_cases h2 : x = 22 <;> by_cases h3 : x = 23 <;> by_cases h4 : x = 24 <;> simp [h, h1, h2, h3, h4]
theorem gd_c0 {f : Nat → Int32} {p : Nat} (hp : 2 ≤ p) (h42 : p < 42) (h5 : (p - 2) % 5 = 0) : gd f p = decide (f p = nI 59) := by
  unfold gd gOn
  rw [if_neg (by omega), if_neg (by omega), if_neg (by omega), if_pos h5]
theorem gd_c1 {f : Nat → Int32} {p : Nat} (hp : 2 ≤ p) (h42 : p < 42) (h5 : (p - 2) % 5 = 1) : gd f p = decide (f p = nI 112 ∨ f p = nI 108 ∨ f p = nI 99) := by
  unfold gd gOn
  rw [if_neg (by omega), if_neg (by omega), if_neg (by omega), if_neg (by omega), if_pos h5]
theorem gd_c2 {f : Nat → Int32} {p : Nat} (hp : 2 ≤ p) (h42 : p < 42) (h5 : (p - 2) % 5 = 2 ∨ (p - 2) % 5 = 3) : gd f p = decide (¬ f p < nI 48 ∧ ¬ nI (48 + dg (f 1)) ≤ f p) := by
  unfold gd gOn
  rw [if_neg (by omega), if_neg (by omega), if_neg (by omega), if_neg (by omega), if_neg (by omega), if_neg (by omega)]
theorem gd_c4 {f : Nat → Int32} {p : Nat} (hp : 2 ≤ p) (h42 : p < 42) (h5 : (p - 2) % 5 = 4) : gd f p = decide (¬ f p < nI 48 ∧ ¬ nI 53 < f p) := by
  unfold gd gOn
  rw [if_neg (by omega), if_neg (by omega), if_neg (by omega), if_neg (by omega), if_neg (by omega), if_pos h5]
def RS (f : Nat → Int32) (n p : Nat) : Prop := p ≤ n ∧ (∀ q, q < p → gd f q = true) ∧ ((p < n ∧ gd f p = false) ∨ (p = n ∧ ¬ whl n))
theorem RS_ffo {f : Nat → Int32} {n p : Nat} (h : RS f n p) : ffo f n n 0 = some p := by
  obtain ⟨h1, h2, h3 | h3⟩ := h
  · exact ffo_stop h3.1 h2 h3.2
  · obtain ⟨rfl, hw⟩ := h3
    rw [ffo_end h2]; exact if_neg hw
theorem RS_of {f : Nat → Int32} {n p : Nat} (h1 : p ≤ n) (h2 : ∀ q, q < p → gd f q = true) (h3 : p < n → gd f p = false) (h4 : p = n → ¬ whl n) : RS f n p := by
  refine ⟨h1, h2, ?_⟩
  rcases Nat.eq_or_lt_of_le h1 with h | h
  · exact Or.inr ⟨h, h4 h⟩
  · exact Or.inl ⟨h, h3 h⟩
theorem gd_ext {f : Nat → Int32} {p : Nat} (h : ∀ q, q < p → gd f q = true) (hp : gd f p = true) : ∀ q, q < p + 1 → gd f q = true := fun q hq => by
  rcases Nat.eq_or_lt_of_le (Nat.le_of_lt_succ hq) with rfl | h1
  · exact hp
  · exact h q h1
theorem lt_le1 {x : Int32} {R : Nat} (hR : 1 ≤ R) (h6 : R ≤ 6) : (¬ nI (48 + (R - 1)) < x) ↔ ¬ nI (48 + R) ≤ x := by
  rw [fa_lt, fa_le, nI_toInt (by omega), nI_toInt (by omega)]; omega
theorem fg_rm {f : Nat → Int32} {n p R j : Nat} (hR : R = dg (f 1)) (h2 : 2 ≤ R) (h6 : R ≤ 6) (hp : 2 ≤ p) (h42 : p < 42) (h5 : (p - 2) % 5 = 2 ∨ (p - 2) % 5 = 3) (h : fgo (tx f n p) 0 (R - 1) = some j) : p < n ∧ gd f p = true ∧ j = dg (f p) ∧ j < 6 := by
  have hl := fgo_lt (by decide) (by omega) h
  rw [tx_lt hl] at h
  obtain ⟨⟨a1, a2⟩, a3, a4, a5⟩ := fgo_some (by decide) (by omega) h
  refine ⟨hl, ?_, a3, by omega⟩
  rw [gd_c2 hp h42 h5, ← hR]
  exact decide_eq_true ⟨a1, (lt_le1 (by omega) h6).mp a2⟩
theorem fg_rmn {f : Nat → Int32} {n p R : Nat} (hR : R = dg (f 1)) (h2 : 2 ≤ R) (h6 : R ≤ 6) (hp : 2 ≤ p) (h42 : p < 42) (h5 : (p - 2) % 5 = 2 ∨ (p - 2) % 5 = 3) (h : fgo (tx f n p) 0 (R - 1) = none) (hl : p < n) : gd f p = false := by
  rw [tx_lt hl] at h
  have a := fgo_none (by decide) (by omega) h
  rw [gd_c2 hp h42 h5, ← hR]
  exact decide_eq_false fun q => a ⟨q.1, (lt_le1 (by omega) h6).mpr q.2⟩
theorem fg_st {f : Nat → Int32} {n p j : Nat} (hp : 2 ≤ p) (h42 : p < 42) (h5 : (p - 2) % 5 = 4) (h : fgo (tx f n p) 0 5 = some j) : p < n ∧ gd f p = true ∧ j = dg (f p) ∧ j < 6 := by
  have hl := fgo_lt (by decide) (by decide) h
  rw [tx_lt hl] at h
  obtain ⟨a1, a3, a4, a5⟩ := fgo_some (by decide) (by decide) h
  refine ⟨hl, ?_, a3, by omega⟩
  rw [gd_c4 hp h42 h5]
  exact decide_eq_true a1
theorem fg_stn {f : Nat → Int32} {n p : Nat} (hp : 2 ≤ p) (h42 : p < 42) (h5 : (p - 2) % 5 = 4) (h : fgo (tx f n p) 0 5 = none) (hl : p < n) : gd f p = false := by
  rw [tx_lt hl] at h
  rw [gd_c4 hp h42 h5]
  exact decide_eq_false (fgo_none (by decide) (by decide) h)
theorem fg_1 {f : Nat → Int32} {n j : Nat} (h : fgo (tx f n 1) 2 6 = some j) : 1 < n ∧ gd f 1 = true ∧ j = dg (f 1) ∧ 2 ≤ j ∧ j ≤ 6 := by
  have hl := fgo_lt (by decide) (by decide) h
  rw [tx_lt hl] at h
  obtain ⟨a1, a3, a4, a5⟩ := fgo_some (by decide) (by decide) h
  exact ⟨hl, decide_eq_true a1, a3, a4, a5⟩
theorem fg_1n {f : Nat → Int32} {n : Nat} (h : fgo (tx f n 1) 2 6 = none) (hl : 1 < n) : gd f 1 = false := by
  rw [tx_lt hl] at h
  exact decide_eq_false (fgo_none (by decide) (by decide) h)
theorem tx_kd {f : Nat → Int32} {n p : Nat} (h : tx f n p = nI 112 ∨ tx f n p = nI 108 ∨ tx f n p = nI 99) : p < n := by
  rcases h with h | h | h <;> exact (tx_eq (by decide) h).1
theorem kd_p {x : Int32} (h : x = nI 112) : 0 = kdL x := by subst h; decide
theorem kd_l {x : Int32} (h : x = nI 108) : 1 = kdL x := by subst h; decide
theorem kd_c {x : Int32} (h : x = nI 99) : 2 = kdL x := by subst h; decide
theorem hs_00 (Z : Nat → Nat → Int32) (v w : Int32) : uZ (uZ Z 0 3 v) 0 5 w = hs Z v (Z 0 4) w (Z 21) (Z 22) (Z 23) (Z 24) := by
  have e : uZ (uZ (hs Z (Z 0 3) (Z 0 4) (Z 0 5) (Z 21) (Z 22) (Z 23) (Z 24)) 0 3 v) 0 5 w = hs Z v (Z 0 4) w (Z 21) (Z 22) (Z 23) (Z 24) := by rw [hs_3, hs_5]
  rw [hs_self] at e; exact e
def HK (f : Nat → Int32) (D : Nat) (g1 g2 g3 g4' : Nat → Int32) : Prop := ∀ d, d < D → g1 d = nI (kdL (f (3 + 5 * d))) ∧ g2 d = nI (dg (f (4 + 5 * d))) ∧ g3 d = nI (dg (f (5 + 5 * d))) ∧ g4' d = nI (dg (f (6 + 5 * d)))
theorem HK_s {f : Nat → Int32} {D p : Nat} {g1 g2 g3 g4' : Nat → Int32} (h : HK f D g1 g2 g3 g4') (hp : p = 2 + 5 * D) : HK f (D + 1) (upd g1 D (nI (kdL (f (p + 1))))) (upd g2 D (nI (dg (f (p + 2))))) (upd g3 D (nI (dg (f (p + 3))))) (upd g4' D (nI (dg (f (p + 4))))) := by
  intro d hd
  by_cases e : d = D
  · subst e
    rw [pk_us, pk_us, pk_us, pk_us, show p + 1 = 3 + 5 * d by omega, show p + 2 = 4 + 5 * d by omega, show p + 3 = 5 + 5 * d by omega, show p + 4 = 6 + 5 * d by omega]
    exact ⟨rfl, rfl, rfl, rfl⟩
  · rw [pk_un e, pk_un e, pk_un e, pk_un e]
    exact h d (by omega)
theorem nbd_0' (N : Nat → Nat → Nat) (R D : Nat) (f : Nat → Int32) : uN (uN N 0 0 R) 0 1 D = nbd N R D (N 0 2) f 0 := by
  rw [← nbd_0]
  exact (uN_self (uN (uN N 0 0 R) 0 1 D) 0 2).symm
theorem nbd_q (N : Nat → Nat → Nat) (R D Q v : Nat) (f : Nat → Int32) (d : Nat) : uN (nbd N R D Q f d) 0 2 v = nbd N R D v f d := by
  funext x i; unfold nbd uN
  by_cases hx : x = 0 <;> by_cases h2 : i = 2 <;> simp [hx, h2]
theorem gd_0 {f : Nat → Int32} : gd f 0 = decide (f 0 = nI 100) := by unfold gd gOn; rw [if_pos rfl]
theorem hs_00x (Z : Nat → Nat → Int32) (v w : Int32) (N : Nat → Nat → Nat) (E : Nat → Nat → Int32) (G : Nat → Nat → Int64) (T : Nat → Nat) : (N, uZ (uZ Z 0 3 v) 0 5 w, E, G, T) = (N, hs Z v (Z 0 4) w (Z 21) (Z 22) (Z 23) (Z 24), E, G, T) := by rw [hs_00]
theorem nI_0a (n : Nat) : nI 0 + nI n = nI n := by rw [nI_add, Nat.zero_add]

/-! the reference's reading of a text -/
theorem sub48 (x : Int32) : (x - nI 48).toInt = x.toInt - 48 ∨ (x.toInt < 0 ∧ 2 ^ 30 < (x - nI 48).toInt) := by
  have h1 := Int32.le_toInt x
  have h2 := Int32.toInt_lt x
  have e : (nI 48).toInt = 48 := rfl
  rw [Int32.toInt_sub, e, Int.bmod_def]
  split <;> omega
theorem inL_fig {x : Int32} {lo hi : Nat} (hl : lo < 1000) (hh : hi < 1000) : inL (x - nI 48).toInt64 (nI lo).toInt64 (nI hi).toInt64 = decide (¬ x < nI (48 + lo) ∧ ¬ nI (48 + hi) < x) := by
  unfold inL
  rw [Int32.toInt_toInt64, Int32.toInt_toInt64, Int32.toInt_toInt64, nI_toInt (by omega), nI_toInt (by omega)]
  congr 1
  apply propext
  rw [fa_lt, fa_lt, nI_toInt (by omega), nI_toInt (by omega)]
  rcases sub48 x with h | h <;> constructor <;> intro q <;> omega
def fgo (x : Int32) (lo hi : Nat) : Option Nat := if inL (x - nI 48).toInt64 (nI lo).toInt64 (nI hi).toInt64 = true then some (dg x) else none
def og : Option Nat → Nat
  | none => 0
  | some _ => 1
theorem og_s (j : Nat) : og (some j) = 1 := rfl
theorem og_n : og none = 0 := rfl
theorem fgo_t {x : Int32} {lo hi : Nat} (h : inL (x - nI 48).toInt64 (nI lo).toInt64 (nI hi).toInt64 = true) : fgo x lo hi = some (dg x) := if_pos h
theorem fgo_f {x : Int32} {lo hi : Nat} (h : inL (x - nI 48).toInt64 (nI lo).toInt64 (nI hi).toInt64 = false) : fgo x lo hi = none := if_neg (by rw [h]; decide)
theorem fgo_v {x : Int32} {lo hi : Nat} (hl : lo < 1000) (hh : hi < 1000) (h : inL (x - nI 48).toInt64 (nI lo).toInt64 (nI hi).toInt64 = true) : x - nI 48 = nI (dg x) ∧ lo ≤ dg x ∧ dg x ≤ hi := by
  rw [inL_fig hl hh] at h
  have h' := of_decide_eq_true h
  obtain ⟨j, e, h1, h2⟩ := fig_of (by omega) (by omega) h'.1 h'.2
  rw [e]
  obtain ⟨e1, e2⟩ := dg_of (j := j) (by omega) (by omega)
  exact ⟨e1, by omega, by omega⟩
theorem fgo_some {x : Int32} {lo hi j : Nat} (hl : lo < 1000) (hh : hi < 1000) (h : fgo x lo hi = some j) : (¬ x < nI (48 + lo) ∧ ¬ nI (48 + hi) < x) ∧ j = dg x ∧ lo ≤ j ∧ j ≤ hi := by
  unfold fgo at h; split at h
  · rename_i q
    obtain ⟨e1, e2, e3⟩ := fgo_v hl hh q
    have := Option.some.inj h
    rw [inL_fig hl hh] at q
    exact ⟨of_decide_eq_true q, this.symm, by omega, by omega⟩
  · exact absurd h (by simp)
theorem fgo_none {x : Int32} {lo hi : Nat} (hl : lo < 1000) (hh : hi < 1000) (h : fgo x lo hi = none) : ¬ (¬ x < nI (48 + lo) ∧ ¬ nI (48 + hi) < x) := by
  unfold fgo at h; split at h
  · exact absurd h (by simp)
  · rename_i q; rw [inL_fig hl hh] at q; exact fun r => q (decide_eq_true r)
def tx (f : Nat → Int32) (n p : Nat) : Int32 := if p < n then f p else -9
theorem tx_lt {f : Nat → Int32} {n p : Nat} (h : p < n) : tx f n p = f p := if_pos h
theorem tx_ge {f : Nat → Int32} {n p : Nat} (h : ¬ p < n) : tx f n p = -9 := if_neg h
theorem fgo_lt {f : Nat → Int32} {n p lo hi j : Nat} (hl : lo < 1000) (hh : hi < 1000) (h : fgo (tx f n p) lo hi = some j) : p < n := by
  refine Nat.lt_of_not_le fun q => ?_
  rw [tx_ge (by omega)] at h
  refine (fgo_some hl hh h).1.1 ?_
  rw [fa_lt, nI_toInt (by omega)]
  have e9 : (-9 : Int32).toInt = -9 := rfl
  omega
theorem ne9_nI {a : Nat} (h : a < 1000) : ¬ (-9 : Int32) = nI a := fun e => nI_ne9 (by omega) e.symm
theorem tx_eq {f : Nat → Int32} {n p a : Nat} (ha : a < 1000) (h : tx f n p = nI a) : p < n ∧ f p = nI a := by
  by_cases q : p < n
  · rw [tx_lt q] at h; exact ⟨q, h⟩
  · rw [tx_ge q] at h; exact absurd h (ne9_nI ha)
/-- the cells of the reference that reading a text writes -/
def hs (Z : Nat → Nat → Int32) (v3 v4 v5 : Int32) (g1 g2 g3 g4' : Nat → Int32) : Nat → Nat → Int32 := fun x i =>
  if x = 0 then (if i = 3 then v3 else if i = 4 then v4 else if i = 5 then v5 else Z x i) else if x = 21 then g1 i else if x = 22 then g2 i else if x = 23 then g3 i else if x = 24 then g4' i else Z x i
theorem hs_3 (Z : Nat → Nat → Int32) (v3 v4 v5 v : Int32) (g1 g2 g3 g4' : Nat → Int32) : uZ (hs Z v3 v4 v5 g1 g2 g3 g4') 0 3 v = hs Z v v4 v5 g1 g2 g3 g4' := by
  funext x i; unfold hs uZ; by_cases h : x = 0 <;> by_cases h3 : i = 3 <;> simp [h, h3]
theorem hs_4 (Z : Nat → Nat → Int32) (v3 v4 v5 v : Int32) (g1 g2 g3 g4' : Nat → Int32) : uZ (hs Z v3 v4 v5 g1 g2 g3 g4') 0 4 v = hs Z v3 v v5 g1 g2 g3 g4' := by
  funext x i; unfold hs uZ; by_cases h : x = 0 <;> by_cases h3 : i = 4 <;> simp [h, h3]
theorem hs_5 (Z : Nat → Nat → Int32) (v3 v4 v5 v : Int32) (g1 g2 g3 g4' : Nat → Int32) : uZ (hs Z v3 v4 v5 g1 g2 g3 g4') 0 5 v = hs Z v3 v4 v g1 g2 g3 g4' := by
  funext x i; unfold hs uZ; by_cases h : x = 0 <;> by_cases h3 : i = 5 <;> simp [h, h3]
theorem hs_21 (Z : Nat → Nat → Int32) (v3 v4 v5 v : Int32) (d : Nat) (g1 g2 g3 g4' : Nat → Int32) : uZ (hs Z v3 v4 v5 g1 g2 g3 g4') 21 d v = hs Z v3 v4 v5 (upd g1 d v) g2 g3 g4' := by
  funext x i; unfold hs uZ; by_cases h : x = 21 <;> by_cases h3 : i = d <;> simp [h, h3, upd]
theorem hs_22 (Z : Nat → Nat → Int32) (v3 v4 v5 v : Int32) (d : Nat) (g1 g2 g3 g4' : Nat → Int32) : uZ (hs Z v3 v4 v5 g1 g2 g3 g4') 22 d v = hs Z v3 v4 v5 g1 (upd g2 d v) g3 g4' := by
  funext x i; unfold hs uZ; by_cases h : x = 22 <;> by_cases h3 : i = d <;> simp [h, h3, upd]
theorem hs_23 (Z : Nat → Nat → Int32) (v3 v4 v5 v : Int32) (d : Nat) (g1 g2 g3 g4' : Nat → Int32) : uZ (hs Z v3 v4 v5 g1 g2 g3 g4') 23 d v = hs Z v3 v4 v5 g1 g2 (upd g3 d v) g4' := by
  funext x i; unfold hs uZ; by_cases h : x = 23 <;> by_cases h3 : i = d <;> simp [h, h3, upd]
theorem hs_24 (Z : Nat → Nat → Int32) (v3 v4 v5 v : Int32) (d : Nat) (g1 g2 g3 g4' : Nat → Int32) : uZ (hs Z v3 v4 v5 g1 g2 g3 g4') 24 d v = hs Z v3 v4 v5 g1 g2 g3 (upd g4' d v) := by
  funext x i; unfold hs uZ; by_cases h : x = 24 <;> by_cases h3 : i = d <;> simp [h, h3, upd]
theorem hs_self (Z : Nat → Nat → Int32) : hs Z (Z 0 3) (Z 0 4) (Z 0 5) (Z 21) (Z 22) (Z 23) (Z 24) = Z := by
  funext x i; unfold hs
  by_cases h : x = 0
  · subst h; by_cases h3 : i = 3 <;> by_cases h4 : i = 4 <;> by_cases h5 : i = 5 <;> simp [h3, h4, h5]
  · by_cases h1 : x = 21 <;> by_cases h2 : x = 22 <;> by_cases h3 : x = 23 <;> by_cases h4 : x = 24 <;> simp [h, h1, h2, h3, h4]

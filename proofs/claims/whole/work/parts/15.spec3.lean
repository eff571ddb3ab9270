theorem i_dec (x : Int32) : x + Int32.ofInt (-1) = x - 1 := by
  rw [Int32.sub_eq_add_neg]; rfl
theorem nI_dec {p : Nat} (h : 0 < p) : nI p + Int32.ofInt (-1) = nI (p - 1) := by
  rw [i_dec]
  obtain ⟨q, rfl⟩ : ∃ q, p = q + 1 := ⟨p - 1, by omega⟩
  exact nI_pred q
theorem bI_ne0 {b : Bool} {v : Int32} (hv : v = bI b) : (v = 0 ↔ b = false) ∧ (¬ v = 0 ↔ b = true) := by
  subst hv; cases b <;> simp [bI]
/-- those of the first numbers for which it is so, as a set -/
def trS (f : Nat → Bool) : Nat → Nat
  | 0 => 0
  | v + 1 => if f v = true then trS f v ||| 2 ^ v else trS f v
theorem trS_lt {f : Nat → Bool} : ∀ v, v ≤ 6 → trS f v < 64
  | 0, _ => by simp [trS]
  | v + 1, h => by
    have ih := trS_lt (f := f) v (by omega)
    unfold trS
    split
    · exact or_lt ih (by omega)
    · exact ih
theorem inv_step {N : Nat → Nat → Nat} (h : inv N) {d v : Nat} (hv : v < 6) : inv (uN N 4 d v) := by
  obtain ⟨h1, h2, h3, h4, h5, h6, h7, h8⟩ := h
  refine ⟨h1, h2, h3, h4, fun q => ?_, h6, h7, h8⟩
  have := h5 q
  have := h5 d
  by_cases e : q = d <;> simp [uN, e] <;> omega
theorem inv_turn {N : Nat → Nat → Nat} (h : inv N) {d v : Nat} (hv : v < N 0 0) : inv (uN N 3 d v) := by
  obtain ⟨h1, h2, h3, h4, h5, h6, h7, h8⟩ := h
  refine ⟨h1, h2, h3, h4, fun q => ?_, h6, fun q hq => ?_, h8⟩
  · have := h5 q
    have := h5 d
    by_cases e : q = d <;> simp [uN, e] <;> omega
  · have h7q := h7 q hq
    by_cases e : q = d
    · subst e; simp [uN]; omega
    · simp [uN, e]; omega
theorem inv_kind {N : Nat → Nat → Nat} (h : inv N) {d v : Nat} (hv : v < 3) : inv (uN N 1 d v) := by
  obtain ⟨h1, h2, h3, h4, h5, h6, h7, h8⟩ := h
  refine ⟨h1, h2, h3, h4, fun q => ?_, h6, h7, h8⟩
  have := h5 q
  have := h5 d
  by_cases e : q = d <;> simp [uN, e] <;> omega
/-- the readings with the trial in place of a door -/
def rdT (N : Nat → Nat → Nat) (T : Nat → Nat) (zr : Nat → Int32) (d : Nat) : Nat → Bool
  | 0 => true
  | k + 1 => rdT N T zr d k && decide (oI (if N 5 k = d then ld0 (T 0) (T 2) (T 3) (N 6 k) (N 0 0) else ld N (N 5 k) (N 6 k)) = zr k)
theorem rdT_step {N : Nat → Nat → Nat} {T : Nat → Nat} {zr : Nat → Int32} {d v : Nat} (h0 : T 0 = N 1 d) (h2 : T 2 = N 3 d) : ∀ k, rdT N (uT T 3 v) zr d k = rdo (uN N 4 d v) zr k
  | 0 => rfl
  | k + 1 => by
    rw [rdT, rdo, rdT_step h0 h2 k]
    congr 2
    show (oI (if N 5 k = d then ld0 (uT T 3 v 0) (uT T 3 v 2) (uT T 3 v 3) (N 6 k) (N 0 0) else ld N (N 5 k) (N 6 k)) = zr k) = (oI (ld (uN N 4 d v) (N 5 k) (N 6 k)) = zr k)
    by_cases e : N 5 k = d <;> simp [ld, uN, uT, e, h0, h2]
theorem rdT_to {N : Nat → Nat → Nat} {T : Nat → Nat} {zr : Nat → Int32} {d v : Nat} (h0 : T 0 = N 1 d) (h2 : T 3 = N 4 d) : ∀ k, rdT N (uT T 2 v) zr d k = rdo (uN N 3 d v) zr k
  | 0 => rfl
  | k + 1 => by
    rw [rdT, rdo, rdT_to h0 h2 k]
    congr 2
    show (oI (if N 5 k = d then ld0 (uT T 2 v 0) (uT T 2 v 2) (uT T 2 v 3) (N 6 k) (N 0 0) else ld N (N 5 k) (N 6 k)) = zr k) = (oI (ld (uN N 3 d v) (N 5 k) (N 6 k)) = zr k)
    by_cases e : N 5 k = d <;> simp [ld, uN, uT, e, h0, h2]
theorem rdT_kind {N : Nat → Nat → Nat} {T : Nat → Nat} {zr : Nat → Int32} {d v : Nat} (h0 : T 2 = N 3 d) (h2 : T 3 = N 4 d) : ∀ k, rdT N (uT T 0 v) zr d k = rdo (uN N 1 d v) zr k
  | 0 => rfl
  | k + 1 => by
    rw [rdT, rdo, rdT_kind h0 h2 k]
    congr 2
    show (oI (if N 5 k = d then ld0 (uT T 0 v 0) (uT T 0 v 2) (uT T 0 v 3) (N 6 k) (N 0 0) else ld N (N 5 k) (N 6 k)) = zr k) = (oI (ld (uN N 1 d v) (N 5 k) (N 6 k)) = zr k)
    by_cases e : N 5 k = d <;> simp [ld, uN, uT, e, h0, h2]
theorem rdT_false {N : Nat → Nat → Nat} {T : Nat → Nat} {zr : Nat → Int32} {d k : Nat} : ∀ n, k < n → ¬ oI (if N 5 k = d then ld0 (T 0) (T 2) (T 3) (N 6 k) (N 0 0) else ld N (N 5 k) (N 6 k)) = zr k → rdT N T zr d n = false
  | 0, h, _ => by omega
  | n + 1, h, e => by
    rw [rdT]
    by_cases hk : k = n
    · subst hk; simp [e]
    · rw [rdT_false n (by omega) e]; rfl
def spSteps (N : Nat → Nat → Nat) (zr : Nat → Int32) (d : Int32) : Int32 := if inB d (N 0 1) = true then nI (trS (fun v => rdo (uN N 4 (cl d) v) zr (N 0 2)) 6) else -1
def spTargets (N : Nat → Nat → Nat) (zr : Nat → Int32) (d : Int32) : Int32 := if inB d (N 0 1) = true then nI (trS (fun v => rdo (uN N 3 (cl d) v) zr (N 0 2)) (N 0 0)) else -1
def spKinds (N : Nat → Nat → Nat) (zr : Nat → Int32) (d : Int32) : Int32 := if inB d (N 0 1) = true then nI (trS (fun v => rdo (uN N 1 (cl d) v) zr (N 0 2)) 3) else -1
/-- shares -/
def cwh (u : Nat) : Nat → Nat
  | 0 => 1
  | 1 => 1
  | c + 2 => if 12 % (c + 2) = 0 ∧ u % (c + 2) = 0 then c + 2 else cwh u (c + 1)
theorem cwh_gcd : ∀ u, u < 13 → cwh u 12 = Nat.gcd u 12 := by decide
def snle (N : Nat → Nat → Nat) (fr to h n : Nat) : Bool := match sn N (-9) fr to h 24 with
  | none => false
  | some r => decide (r ≤ n)
def oc (N : Nat → Nat → Nat) (fr to n : Nat) : Nat → Nat
  | 0 => 0
  | h + 1 => oc N fr to n h + (if snle N fr to h n = true then 1 else 0)
theorem oc_le {N : Nat → Nat → Nat} {fr to n : Nat} : ∀ h, oc N fr to n h ≤ h
  | 0 => Nat.le_refl _
  | h + 1 => by have := oc_le (N := N) (fr := fr) (to := to) (n := n) h; unfold oc; split <;> omega
def shr (u w : Nat) : Int64 := if w = 0 then lN (u / Nat.gcd u 12) else lN (12 / Nat.gcd u 12)
def spOdds (N : Nat → Nat → Nat) (a b n w : Int32) : Int64 := if inB a (N 0 0) = true ∧ inB b (N 0 0) = true ∧ inB n 25 = true ∧ inB w 2 = true then shr (oc N (cl a) (cl b) (cl n) 12) (cl w) else -9223372036854775808
def kB (k : Int32) : Bool := decide (-1 ≤ k.toInt ∧ k.toInt ≤ 23)
def spSoonest (N : Nat → Nat → Nat) (a b h k : Int32) : Int32 := if inB a (N 0 0) = true ∧ inB b (N 0 0) = true then (if inB h 12 = true ∧ kB k = true then (match sn N (-9) (cl a) (cl b) (cl h) 24 with | none => -9 | some n => if k = -1 then nI n else if k < nI n then nI (actS N (cl a) (cl b) (cl h) n (cl k)) else -9) else -2) else -1
/-- is there a walk to each of the first k rooms -/
def alp (N : Nat → Nat → Nat) (f h : Nat) : Nat → Bool
  | 0 => true
  | k + 1 => alp N f h k && (sn N (-9) f k h 24).isSome
theorem trS_t {f : Nat → Bool} {v : Nat} (h : f v = true) : trS f v ||| 2 ^ v = trS f (v + 1) := by simp [trS, h]
theorem trS_f {f : Nat → Bool} {v : Nat} (h : f v = false) : trS f v = trS f (v + 1) := by simp [trS, h]
theorem trS_z {f : Nat → Bool} {v : Nat} (h : f v = false) : trS f v ||| 0 = trS f (v + 1) := by simp [trS, h]

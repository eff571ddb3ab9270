/-! the public calls' answers -/
abbrev cl (x : Int32) : Nat := x.toNatClampNeg
theorem nI_lit (n : Nat) : (OfNat.ofNat n : Int32) = nI n := rfl
theorem inB_le {x : Int32} {n : Nat} (hn : n + 1 < 2 ^ 31) (h0 : ¬ x < 0) (h : x ≤ nI n) : inB x (n + 1) = true := by
  rw [fa_lt] at h0
  rw [fa_le, nI_toInt (by omega)] at h
  have e : (0 : Int32).toInt = 0 := rfl
  unfold inB
  exact decide_eq_true (by omega)
theorem inB_gt {x : Int32} {n : Nat} (hn : n + 1 < 2 ^ 31) (h : ¬ x ≤ nI n) : inB x (n + 1) = false := by
  rw [fa_le, nI_toInt (by omega)] at h
  unfold inB
  exact decide_eq_false (by omega)
theorem inB_nlt {x : Int32} {n : Nat} (hn : n < 2 ^ 31) (h : ¬ x < nI n) : inB x n = false := inB_big hn (by rw [fa_lt] at h; rw [fa_le]; omega)
theorem sw3 (w : Int32) : w = 0 ∨ w = 1 ∨ w = 2 ∨ (w.toInt < 0 ∨ 2 < w.toInt) := by
  have e0 : (0 : Int32).toInt = 0 := rfl
  have e1 : (1 : Int32).toInt = 1 := rfl
  have e2 : (2 : Int32).toInt = 2 := rfl
  rw [fa_eq, fa_eq, fa_eq, e0, e1, e2]; omega
theorem sw4 (w : Int32) : w = 0 ∨ w = 1 ∨ w = 2 ∨ w = 3 ∨ (w.toInt < 0 ∨ 3 < w.toInt) := by
  have e0 : (0 : Int32).toInt = 0 := rfl
  have e1 : (1 : Int32).toInt = 1 := rfl
  have e2 : (2 : Int32).toInt = 2 := rfl
  have e3 : (3 : Int32).toInt = 3 := rfl
  rw [fa_eq, fa_eq, fa_eq, fa_eq, e0, e1, e2, e3]; omega
theorem sw_out {w : Int32} {lo hi : Int} (h : w.toInt < lo ∨ hi < w.toInt) (k : Int32) (hk : lo ≤ k.toInt ∧ k.toInt ≤ hi) : ¬ w = k := by
  rintro rfl; omega
def spOfDoor (N : Nat → Nat → Nat) (d w : Int32) : Int32 := if inB d (N 0 1) = true then (if w = 0 then nI (N 1 (cl d)) else if w = 1 then nI (N 2 (cl d)) else if w = 2 then nI (N 3 (cl d)) else if w = 3 then nI (N 4 (cl d)) else -2) else -1
def spLeads (N : Nat → Nat → Nat) (d h : Int32) : Int32 := if inB d (N 0 1) = true then (if inB h 12 = true then oI (ld N (cl d) (cl h)) else -2) else -1
def spStep (N : Nat → Nat → Nat) (d v : Int32) : Int32 := if inB d (N 0 1) = true then (if inB v 6 = true then nI (N 4 (cl d)) else -2) else -1
def nxStep (N : Nat → Nat → Nat) (d v : Int32) : Nat → Nat → Nat := if inB d (N 0 1) = true ∧ inB v 6 = true then uN N 4 (cl d) (cl v) else N
def spTurn (N : Nat → Nat → Nat) (d r : Int32) : Int32 := if inB d (N 0 1) = true ∧ inB r (N 0 0) = true then nI (N 3 (cl d)) else -1
def nxTurn (N : Nat → Nat → Nat) (d r : Int32) : Nat → Nat → Nat := if inB d (N 0 1) = true ∧ inB r (N 0 0) = true then uN N 3 (cl d) (cl r) else N
def okRead (N : Nat → Nat → Nat) (d h r : Int32) : Prop := inB d (N 0 1) = true ∧ (inB r (N 0 0) = true ∨ r = -9) ∧ inB h 12 = true ∧ N 0 2 < 8
def spReading (N : Nat → Nat → Nat) (d h r : Int32) : Int32 := if inB d (N 0 1) = true ∧ (inB r (N 0 0) = true ∨ r = -9) then (if inB h 12 = true then (if N 0 2 < 8 then nI (N 0 2) else -4) else -2) else -1
def nxReading (N : Nat → Nat → Nat) (d h r : Int32) : Nat → Nat → Nat := if inB d (N 0 1) = true ∧ (inB r (N 0 0) = true ∨ r = -9) ∧ inB h 12 = true ∧ N 0 2 < 8 then uN (uN (uN N 5 (N 0 2) (cl d)) 6 (N 0 2) (cl h)) 0 2 (N 0 2 + 1) else N
def nzReading (N : Nat → Nat → Nat) (Z : Nat → Nat → Int32) (d h r : Int32) : Nat → Nat → Int32 := if inB d (N 0 1) = true ∧ (inB r (N 0 0) = true ∨ r = -9) ∧ inB h 12 = true ∧ N 0 2 < 8 then uZ Z 1 (N 0 2) r else Z
def spBack (N : Nat → Nat → Nat) (k : Int32) : Int32 := if inB k (N 0 2 + 1) = true then nI (N 0 2 - cl k) else -2
def nxBack (N : Nat → Nat → Nat) (k : Int32) : Nat → Nat → Nat := if inB k (N 0 2 + 1) = true then uN N 0 2 (N 0 2 - cl k) else N
def spTell (N : Nat → Nat → Nat) (d : Int32) : Int32 := if inB d (N 0 1) = true then (if N 1 (cl d) = 0 then nI (N 4 (cl d)) else if N 1 (cl d) = 1 then nI (N 4 (cl d) + 100) else nI (2 * N 4 (cl d) + 100)) else -1
def trc (x : Int32) (b : Int32) : Int32 := 31 * x + b
def nzTell (N : Nat → Nat → Nat) (z : Int32) (d : Int32) : Int32 := if inB d (N 0 1) = true then (if N 1 (cl d) = 0 then trc z 1 else if N 1 (cl d) = 1 then trc (trc z 2) 1 else trc (trc (trc (trc z 3) 2) 1) 1) else z
def spKnock (N : Nat → Nat → Nat) (d : Int32) : Int32 := if inB d (N 0 1) = true then (if N 1 (cl d) = 2 then 60 else d) else -1
def nzKnock (N : Nat → Nat → Nat) (z : Int32) (d : Int32) : Int32 := if inB d (N 0 1) = true then (if N 1 (cl d) = 2 then trc z 5 else trc z 4) else z
def spAs (N : Nat → Nat → Nat) (d k : Int32) : Int32 := if inB d (N 0 1) = true then (if inB k 3 = true then (if cl k ≤ N 1 (cl d) then 1 else -12) else -2) else -1
def fzAs (N : Nat → Nat → Nat) (d k : Int32) : Int32 := if inB d (N 0 1) = true ∧ inB k 3 = true ∧ ¬ cl k ≤ N 1 (cl d) then 2 else 0
def spMany (N : Nat → Nat → Nat) (w : Int32) : Int32 := if w = 0 then nI (N 0 1) else if w = 1 then nI (N 0 0) else if w = 2 then nI (N 0 2) else -2
/-- two who go about: how soon -/
def mt (N : Nat → Nat → Nat) (hr : Nat) : Nat → Nat → Nat → Nat → Option Nat
  | 0, _, _, _ => none
  | f + 1, t, x, y => if x &&& y ≠ 0 then some t else mt N hr f (t + 1) (ah N (-9) ((hr + t) % 12) x) (ah N (-9) ((hr + t) % 12) y)
theorem mt_succ {N : Nat → Nat → Nat} {hr f t x y : Nat} : mt N hr (f + 1) t x y = if x &&& y ≠ 0 then some t else mt N hr f (t + 1) (ah N (-9) ((hr + t) % 12) x) (ah N (-9) ((hr + t) % 12) y) := rfl
def spMeet (N : Nat → Nat → Nat) (a b h : Int32) : Int32 := if inB a (N 0 0) = true ∧ inB b (N 0 0) = true then (if inB h 12 = true then oI (mt N (cl h) 25 0 (2 ^ cl a) (2 ^ cl b)) else -2) else -1
theorem and_lt64 {a b : Nat} (h : a < 64) : a &&& b < 64 := Nat.lt_of_le_of_lt Nat.and_le_left h
/-- the least door without which there is no walk, from d on -/
def ctf (N : Nat → Nat → Nat) (fr to hr : Nat) : Nat → Nat → Option Nat
  | 0, _ => none
  | f + 1, d => if sn N (nI d) fr to hr 24 = none then some d else ctf N fr to hr f (d + 1)
theorem ctf_succ {N : Nat → Nat → Nat} {fr to hr f d : Nat} : ctf N fr to hr (f + 1) d = if sn N (nI d) fr to hr 24 = none then some d else ctf N fr to hr f (d + 1) := rfl
def spCut (N : Nat → Nat → Nat) (a b h : Int32) : Int32 := if inB a (N 0 0) = true ∧ inB b (N 0 0) = true then (if inB h 12 = true then (if sn N (-9) (cl a) (cl b) (cl h) 24 = none then -9 else oI (ctf N (cl a) (cl b) (cl h) (N 0 1) 0)) else -2) else -1
/-- the rooms among the first f from which all rooms are in time -/
def rcf (N : Nat → Nat → Nat) (hr : Nat) : Nat → Nat
  | 0 => 0
  | f + 1 => if ahn N hr (2 ^ f) 24 = 2 ^ N 0 0 - 1 then rcf N hr f ||| 2 ^ f else rcf N hr f
theorem rcf_lt {N : Nat → Nat → Nat} {hr : Nat} : ∀ f, f ≤ 6 → rcf N hr f < 64
  | 0, _ => by simp [rcf]
  | f + 1, h => by
    have ih := rcf_lt (N := N) (hr := hr) f (by omega)
    unfold rcf
    split
    · exact or_lt ih (by omega)
    · exact ih
def spReach (N : Nat → Nat → Nat) (h : Int32) : Int32 := if N 0 0 = 0 then -3 else if inB h 12 = true then nI (rcf N (cl h) (N 0 0)) else -2
theorem uZ_uZ (f : Nat → Nat → Int32) (r i : Nat) (v x : Int32) : uZ (uZ f r i v) r i x = uZ f r i x := by
  funext r' j; by_cases h : r' = r ∧ j = i <;> simp [uZ, h]
theorem uZ_self (f : Nat → Nat → Int32) (r i : Nat) : uZ f r i (f r i) = f := by
  funext r' j; by_cases h : r' = r ∧ j = i
  · obtain ⟨rfl, rfl⟩ := h; simp [uZ]
  · simp [uZ, h]
theorem uN_uN (f : Nat → Nat → Nat) (r i : Nat) (v x : Nat) : uN (uN f r i v) r i x = uN f r i x := by
  funext r' j; by_cases h : r' = r ∧ j = i <;> simp [uN, h]
theorem uN_self (f : Nat → Nat → Nat) (r i : Nat) : uN f r i (f r i) = f := by
  funext r' j; by_cases h : r' = r ∧ j = i
  · obtain ⟨rfl, rfl⟩ := h; simp [uN]
  · simp [uN, h]
theorem uZ_at (f : Nat → Nat → Int32) (r i : Nat) (v : Int32) : uZ f r i v r i = v := by simp [uZ]
theorem uN_at (f : Nat → Nat → Nat) (r i v : Nat) : uN f r i v r i = v := by simp [uN]

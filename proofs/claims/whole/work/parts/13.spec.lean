/-! what the document asks, as functions of the abstract state -/
/-- where a door leads at an hour; none: it is shut -/
def ld0 (kd to st h Rm : Nat) : Option Nat := if kd = 2 ∧ ¬ h % 3 = 0 then none else some ((to + st * (if kd = 0 then h else (h + 11) % 12)) % Rm)
def ld (N : Nat → Nat → Nat) (d h : Nat) : Option Nat := ld0 (N 1 d) (N 3 d) (N 4 d) h (N 0 0)
theorem ld0_lt {kd to st h Rm : Nat} (hR : 0 < Rm) : ∀ r, ld0 kd to st h Rm = some r → r < Rm := by
  intro r hr
  unfold ld0 at hr
  split at hr
  · cases hr
  · cases hr; exact Nat.mod_lt _ hR
theorem mul_le {a b c d : Nat} (h1 : a ≤ c) (h2 : b ≤ d) : a * b ≤ c * d := Nat.mul_le_mul h1 h2
/-- what always holds of the naturals -/
def inv (N : Nat → Nat → Nat) : Prop := N 0 0 ≤ 6 ∧ N 0 1 ≤ 8 ∧ N 0 2 ≤ 8 ∧ (N 0 0 = 0 → N 0 1 = 0) ∧ (∀ d, N 1 d < 3 ∧ N 2 d < 6 ∧ N 3 d < 6 ∧ N 4 d < 6) ∧ (∀ k, N 5 k < 8 ∧ N 6 k < 12) ∧ (∀ d, d < N 0 1 → N 2 d < N 0 0 ∧ N 3 d < N 0 0) ∧ (∀ k, k < N 0 2 → N 5 k < N 0 1)
theorem inv.R {N : Nat → Nat → Nat} (h : inv N) : N 0 0 ≤ 6 := h.1
theorem inv.D {N : Nat → Nat → Nat} (h : inv N) : N 0 1 ≤ 8 := h.2.1
theorem inv.Q {N : Nat → Nat → Nat} (h : inv N) : N 0 2 ≤ 8 := h.2.2.1
theorem inv.pos {N : Nat → Nat → Nat} (h : inv N) {d : Nat} (hd : d < N 0 1) : 0 < N 0 0 := Nat.pos_of_ne_zero fun e => by have := h.2.2.2.1 e; omega
theorem inv.door {N : Nat → Nat → Nat} (h : inv N) (d : Nat) : N 1 d < 3 ∧ N 2 d < 6 ∧ N 3 d < 6 ∧ N 4 d < 6 := h.2.2.2.2.1 d
theorem inv.rd {N : Nat → Nat → Nat} (h : inv N) (k : Nat) : N 5 k < 8 ∧ N 6 k < 12 := h.2.2.2.2.2.1 k
theorem inv.at {N : Nat → Nat → Nat} (h : inv N) {d : Nat} (hd : d < N 0 1) : N 2 d < N 0 0 ∧ N 3 d < N 0 0 := h.2.2.2.2.2.2.1 d hd
theorem inv.rdd {N : Nat → Nat → Nat} (h : inv N) {k : Nat} (hk : k < N 0 2) : N 5 k < N 0 1 := h.2.2.2.2.2.2.2 k hk
theorem ld_lt {N : Nat → Nat → Nat} (h : inv N) {d hr : Nat} (hd : d < N 0 1) : ∀ r, ld N d hr = some r → r < N 0 0 := ld0_lt (h.pos hd)
/-- long 'in' -/
def inL (v lo hi : Int64) : Bool := decide (lo.toInt ≤ v.toInt ∧ v.toInt ≤ hi.toInt)
theorem inL_in (x : Int32) {n : Nat} (hn : n < 2 ^ 31) : inL x.toInt64 0 ((nI n).toInt64 - 1) = inB x n := by
  unfold inL inB
  have e0 : (0 : Int64).toInt = 0 := rfl
  have e1 : (1 : Int64).toInt = 1 := rfl
  have e2 : ((nI n).toInt64).toInt = (n : Int) := by rw [Int32.toInt_toInt64, nI_toInt hn]
  have e3 : ((nI n).toInt64 - 1).toInt = (n : Int) - 1 := by rw [fb_subL (by rw [e2, e1]; omega) (by rw [e2, e1]; omega), e2, e1]
  rw [e0, e3, Int32.toInt_toInt64]
  congr 1
  apply propext
  constructor <;> intro h <;> omega
theorem inL_k (x : Int32) (k : Int64) (n : Nat) (hk : k.toInt + 1 = (n : Int)) : inL x.toInt64 0 k = inB x n := by
  unfold inL inB
  have e0 : (0 : Int64).toInt = 0 := rfl
  rw [e0, Int32.toInt_toInt64]
  congr 1
  apply propext
  constructor <;> intro h <;> omega
theorem tb_and (s k : Nat) : (s / 2 ^ k &&& 1 = 0) ↔ s.testBit k = false := by
  rw [Nat.testBit_eq_decide_div_mod_eq, Nat.and_one_is_mod]
  simp
theorem tb_and1 (s k : Nat) : (s / 2 ^ k &&& 1 = 1) ↔ s.testBit k = true := by
  rw [Nat.testBit_eq_decide_div_mod_eq, Nat.and_one_is_mod]
  simp
theorem and1_lt (x : Nat) : x &&& 1 < 2 := by rw [Nat.and_one_is_mod]; omega
theorem or_lt {a r : Nat} (ha : a < 64) (hr : r < 6) : a ||| 2 ^ r < 64 := Nat.or_lt_two_pow (n := 6) ha (Nat.pow_lt_pow_right (by decide) hr)
theorem pow_lt6 {r : Nat} (hr : r < 6) : 2 ^ r < 64 := Nat.pow_lt_pow_right (n := 6) (by decide) hr
theorem div_lt31 {s k : Nat} (h : s < 2 ^ 31) : s / 2 ^ k < 2 ^ 31 := Nat.lt_of_le_of_lt (Nat.div_le_self _ _) h
/-- behind an hour, by an act -/
def bh (N : Nat → Nat → Nat) (wo : Int32) (room h act : Nat) : Option Nat := if act = N 0 1 then some room else if nI act = wo ∨ ¬ N 2 act = room then none else ld N act h
theorem bh_lt {N : Nat → Nat → Nat} (hI : inv N) {wo : Int32} {room h act : Nat} (hr : room < N 0 0) (ha : act ≤ N 0 1) : ∀ r, bh N wo room h act = some r → r < N 0 0 := by
  intro r e
  unfold bh at e
  split at e
  · cases e; exact hr
  · split at e
    · cases e
    · exact ld_lt hI (by omega) r e
/-- an hour on: the first d doors -/
def aho (N : Nat → Nat → Nat) (wo : Int32) (h set : Nat) : Nat → Nat
  | 0 => set
  | d + 1 => if ¬ nI d = wo ∧ set.testBit (N 2 d) = true then (match ld N d h with | none => aho N wo h set d | some r => aho N wo h set d ||| 2 ^ r) else aho N wo h set d
theorem aho_lt {N : Nat → Nat → Nat} (hI : inv N) {wo : Int32} {h set : Nat} (hs : set < 64) : ∀ d, d ≤ N 0 1 → aho N wo h set d < 64
  | 0, _ => hs
  | d + 1, hd => by
    have ih := aho_lt hI (wo := wo) (h := h) hs d (by omega)
    unfold aho
    split
    · split
      · exact ih
      · rename_i r e
        have := ld_lt hI (show d < N 0 1 by omega) r e
        have := hI.R
        exact or_lt ih (by omega)
    · exact ih
def ah (N : Nat → Nat → Nat) (wo : Int32) (h set : Nat) : Nat := aho N wo h set (N 0 1)
theorem ah_lt {N : Nat → Nat → Nat} (hI : inv N) {wo : Int32} {h set : Nat} (hs : set < 64) : ah N wo h set < 64 := aho_lt hI hs _ (Nat.le_refl _)
/-- the fewest hours: so many looks are left, it is t, one can be in these rooms -/
def fw (N : Nat → Nat → Nat) (wo : Int32) (to hr : Nat) : Nat → Nat → Nat → Option Nat
  | 0, _, _ => none
  | f + 1, t, set => if set.testBit to = true then some t else fw N wo to hr f (t + 1) (ah N wo ((hr + t) % 12) set)
theorem fw_lt {N : Nat → Nat → Nat} {wo : Int32} {to hr : Nat} : ∀ f t set r, fw N wo to hr f t set = some r → r < t + f
  | 0, _, _, _, h => by cases h
  | f + 1, t, set, r, h => by
    unfold fw at h
    split at h
    · cases h; omega
    · have := fw_lt f (t + 1) _ r h
      omega
def sn (N : Nat → Nat → Nat) (wo : Int32) (fr to hr most : Nat) : Option Nat := fw N wo to hr (most + 1) 0 (2 ^ fr)
theorem sn_lt {N : Nat → Nat → Nat} {wo : Int32} {fr to hr most : Nat} : ∀ r, sn N wo fr to hr most = some r → r < most + 1 := fun r h => by have := fw_lt _ _ _ r h; omega
def ahn (N : Nat → Nat → Nat) (hr set : Nat) : Nat → Nat
  | 0 => set
  | t + 1 => ah N (-9) ((hr + t) % 12) (ahn N hr set t)
theorem ahn_lt {N : Nat → Nat → Nat} (hI : inv N) {hr set : Nat} (hs : set < 64) : ∀ t, ahn N hr set t < 64
  | 0 => hs
  | t + 1 => ah_lt hI (ahn_lt hI hs t)
/-- an hour ahead: from where one can be in the set -/
def ahbo (N : Nat → Nat → Nat) (h set : Nat) : Nat → Nat
  | 0 => set
  | d + 1 => match ld N d h with
    | none => ahbo N h set d
    | some r => if set.testBit r = true then ahbo N h set d ||| 2 ^ N 2 d else ahbo N h set d
theorem ahbo_lt {N : Nat → Nat → Nat} (hI : inv N) {h set : Nat} (hs : set < 64) : ∀ d, ahbo N h set d < 64
  | 0 => hs
  | d + 1 => by
    have ih := ahbo_lt hI (h := h) hs d
    unfold ahbo
    split
    · exact ih
    · split
      · exact or_lt ih (hI.door d).2.1
      · exact ih
def ahb (N : Nat → Nat → Nat) (h set : Nat) : Nat := ahbo N h set (N 0 1)
theorem ahb_lt {N : Nat → Nat → Nat} (hI : inv N) {h set : Nat} (hs : set < 64) : ahb N h set < 64 := ahbo_lt hI hs _
/-- j hours ahead of the end -/
def hbk (N : Nat → Nat → Nat) (to hr hours : Nat) : Nat → Nat
  | 0 => 2 ^ to
  | j + 1 => ahb N ((hr + (hours - (j + 1))) % 12) (hbk N to hr hours j)
theorem hbk_lt {N : Nat → Nat → Nat} (hI : inv N) {to hr hours : Nat} (ht : to < 6) : ∀ j, hbk N to hr hours j < 64
  | 0 => pow_lt6 ht
  | j + 1 => ahb_lt hI (hbk_lt hI ht j)
/-- the first act that leads into the set -/
def fha (N : Nat → Nat → Nat) (room h set : Nat) : Nat → Nat → Nat
  | 0, _ => N 0 1
  | f + 1, a => match bh N (-9) room h a with
    | none => fha N room h set f (a + 1)
    | some r => if set.testBit r = true then a else fha N room h set f (a + 1)
theorem fha_le {N : Nat → Nat → Nat} {room h set : Nat} : ∀ f a, a + f ≤ N 0 1 → fha N room h set f a ≤ N 0 1
  | 0, a, _ => Nat.le_refl _
  | f + 1, a, ha => by
    unfold fha
    split
    · exact fha_le f (a + 1) (by omega)
    · split
      · omega
      · exact fha_le f (a + 1) (by omega)
theorem fha_some {N : Nat → Nat → Nat} {room h set : Nat} : ∀ f a, ∃ r, bh N (-9) room h (fha N room h set f a) = some r
  | 0, a => ⟨room, by unfold fha bh; simp⟩
  | f + 1, a => by
    unfold fha
    split
    · exact fha_some f (a + 1)
    · split
      · rename_i r e _; exact ⟨r, e⟩
      · exact fha_some f (a + 1)
/-- the rooms and acts of the first soonest walk -/
def rmS (N : Nat → Nat → Nat) (fr to hr hours : Nat) : Nat → Nat
  | 0 => fr
  | t + 1 => (bh N (-9) (rmS N fr to hr hours t) ((hr + t) % 12) (fha N (rmS N fr to hr hours t) ((hr + t) % 12) (hbk N to hr hours (hours - (t + 1))) (N 0 1) 0)).getD 0
def actS (N : Nat → Nat → Nat) (fr to hr hours t : Nat) : Nat := fha N (rmS N fr to hr hours t) ((hr + t) % 12) (hbk N to hr hours (hours - (t + 1))) (N 0 1) 0
theorem rmS_lt {N : Nat → Nat → Nat} (hI : inv N) {fr to hr hours : Nat} (hf : fr < N 0 0) : ∀ t, rmS N fr to hr hours t < N 0 0
  | 0 => hf
  | t + 1 => by
    unfold rmS
    obtain ⟨r, e⟩ := fha_some (N := N) (room := rmS N fr to hr hours t) (h := (hr + t) % 12) (set := hbk N to hr hours (hours - (t + 1))) (N 0 1) 0
    rw [e]
    exact bh_lt hI (rmS_lt hI hf t) (fha_le _ _ (by omega)) r e
/-- are all readings so -/
def rdo (N : Nat → Nat → Nat) (zr : Nat → Int32) : Nat → Bool
  | 0 => true
  | k + 1 => rdo N zr k && decide (oI (ld N (N 5 k) (N 6 k)) = zr k)
theorem tb_ne {s k : Nat} (h : s / 2 ^ k &&& 1 ≠ 0) : s.testBit k = true := by
  cases hb : s.testBit k with
  | true => rfl
  | false => exact absurd ((tb_and s k).mpr hb) h
theorem tb_ne1 {s k : Nat} (h : s / 2 ^ k &&& 1 ≠ 1) : s.testBit k = false := by
  cases hb : s.testBit k with
  | false => rfl
  | true => exact absurd ((tb_and1 s k).mpr hb) h
theorem bh_own {N : Nat → Nat → Nat} {wo : Int32} {h d : Nat} (hd : d < N 0 1) : bh N wo (N 2 d) h d = if nI d = wo then none else ld N d h := by
  unfold bh
  rw [if_neg (by omega)]
  by_cases e : nI d = wo <;> simp [e]
theorem aho_bh {N : Nat → Nat → Nat} {wo : Int32} {h set d : Nat} (hd : d < N 0 1) : aho N wo h set (d + 1) = if set.testBit (N 2 d) = true then (match bh N wo (N 2 d) h d with | none => aho N wo h set d | some r => aho N wo h set d ||| 2 ^ r) else aho N wo h set d := by
  rw [bh_own hd, aho]
  by_cases e : nI d = wo <;> by_cases f : set.testBit (N 2 d) = true <;> simp [e, f]
theorem fw_succ {N : Nat → Nat → Nat} {wo : Int32} {to hr f t set : Nat} : fw N wo to hr (f + 1) t set = if set.testBit to = true then some t else fw N wo to hr f (t + 1) (ah N wo ((hr + t) % 12) set) := rfl
theorem fha_succ {N : Nat → Nat → Nat} {room h set f a : Nat} : fha N room h set (f + 1) a = match bh N (-9) room h a with | none => fha N room h set f (a + 1) | some r => if set.testBit r = true then a else fha N room h set f (a + 1) := rfl
theorem ah_end {N : Nat → Nat → Nat} {wo : Int32} {h set d : Nat} (e : d = N 0 1) : aho N wo h set d = ah N wo h set := by rw [e]; rfl

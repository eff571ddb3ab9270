/-! truth values, numbers in a range, rooms or none, as ints -/
def bI (b : Bool) : Int32 := cond b 1 0
theorem bI_01 (b : Bool) : bI b = 0 ∨ bI b = 1 := by cases b <;> simp [bI]
theorem bI_eq0 (b : Bool) : bI b = 0 ↔ b = false := by cases b <;> simp [bI]
theorem bI_t : bI true = nI 1 := rfl
theorem bI_f : bI false = nI 0 := rfl
def inB (x : Int32) (n : Nat) : Bool := decide (0 ≤ x.toInt ∧ x.toInt < (n : Int))
theorem nI_toInt' {n : Nat} (h : n < 2 ^ 31) : (nI n).toInt = (n : Int) := nI_toInt h
theorem inB_t {x : Int32} {n : Nat} (h : inB x n = true) (hn : n < 2 ^ 31) : ∃ j : Nat, j < n ∧ x = nI j := by
  have h1 := of_decide_eq_true h
  exact vp_in_of (vp_in_iff.mpr h1) hn
theorem inB_n {j n : Nat} (hj : j < 2 ^ 31) : inB (nI j) n = decide (j < n) := by
  unfold inB
  rw [nI_toInt hj]
  by_cases h : j < n <;> simp [h] <;> omega
theorem inB_nt {j n : Nat} (h : j < n) (hn : n < 2 ^ 31) : inB (nI j) n = true := by
  rw [inB_n (by omega)]; exact decide_eq_true h
theorem inB_neg {x : Int32} {n : Nat} (h : x < 0) : inB x n = false := by
  rw [fa_lt] at h
  have e : (0 : Int32).toInt = 0 := rfl
  unfold inB
  exact decide_eq_false (by omega)
theorem inB_big {x : Int32} {n : Nat} (hn : n < 2 ^ 31) (h : nI n ≤ x) : inB x n = false := by
  rw [fa_le, nI_toInt hn] at h
  unfold inB
  exact decide_eq_false (by omega)
theorem inB_ok {x : Int32} {n : Nat} (hn : n < 2 ^ 31) (h0 : ¬ x < 0) (h : ¬ nI n ≤ x) : inB x n = true := by
  rw [fa_lt] at h0
  rw [fa_le, nI_toInt hn] at h
  have e : (0 : Int32).toInt = 0 := rfl
  unfold inB
  exact decide_eq_true (by omega)
theorem inB_lt {x : Int32} {n : Nat} (hn : n < 2 ^ 31) (h0 : ¬ x < 0) (h : x < nI n) : inB x n = true := inB_ok hn h0 (fun q => by rw [fa_lt] at h; rw [fa_le] at q; omega)
def oI : Option Nat → Int32
  | none => -9
  | some n => nI n
theorem oI_s (n : Nat) : oI (some n) = nI n := rfl
theorem oI_n : oI none = -9 := rfl
theorem oI_neg (o : Option Nat) (h : ∀ n, o = some n → n < 2 ^ 31) : oI o < 0 ↔ o = none := by
  cases o with
  | none => simp [oI]
  | some n => simp only [oI, reduceCtorEq, iff_false]; exact nI_pos (h n rfl)
theorem oI_eq9 (o : Option Nat) (h : ∀ n, o = some n → n < 2 ^ 31) : oI o = -9 ↔ o = none := by
  cases o with
  | none => simp [oI]
  | some n =>
    simp only [oI, reduceCtorEq, iff_false]
    intro e
    have := congrArg Int32.toInt e
    rw [nI_toInt (h n rfl)] at this
    have e9 : (-9 : Int32).toInt = -9 := rfl
    omega
theorem nI_ne9 {n : Nat} (h : n < 2 ^ 31) : ¬ nI n = -9 := fun e => by
  have := congrArg Int32.toInt e
  rw [nI_toInt h] at this
  have e9 : (-9 : Int32).toInt = -9 := rfl
  omega
theorem nI_shl1 {a : Nat} (h : a < 31) : nI 1 <<< (nI a &&& 31) = nI (2 ^ a) := by
  rw [pk_shlN (nI a &&& 31) a (s_l a (by omega)) (by rw [Nat.one_mul]; exact Nat.pow_lt_pow_right (by decide) (by omega)), Nat.one_mul]
theorem nI_shr {n a : Nat} (hn : n < 2 ^ 31) (h : a < 32) : nI n >>> (nI a &&& 31) = nI (n / 2 ^ a) := pk_shrN hn (nI a &&& 31) a (s_l a h)
section HDB
variable {p : Program} {l : Launch} {e : Env} {R : Room} {s : State} {m : MethodId} {args : Array Value} {below : List Frame} {meth : Method} {c : Code} {own : String} {cc : ByteArray} {nL : Nat} {ret : Option FieldType} {cells slots : Nat} {A : Nat → Prop} {D : va_G} {Q : State → Prop} {σ : Type} {w : σ → va_W} {S : σ} {pc : Nat} {lv : List (Nat × Value)} {st : List Value}
theorem hd_if_eqB {b : Bool} {z : Int} (n t : Nat) (C : xC p s m args meth c own cc nL ret) (d : decode cc pc = .ok (.ifCond .eq z, 3)) (hn : pc + 3 = n) (ht : (pc : Int) + z = (t : Int)) (kt : b = false → XW p l e R s m args below meth c nL cells slots A D Q w S t lv st) (kf : b = true → XW p l e R s m args below meth c nL cells slots A D Q w S n lv st) : XW p l e R s m args below meth c nL cells slots A D Q w S pc lv (.int (bI b) :: st) := hd_if_eq n t C d hn ht (fun q => kt ((bI_eq0 b).mp q)) (fun q => kf (by cases b; exact absurd rfl q; rfl))
theorem hd_if_neB {b : Bool} {z : Int} (n t : Nat) (C : xC p s m args meth c own cc nL ret) (d : decode cc pc = .ok (.ifCond .ne z, 3)) (hn : pc + 3 = n) (ht : (pc : Int) + z = (t : Int)) (kt : b = true → XW p l e R s m args below meth c nL cells slots A D Q w S t lv st) (kf : b = false → XW p l e R s m args below meth c nL cells slots A D Q w S n lv st) : XW p l e R s m args below meth c nL cells slots A D Q w S pc lv (.int (bI b) :: st) := hd_if_ne n t C d hn ht (fun q => kt (by cases b; exact absurd rfl q; rfl)) (fun q => kf ((bI_eq0 b).mp q))
theorem hd_if_ltP {a : Nat} {z : Int} (n t : Nat) (C : xC p s m args meth c own cc nL ret) (d : decode cc pc = .ok (.ifCond .lt z, 3)) (hn : pc + 3 = n) (ht : (pc : Int) + z = (t : Int)) (ha : a < 2 ^ 31) (k : XW p l e R s m args below meth c nL cells slots A D Q w S n lv st) : XW p l e R s m args below meth c nL cells slots A D Q w S pc lv (.int (nI a) :: st) := hd_if_lt n t C d hn ht (fun q => absurd q (nI_pos ha)) (fun _ => k)
theorem hd_if_geP {a : Nat} {z : Int} (n t : Nat) (C : xC p s m args meth c own cc nL ret) (d : decode cc pc = .ok (.ifCond .ge z, 3)) (hn : pc + 3 = n) (ht : (pc : Int) + z = (t : Int)) (ha : a < 2 ^ 31) (k : XW p l e R s m args below meth c nL cells slots A D Q w S t lv st) : XW p l e R s m args below meth c nL cells slots A D Q w S pc lv (.int (nI a) :: st) := hd_if_ge n t C d hn ht (fun _ => k) (fun q => absurd (nI_pos' ha) q)
theorem hd_if_gtN {a : Nat} {z : Int} (n t : Nat) (C : xC p s m args meth c own cc nL ret) (d : decode cc pc = .ok (.ifCond .gt z, 3)) (hn : pc + 3 = n) (ht : (pc : Int) + z = (t : Int)) (ha : a < 2 ^ 31) (kt : 0 < a → XW p l e R s m args below meth c nL cells slots A D Q w S t lv st) (kf : a = 0 → XW p l e R s m args below meth c nL cells slots A D Q w S n lv st) : XW p l e R s m args below meth c nL cells slots A D Q w S pc lv (.int (nI a) :: st) := hd_if_gt n t C d hn ht (fun q => kt (by rcases Nat.eq_zero_or_pos a with rfl | h; exact absurd q (by decide); exact h)) (fun q => kf (by rcases Nat.eq_zero_or_pos a with rfl | h; rfl; exact absurd (by rw [← nI_0]; exact nI_lt h ha) q))
theorem hd_if_leN {a : Nat} {z : Int} (n t : Nat) (C : xC p s m args meth c own cc nL ret) (d : decode cc pc = .ok (.ifCond .le z, 3)) (hn : pc + 3 = n) (ht : (pc : Int) + z = (t : Int)) (ha : a < 2 ^ 31) (kt : a = 0 → XW p l e R s m args below meth c nL cells slots A D Q w S t lv st) (kf : 0 < a → XW p l e R s m args below meth c nL cells slots A D Q w S n lv st) : XW p l e R s m args below meth c nL cells slots A D Q w S pc lv (.int (nI a) :: st) := hd_if_le n t C d hn ht (fun q => kt (by rcases Nat.eq_zero_or_pos a with rfl | h; rfl; exact absurd q (nI_nle h ha))) (fun q => kf (by rcases Nat.eq_zero_or_pos a with rfl | h; exact absurd (by decide) q; exact h))
end HDB
theorem bI_is1 {b : Bool} (h : b = true) : nI 1 = bI b := by subst h; rfl
theorem bI_is0 {b : Bool} (h : b = false) : nI 0 = bI b := by subst h; rfl

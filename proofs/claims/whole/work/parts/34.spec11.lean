/-! sets of rooms, 64 to a long -/
def lb (x : Int64) (s : Nat) : Bool := x.toBitVec.getLsbD s
theorem lb_and (x y : Int64) (s : Nat) : lb (x &&& y) s = (lb x s && lb y s) := by unfold lb; rw [Int64.toBitVec_and, BitVec.getLsbD_and]
theorem lb_or (x y : Int64) (s : Nat) : lb (x ||| y) s = (lb x s || lb y s) := by unfold lb; rw [Int64.toBitVec_or, BitVec.getLsbD_or]
theorem lb_xor (x y : Int64) (s : Nat) : lb (x ^^^ y) s = (lb x s ^^ lb y s) := by unfold lb; rw [Int64.toBitVec_xor, BitVec.getLsbD_xor]
theorem lb_m1 {s : Nat} (h : s < 64) : lb (-1) s = true := by
  have e : (-1 : Int64).toBitVec = BitVec.allOnes 64 := by decide
  unfold lb; rw [e, BitVec.getLsbD_allOnes]; exact decide_eq_true h
theorem lb_0 (s : Nat) : lb 0 s = false := by
  have e : (0 : Int64).toBitVec = 0#64 := by decide
  unfold lb; rw [e, BitVec.getLsbD_zero]
theorem lb_ne {x : Int64} (h : ¬ x = 0) : ∃ s, s < 64 ∧ lb x s = true := by
  apply Classical.byContradiction
  intro q
  refine h (Int64.toBitVec_inj.1 (BitVec.eq_of_getLsbD_eq fun i hi => ?_))
  have e := lb_0 i
  unfold lb at e
  rw [e]
  cases e2 : x.toBitVec.getLsbD i
  · rfl
  · exact absurd ⟨i, hi, e2⟩ q
set_option maxRecDepth 100000 in
theorem tSW_bit : ∀ r, r < 6 → ∀ s, s < 64 → lb (tSW r) s = s.testBit r := by decide
set_option maxRecDepth 100000 in
theorem or_add : ∀ r, r < 6 → ∀ s, s < 64 → s.testBit r = false → s ||| 2 ^ r = s + 2 ^ r := by decide
set_option maxRecDepth 100000 in
theorem or_same : ∀ r, r < 6 → ∀ s, s < 64 → s.testBit r = true → s ||| 2 ^ r = s := by decide
set_option maxRecDepth 100000 in
theorem sub_bit : ∀ r, r < 6 → ∀ s, s < 64 → s.testBit r = false → s + 2 ^ r < 64 ∧ (s + 2 ^ r).testBit r = true := by decide
theorem lb_shl {r : Nat} (hr : r < 6) (x : Int64) {s : Nat} (hs : s < 64) : lb (x <<< ((nI (2 ^ r)).toInt64 &&& 63)) s = (decide (2 ^ r ≤ s) && lb x (s - 2 ^ r)) := by
  have e : ((nI (2 ^ r)).toInt64 &&& 63).toBitVec.smod 64 = BitVec.ofNat 64 (2 ^ r) := by
    rcases (show r = 0 ∨ r = 1 ∨ r = 2 ∨ r = 3 ∨ r = 4 ∨ r = 5 by omega) with rfl | rfl | rfl | rfl | rfl | rfl <;> decide
  have h64 : 2 ^ r < 64 := pow_lt6 hr
  unfold lb
  rw [Int64.toBitVec_shiftLeft, e, BitVec.shiftLeft_eq', BitVec.toNat_ofNat, Nat.mod_eq_of_lt (by omega), BitVec.getLsbD_shiftLeft]
  by_cases q : s < 2 ^ r
  · simp [q, hs, show ¬ 2 ^ r ≤ s by omega]
  · simp [q, hs, show 2 ^ r ≤ s by omega]
def ewV (x : Int64) (r : Nat) : Int64 := (x &&& tSW r) ||| ((x &&& (tSW r ^^^ (-1))) <<< ((nI (2 ^ r)).toInt64 &&& 63))
theorem ewV_bit {r : Nat} (hr : r < 6) (x : Int64) {s' : Nat} (hs' : s' < 64) : lb (ewV x r) s' = true ↔ ∃ s, s < 64 ∧ lb x s = true ∧ s' = s ||| 2 ^ r := by
  unfold ewV
  rw [lb_or, lb_and, lb_shl hr _ hs', tSW_bit r hr s' hs']
  constructor
  · intro q
    rcases Bool.or_eq_true_iff.mp q with q | q
    · obtain ⟨q1, q2⟩ := Bool.and_eq_true_iff.mp q
      exact ⟨s', hs', q1, (or_same r hr s' hs' q2).symm⟩
    · obtain ⟨q1, q2⟩ := Bool.and_eq_true_iff.mp q
      have q1 := of_decide_eq_true q1
      have hlt : s' - 2 ^ r < 64 := Nat.lt_of_le_of_lt (Nat.sub_le _ _) hs'
      rw [lb_and, lb_xor, tSW_bit r hr _ hlt, lb_m1 hlt] at q2
      obtain ⟨q3, q4⟩ := Bool.and_eq_true_iff.mp q2
      have q5 : (s' - 2 ^ r).testBit r = false := by
        cases e : (s' - 2 ^ r).testBit r
        · rfl
        · rw [e] at q4; exact absurd q4 (by decide)
      exact ⟨s' - 2 ^ r, hlt, q3, by rw [or_add r hr _ hlt q5]; omega⟩
  · rintro ⟨s, h1, h2, rfl⟩
    cases e : s.testBit r
    · rw [or_add r hr s h1 e]
      refine Bool.or_eq_true_iff.mpr (Or.inr (Bool.and_eq_true_iff.mpr ⟨decide_eq_true (by omega), ?_⟩))
      rw [show s + 2 ^ r - 2 ^ r = s by omega, lb_and, lb_xor, tSW_bit r hr _ h1, lb_m1 h1, e, h2]; rfl
    · rw [or_same r hr s h1 e]
      exact Bool.or_eq_true_iff.mpr (Or.inl (Bool.and_eq_true_iff.mpr ⟨h2, e⟩))
def RG (g : Nat → Int64) (P : Nat → Nat → Prop) : Prop := ∀ r, r < 6 → ∀ s, s < 64 → (lb (g r) s = true ↔ P s r)
theorem RG_congr {g : Nat → Int64} {P P' : Nat → Nat → Prop} (h : RG g P) (e : ∀ s r, s < 64 → (P s r ↔ P' s r)) : RG g P' := fun r hr s hs => (h r hr s hs).trans (e s r hs)
def xO (N : Nat → Nat → Nat) (h : Nat) (P : Nat → Nat → Prop) (d : Nat) : Nat → Nat → Prop := fun s r => P s r ∨ ∃ d', d' < d ∧ (ld N d' h = some r ∧ ∃ s1, s1 < 64 ∧ P s1 (N 2 d') ∧ s = s1 ||| 2 ^ r)
theorem xO_0 {N : Nat → Nat → Nat} {h : Nat} {P : Nat → Nat → Prop} {s r : Nat} : P s r ↔ xO N h P 0 s r := ⟨Or.inl, fun q => q.elim id (fun ⟨_, q, _⟩ => absurd q (Nat.not_lt_zero _))⟩
theorem xO_f {N : Nat → Nat → Nat} {h d : Nat} {P : Nat → Nat → Prop} (e : ld N d h = none) {s r : Nat} : xO N h P d s r ↔ xO N h P (d + 1) s r := by
  unfold xO
  rw [ex_s, e]
  exact or_congr Iff.rfl ⟨Or.inl, fun q => q.elim id (fun q => absurd q.1 (by simp))⟩
def upL (g : Nat → Int64) (i : Nat) (v : Int64) : Nat → Int64 := fun j => if j = i then v else g j
theorem RG_up {N : Nat → Nat → Nat} {h d to : Nat} {P : Nat → Nat → Prop} {g g0 : Nat → Int64} (hg : RG g (xO N h P d)) (h0 : RG g0 P) (e : ld N d h = some to) (ht : to < 6) (h2 : N 2 d < 6) : RG (upL g to (g to ||| ewV (g0 (N 2 d)) to)) (xO N h P (d + 1)) := fun r hr s hs => by
  have key : xO N h P (d + 1) s r ↔ (xO N h P d s r ∨ (to = r ∧ ∃ s1, s1 < 64 ∧ P s1 (N 2 d) ∧ s = s1 ||| 2 ^ r)) := by
    unfold xO
    rw [ex_s, e, or_assoc]
    exact or_congr Iff.rfl (or_congr Iff.rfl ⟨fun q => ⟨Option.some.inj q.1, q.2⟩, fun q => ⟨by rw [q.1], q.2⟩⟩)
  rw [key]
  by_cases q : r = to
  · subst q
    rw [show upL g r (g r ||| ewV (g0 (N 2 d)) r) r = g r ||| ewV (g0 (N 2 d)) r from if_pos rfl, lb_or, Bool.or_eq_true_iff, hg r hr s hs, ewV_bit hr _ hs]
    refine or_congr Iff.rfl ⟨fun ⟨s1, k1, k2, k3⟩ => ⟨rfl, s1, k1, (h0 _ h2 _ k1).mp k2, k3⟩, fun ⟨_, s1, k1, k2, k3⟩ => ⟨s1, k1, (h0 _ h2 _ k1).mpr k2, k3⟩⟩
  · rw [show upL g to (g to ||| ewV (g0 (N 2 d)) to) r = g r from if_neg q, hg r hr s hs]
    exact ⟨Or.inl, fun k => k.elim id (fun k => absurd k.1.symm q)⟩
theorem bh_ld {N : Nat → Nat → Nat} (hI : inv N) {r h d r' : Nat} (hd : d < N 0 1) : bh N (-9) r h d = some r' ↔ (N 2 d = r ∧ ld N d h = some r') := by
  have h9 : ¬ nI d = -9 := nI_ne9 (by have := hI.D; omega)
  unfold bh
  rw [if_neg (by omega)]
  by_cases e : N 2 d = r
  · rw [if_neg (by rintro (k | k); exact h9 k; exact k e)]; exact ⟨fun k => ⟨e, k⟩, fun k => k.2⟩
  · rw [if_pos (Or.inr e)]; exact ⟨fun k => absurd k (by simp), fun k => absurd k.1 e⟩
theorem xO_end {N : Nat → Nat → Nat} (hI : inv N) {h : Nat} {P : Nat → Nat → Prop} {s r : Nat} : xO N h P (N 0 1) s r ↔ stp N h P s r := by
  refine or_congr Iff.rfl ⟨?_, ?_⟩
  · rintro ⟨d, h1, h2, s1, h3, h4, h5⟩
    exact ⟨s1, N 2 d, d, h3, h4, h1, (bh_ld hI h1).mpr ⟨rfl, h2⟩, h5⟩
  · rintro ⟨s1, r1, d, h1, h2, h3, h4, h5⟩
    obtain ⟨rfl, k⟩ := (bh_ld hI h3).mp h4
    exact ⟨d, h3, k, s1, h1, h2, h5⟩
theorem RG_eq {g g' : Nat → Int64} {P : Nat → Nat → Prop} (h : RG g P) (e : ∀ r, r < 6 → g' r = g r) : RG g' P := fun r hr s hs => by rw [e r hr]; exact h r hr s hs
theorem uG_rG (f : Nat → Nat → Int64) (r : Nat) (g : Nat → Int64) (i : Nat) (v : Int64) : uG (rG f r g) r i v = rG f r (upL g i v) := by
  funext x j; unfold uG rG upL
  by_cases h : x = r <;> by_cases h2 : j = i <;> simp [h, h2]
theorem rG_self (f : Nat → Nat → Int64) (r : Nat) : rG f r (f r) = f := by
  funext x; unfold rG; by_cases h : x = r <;> simp [h]
theorem rG_rG (f : Nat → Nat → Int64) (r : Nat) (g g' : Nat → Int64) : rG (rG f r g) r g' = rG f r g' := by
  funext x; unfold rG; by_cases h : x = r <;> simp [h]
def sub6 (st q s : Nat) : Prop := ∀ r, r < q → st.testBit r = true → s.testBit r = true
theorem sub6_end {st s : Nat} (h : st < 64) : sub6 st 6 s ↔ subS st s := ⟨fun k r hr => k r (bit6 h hr) hr, fun k r _ hr => k r hr⟩
theorem sub6_t {st q s : Nat} (h : st.testBit q = true) : sub6 st (q + 1) s ↔ (sub6 st q s ∧ s.testBit q = true) := by
  constructor
  · exact fun k => ⟨fun r hr => k r (by omega), k q (by omega) h⟩
  · rintro ⟨k1, k2⟩ r hr hb
    rcases Nat.eq_or_lt_of_le (Nat.le_of_lt_succ hr) with rfl | h1
    · exact k2
    · exact k1 r h1 hb
theorem sub6_f {st q s : Nat} (h : st.testBit q = false) : sub6 st (q + 1) s ↔ sub6 st q s := by
  constructor
  · exact fun k r hr => k r (by omega)
  · intro k1 r hr hb
    rcases Nat.eq_or_lt_of_le (Nat.le_of_lt_succ hr) with rfl | h1
    · exact absurd (h.symm.trans hb) (by decide)
    · exact k1 r h1 hb
theorem any_t {g : Nat → Int64} {x : Int64} {st q : Nat} {P : Nat → Nat → Prop} (hx : ∀ s, s < 64 → (lb x s = true ↔ subS st s)) (hG : RG g P) (hq : q < 6) (h : ¬ g q &&& x = 0) : hvP P st := by
  obtain ⟨s, hs, hb⟩ := lb_ne h
  rw [lb_and] at hb
  obtain ⟨h1, h2⟩ := Bool.and_eq_true_iff.mp hb
  exact ⟨s, hs, ⟨q, (hG q hq s hs).mp h1⟩, (hx s hs).mp h2⟩
theorem any_f {g : Nat → Int64} {x : Int64} {st q : Nat} {P : Nat → Nat → Prop} (hx : ∀ s, s < 64 → (lb x s = true ↔ subS st s)) (hG : RG g P) (hq : q < 6) (h : g q &&& x = 0) : ¬ ∃ s, s < 64 ∧ P s q ∧ subS st s := by
  rintro ⟨s, h1, h2, h3⟩
  have k : lb (g q &&& x) s = true := by rw [lb_and, (hG q hq s h1).mpr h2, (hx s h1).mpr h3]; rfl
  rw [h, lb_0] at k
  exact absurd k (by decide)
theorem cpyL {f g : Nat → Int64} {r : Nat} (h : r < 6) : va_cpy f g 0 0 6 r = f r := by simp [va_cpy, h]
set_option maxRecDepth 100000 in
theorem lb_1 : ∀ k, k < 64 → (lb 1 k = true ↔ k = 0) := by decide
theorem flL_0 (f : Nat → Int64) (v : Int64) : (fun j => if j < 0 then v else f j) = f := by funext j; simp
theorem flL_s (f : Nat → Int64) (v : Int64) (q : Nat) : upL (fun j => if j < q then v else f j) q v = fun j => if j < q + 1 then v else f j := by
  funext j; unfold upL
  by_cases e : j = q
  · simp [e]
  · by_cases h : j < q
    · simp [e, h, show j < q + 1 by omega]
    · simp [e, h, show ¬ j < q + 1 by omega]
theorem RG_start {f : Nat → Int64} {N : Nat → Nat → Nat} {fr hr : Nat} (hf : fr < 6) : RG (upL (fun j => if j < 6 then 0 else f j) fr (1 <<< ((nI (2 ^ fr)).toInt64 &&& 63))) (est N fr hr 0) := fun r hr6 s hs => by
  show _ ↔ (s = 2 ^ fr ∧ r = fr)
  have h64 := pow_lt6 hf
  unfold upL
  by_cases e : r = fr
  · subst e
    rw [if_pos rfl, lb_shl hf _ hs, Bool.and_eq_true_iff, decide_eq_true_iff, lb_1 _ (Nat.lt_of_le_of_lt (Nat.sub_le _ _) hs)]
    omega
  · rw [if_neg e]
    show lb (if r < 6 then 0 else f r) s = true ↔ _
    rw [if_pos hr6, lb_0]
    exact ⟨fun k => absurd k (by decide), fun k => absurd k.2 e⟩
theorem rG_4 (G : Nat → Nat → Int64) (g1 g0 g1' g0' : Nat → Int64) : rG (rG (rG (rG G 1 g1) 0 g0) 1 g1') 0 g0' = rG (rG G 1 g1') 0 g0' := by
  funext x; unfold rG
  by_cases h1 : x = 1 <;> by_cases h2 : x = 0 <;> simp [h1, h2]
theorem inB_big2 {x : Int32} {R : Nat} (hp : 2 ^ R ≤ 2 ^ 6) (h : nI (2 ^ R - 1) < x) : inB x (2 ^ R) = false := by
  have h1 : 0 < 2 ^ R := Nat.pow_pos (by decide)
  rw [fa_lt, nI_toInt (by omega)] at h
  unfold inB
  exact decide_eq_false (by omega)
theorem inB_ok2 {x : Int32} {R : Nat} (hp : 2 ^ R ≤ 2 ^ 6) (h0 : ¬ x < 0) (h : ¬ nI (2 ^ R - 1) < x) : inB x (2 ^ R) = true := by
  have h1 : 0 < 2 ^ R := Nat.pow_pos (by decide)
  rw [fa_lt, nI_toInt (by omega)] at h
  rw [fa_lt] at h0
  have e : (0 : Int32).toInt = 0 := rfl
  unfold inB
  exact decide_eq_true (by omega)

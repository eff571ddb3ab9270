/-! errands: where one may be, by which rooms one has been in -/
def RB (f : Nat → Int32) (P : Nat → Nat → Prop) : Prop := ∀ s, s < 64 → ∃ b, b < 64 ∧ f s = nI b ∧ ∀ r, b.testBit r = true ↔ P s r
theorem RB_congr {f : Nat → Int32} {P P' : Nat → Nat → Prop} (h : RB f P) (e : ∀ s r, s < 64 → (P s r ↔ P' s r)) : RB f P' := fun s hs => by
  obtain ⟨b, h1, h2, h3⟩ := h s hs
  exact ⟨b, h1, h2, fun r => (h3 r).trans (e s r hs)⟩
theorem RB_eq {f g : Nat → Int32} {P : Nat → Nat → Prop} (h : RB f P) (e : ∀ s, s < 64 → g s = f s) : RB g P := fun s hs => by
  obtain ⟨b, h1, h2, h3⟩ := h s hs
  exact ⟨b, h1, (e s hs).trans h2, h3⟩
theorem RB_up {f : Nat → Int32} {P : Nat → Nat → Prop} (h : RB f P) {s0 r0 b : Nat} (hs : s0 < 64) (hr : r0 < 6) (hb : f s0 = nI b) (hb64 : b < 64) : RB (upd f s0 (nI (b ||| 2 ^ r0))) (fun s r => P s r ∨ (s = s0 ∧ r = r0)) := fun s hs' => by
  obtain ⟨b', h1, h2, h3⟩ := h s hs'
  by_cases e : s = s0
  · subst e
    have eb : b = b' := (nI_eq (by omega) (by omega)).mp (hb.symm.trans h2)
    subst eb
    refine ⟨b ||| 2 ^ r0, or_lt hb64 hr, by rw [pk_us], fun r => ?_⟩
    rw [Nat.testBit_or, Nat.testBit_two_pow]
    constructor
    · intro q
      rcases Bool.or_eq_true_iff.mp q with q | q
      · exact Or.inl ((h3 r).mp q)
      · exact Or.inr ⟨rfl, (of_decide_eq_true q).symm⟩
    · intro q
      rcases q with q | q
      · exact Bool.or_eq_true_iff.mpr (Or.inl ((h3 r).mpr q))
      · exact Bool.or_eq_true_iff.mpr (Or.inr (decide_eq_true q.2.symm))
  · refine ⟨b', h1, by rw [pk_un e]; exact h2, fun r => (h3 r).trans ⟨Or.inl, fun q => q.elim id (fun q => absurd q.1 e)⟩⟩
theorem ex_s {d : Nat} {A : Nat → Prop} : (∃ d', d' < d + 1 ∧ A d') ↔ ((∃ d', d' < d ∧ A d') ∨ A d) := by
  constructor
  · rintro ⟨x, h1, h2⟩
    rcases Nat.eq_or_lt_of_le (Nat.le_of_lt_succ h1) with rfl | h
    · exact Or.inr h2
    · exact Or.inl ⟨x, h, h2⟩
  · rintro (⟨x, h1, h2⟩ | h)
    · exact ⟨x, by omega, h2⟩
    · exact ⟨d, by omega, h⟩
def gO (N : Nat → Nat → Nat) (h st room : Nat) (P : Nat → Nat → Prop) (d : Nat) : Nat → Nat → Prop := fun s r => P s r ∨ ∃ d', d' < d ∧ (bh N (-9) room h d' = some r ∧ s = st ||| 2 ^ r)
theorem gO_0 {N : Nat → Nat → Nat} {h st room : Nat} {P : Nat → Nat → Prop} {s r : Nat} : P s r ↔ gO N h st room P 0 s r := ⟨Or.inl, fun q => q.elim id (fun ⟨_, q, _⟩ => absurd q (Nat.not_lt_zero _))⟩
theorem gO_t {N : Nat → Nat → Nat} {h st room d to : Nat} {P : Nat → Nat → Prop} (e : bh N (-9) room h d = some to) {s r : Nat} : (gO N h st room P d s r ∨ (s = st ||| 2 ^ to ∧ r = to)) ↔ gO N h st room P (d + 1) s r := by
  unfold gO
  rw [ex_s, e, or_assoc]
  refine or_congr Iff.rfl (or_congr Iff.rfl ⟨fun q => ⟨by rw [q.2], by rw [q.2]; exact q.1⟩, fun q => ?_⟩)
  have := Option.some.inj q.1
  subst this
  exact ⟨q.2, rfl⟩
theorem gO_f {N : Nat → Nat → Nat} {h st room d : Nat} {P : Nat → Nat → Prop} (e : bh N (-9) room h d = none) {s r : Nat} : gO N h st room P d s r ↔ gO N h st room P (d + 1) s r := by
  unfold gO
  rw [ex_s, e]
  refine or_congr Iff.rfl ⟨Or.inl, fun q => q.elim id (fun q => absurd q.1 (by simp))⟩
def stp (N : Nat → Nat → Nat) (h : Nat) (P : Nat → Nat → Prop) : Nat → Nat → Prop := fun s' r' => P s' r' ∨ ∃ s r d, s < 64 ∧ P s r ∧ d < N 0 1 ∧ bh N (-9) r h d = some r' ∧ s' = s ||| 2 ^ r'
def stx (N : Nat → Nat → Nat) (h : Nat) (P : Nat → Nat → Prop) (x : Nat) : Nat → Nat → Prop := fun s' r' => (P s' r' ∧ s' * N 0 0 + r' < x) ∨ ∃ s r d, s * N 0 0 + r < x ∧ s < 64 ∧ P s r ∧ d < N 0 1 ∧ bh N (-9) r h d = some r' ∧ s' = s ||| 2 ^ r'
theorem dm_iff {s r R x : Nat} (hr : r < R) : s * R + r = x ↔ s = x / R ∧ r = x % R := by
  constructor
  · rintro rfl
    rw [Nat.mul_comm s R, Nat.mul_add_div (by omega), Nat.mul_add_mod, Nat.div_eq_of_lt hr, Nat.mod_eq_of_lt hr]
    exact ⟨rfl, rfl⟩
  · rintro ⟨rfl, rfl⟩
    rw [Nat.mul_comm]; exact Nat.div_add_mod x R
theorem dm_lt {s r R x : Nat} (hr : r < R) : s * R + r < x + 1 ↔ s * R + r < x ∨ (s = x / R ∧ r = x % R) := by
  rw [← dm_iff hr]; omega
theorem stx_0 {N : Nat → Nat → Nat} {h : Nat} {P : Nat → Nat → Prop} {s' r' : Nat} : ¬ stx N h P 0 s' r' := by
  rintro (⟨_, q⟩ | ⟨s, r, d, q, _⟩) <;> exact absurd q (Nat.not_lt_zero _)
theorem stx_t {N : Nat → Nat → Nat} {h x : Nat} {P : Nat → Nat → Prop} (hP : ∀ s r, P s r → r < N 0 0) (hx : x / N 0 0 < 64) (e : P (x / N 0 0) (x % N 0 0)) {s' r' : Nat} : gO N h (x / N 0 0) (x % N 0 0) (fun s r => stx N h P x s r ∨ (s = x / N 0 0 ∧ r = x % N 0 0)) (N 0 1) s' r' ↔ stx N h P (x + 1) s' r' := by
  constructor
  · rintro ((q | q) | ⟨d, h1, h2, h3⟩)
    · rcases q with ⟨q1, q2⟩ | ⟨s, r, d, q1, q2⟩
      · exact Or.inl ⟨q1, by omega⟩
      · exact Or.inr ⟨s, r, d, by omega, q2⟩
    · obtain ⟨rfl, rfl⟩ := q
      exact Or.inl ⟨e, (dm_lt (hP _ _ e)).mpr (Or.inr ⟨rfl, rfl⟩)⟩
    · exact Or.inr ⟨_, _, d, (dm_lt (hP _ _ e)).mpr (Or.inr ⟨rfl, rfl⟩), hx, e, h1, h2, h3⟩
  · rintro (⟨q1, q2⟩ | ⟨s, r, d, q1, q2, q3, q4⟩)
    · rcases (dm_lt (hP _ _ q1)).mp q2 with q | q
      · exact Or.inl (Or.inl (Or.inl ⟨q1, q⟩))
      · exact Or.inl (Or.inr q)
    · rcases (dm_lt (hP _ _ q3)).mp q1 with q | q
      · exact Or.inl (Or.inl (Or.inr ⟨s, r, d, q, q2, q3, q4⟩))
      · obtain ⟨rfl, rfl⟩ := q
        exact Or.inr ⟨d, q4⟩
theorem stx_f {N : Nat → Nat → Nat} {h x : Nat} {P : Nat → Nat → Prop} (hP : ∀ s r, P s r → r < N 0 0) (e : ¬ P (x / N 0 0) (x % N 0 0)) {s' r' : Nat} : stx N h P x s' r' ↔ stx N h P (x + 1) s' r' := by
  constructor
  · rintro (⟨q1, q2⟩ | ⟨s, r, d, q1, q2⟩)
    · exact Or.inl ⟨q1, by omega⟩
    · exact Or.inr ⟨s, r, d, by omega, q2⟩
  · rintro (⟨q1, q2⟩ | ⟨s, r, d, q1, q2, q3, q4⟩)
    · rcases (dm_lt (hP _ _ q1)).mp q2 with q | q
      · exact Or.inl ⟨q1, q⟩
      · obtain ⟨rfl, rfl⟩ := q; exact absurd q1 e
    · rcases (dm_lt (hP _ _ q3)).mp q1 with q | q
      · exact Or.inr ⟨s, r, d, q, q2, q3, q4⟩
      · obtain ⟨rfl, rfl⟩ := q; exact absurd q3 e
theorem sr_lt {s r R x : Nat} (hs : s < 64) (hr : r < R) (hx : 64 * R ≤ x) : s * R + r < x := by
  have h1 : s * R + R ≤ 64 * R := by
    have := Nat.mul_le_mul_right R (show s + 1 ≤ 64 by omega)
    rw [Nat.succ_mul] at this; exact this
  omega
theorem stx_end {N : Nat → Nat → Nat} {h x : Nat} {P : Nat → Nat → Prop} (hP : ∀ s r, P s r → r < N 0 0) (hx : 64 * N 0 0 ≤ x) {s' r' : Nat} (hs : s' < 64) : stx N h P x s' r' ↔ stp N h P s' r' := by
  constructor
  · rintro (⟨q1, q2⟩ | ⟨s, r, d, q1, q2, q3, q4⟩)
    · exact Or.inl q1
    · exact Or.inr ⟨s, r, d, q2, q3, q4⟩
  · rintro (q1 | ⟨s, r, d, q2, q3, q4⟩)
    · exact Or.inl ⟨q1, sr_lt hs (hP _ _ q1) hx⟩
    · exact Or.inr ⟨s, r, d, sr_lt q2 (hP _ _ q3) hx, q2, q3, q4⟩
theorem stp_lt {N : Nat → Nat → Nat} (hI : inv N) {h : Nat} {P : Nat → Nat → Prop} (hP : ∀ s r, P s r → r < N 0 0) : ∀ s r, stp N h P s r → r < N 0 0 := by
  rintro s r (q | ⟨s1, r1, d, q2, q3, q4, q5, q6⟩)
  · exact hP s r q
  · exact bh_lt hI (hP _ _ q3) (Nat.le_of_lt q4) r q5
theorem rr_26 (Z : Nat → Nat → Int32) (f g f' g' : Nat → Int32) : rZ (rZ (rZ (rZ Z 26 g) 25 f) 26 g') 25 f' = rZ (rZ Z 26 g') 25 f' := by
  funext x; unfold rZ
  by_cases h1 : x = 25 <;> by_cases h2 : x = 26 <;> simp [h1, h2]
theorem rr_25 (Z : Nat → Nat → Int32) (g : Nat → Int32) : rZ Z 26 g = rZ (rZ Z 26 g) 25 (Z 25) := by
  funext x; unfold rZ
  by_cases h1 : x = 25 <;> by_cases h2 : x = 26 <;> simp [h1, h2]
theorem rr_26s (Z : Nat → Nat → Int32) (f : Nat → Int32) : rZ Z 25 f = rZ (rZ Z 26 (Z 26)) 25 f := by
  funext x; unfold rZ
  by_cases h1 : x = 25 <;> by_cases h2 : x = 26 <;> simp [h1, h2]
theorem nz_bit {b : Nat} (h : b ≠ 0) : ∃ r, b.testBit r = true := by
  apply Classical.byContradiction
  intro q
  refine h (Nat.eq_of_testBit_eq fun r => ?_)
  rw [Nat.zero_testBit]
  cases e : b.testBit r
  · rfl
  · exact absurd ⟨r, e⟩ q
def subS (s x : Nat) : Prop := ∀ r, s.testBit r = true → x.testBit r = true
def hvP (P : Nat → Nat → Prop) (st : Nat) : Prop := ∃ s, s < 64 ∧ (∃ r, P s r) ∧ subS st s
def est (N : Nat → Nat → Nat) (fr hr : Nat) : Nat → Nat → Nat → Prop
  | 0 => fun s r => s = 2 ^ fr ∧ r = fr
  | t + 1 => stp N ((hr + t) % 12) (est N fr hr t)
theorem est_lt {N : Nat → Nat → Nat} (hI : inv N) {fr hr : Nat} (hf : fr < N 0 0) : ∀ t s r, est N fr hr t s r → r < N 0 0
  | 0, s, r, h => by rw [h.2]; exact hf
  | t + 1, s, r, h => stp_lt hI (est_lt hI hf t) s r h
def ErP (N : Nat → Nat → Nat) (fr st hr : Nat) (r : Int32) : Prop := (∃ t, t ≤ 24 ∧ r = nI t ∧ hvP (est N fr hr t) st ∧ ∀ y, y < t → ¬ hvP (est N fr hr y) st) ∨ (r = -9 ∧ ∀ t, t ≤ 24 → ¬ hvP (est N fr hr t) st)
theorem ErP_one {N : Nat → Nat → Nat} {fr st hr : Nat} {r r' : Int32} (h : ErP N fr st hr r) (h' : ErP N fr st hr r') : r = r' := by
  rcases h with ⟨t, h1, h2, h3, h4⟩ | ⟨h1, h2⟩ <;> rcases h' with ⟨t', h1', h2', h3', h4'⟩ | ⟨h1', h2'⟩
  · rcases Nat.lt_trichotomy t t' with q | q | q
    · exact absurd h3 (h4' t q)
    · rw [h2, h2', q]
    · exact absurd h3' (h4 t' q)
  · exact absurd h3 (h2' t h1)
  · exact absurd h3' (h2 t' h1')
  · rw [h1, h1']
def erP (N : Nat → Nat → Nat) (xf xs xh r : Int32) : Prop := (inB xf (N 0 0) = false ∧ r = -1) ∨ (inB xf (N 0 0) = true ∧ ¬ (inB xs (2 ^ N 0 0) = true ∧ inB xh 12 = true) ∧ r = -2) ∨ (inB xf (N 0 0) = true ∧ (inB xs (2 ^ N 0 0) = true ∧ inB xh 12 = true) ∧ ErP N (cl xf) (cl xs) (cl xh) r)
theorem erP_one {N : Nat → Nat → Nat} {xf xs xh r r' : Int32} (h : erP N xf xs xh r) (h' : erP N xf xs xh r') : r = r' := by
  rcases h with ⟨h1, h2⟩ | ⟨h1, h2, h3⟩ | ⟨h1, h2, h3⟩ <;> rcases h' with ⟨k1, k2⟩ | ⟨k1, k2, k3⟩ | ⟨k1, k2, k3⟩
  · rw [h2, k2]
  · exact absurd (h1.symm.trans k1) (by decide)
  · exact absurd (h1.symm.trans k1) (by decide)
  · exact absurd (h1.symm.trans k1) (by decide)
  · rw [h3, k3]
  · exact absurd k2 h2
  · exact absurd (h1.symm.trans k1) (by decide)
  · exact absurd h2 k2
  · exact ErP_one h3 k3
theorem RB_start {f : Nat → Int32} {N : Nat → Nat → Nat} {fr hr : Nat} (hf : fr < 6) (h : ∀ y, y < 64 → f y = nI (if y = 2 ^ fr then 2 ^ fr else 0)) : RB f (est N fr hr 0) := fun s hs => by
  refine ⟨_, ?_, h s hs, fun r => ?_⟩
  · split
    · exact pow_lt6 hf
    · decide
  · show _ ↔ (s = 2 ^ fr ∧ r = fr)
    split
    · rename_i e
      rw [Nat.testBit_two_pow]
      exact ⟨fun q => ⟨e, (of_decide_eq_true q).symm⟩, fun q => decide_eq_true q.2.symm⟩
    · rename_i e
      rw [Nat.zero_testBit]
      exact ⟨fun q => absurd q (by decide), fun q => absurd q.1 e⟩
theorem m1_nI : (-1 : Int32) = nI (2 ^ 32 - 1) := by decide
theorem rZ_rZ (Z : Nat → Nat → Int32) (r : Nat) (f g : Nat → Int32) : rZ (rZ Z r f) r g = rZ Z r g := by
  funext x; unfold rZ; by_cases h : x = r <;> simp [h]
theorem fa_xor (a b : Nat) : nI a ^^^ nI b = nI (a ^^^ b) := by
  apply Int32.toBitVec_inj.1
  show BitVec.ofNat 32 a ^^^ BitVec.ofNat 32 b = BitVec.ofNat 32 (a ^^^ b)
  apply BitVec.eq_of_getLsbD_eq
  intro i hi
  simp [hi]
theorem bit6 {s r : Nat} (hs : s < 64) (h : s.testBit r = true) : r < 6 := by
  refine Nat.lt_of_not_le fun q => ?_
  have : s < 2 ^ r := Nat.lt_of_lt_of_le hs (show 2 ^ 6 ≤ 2 ^ r from Nat.pow_le_pow_right (show 0 < 2 by decide) q)
  rw [Nat.testBit_lt_two_pow this] at h
  exact absurd h (by decide)
theorem andnot {s x : Nat} (hs : s < 64) : (nI s &&& (nI x ^^^ (-1)) = 0) ↔ subS s x := by
  rw [m1_nI, fa_xor, fa_and, show (0 : Int32) = nI 0 from rfl, nI_eq (Nat.lt_of_le_of_lt Nat.and_le_left (by omega)) (by decide)]
  constructor
  · intro e r hr
    have h := congrArg (fun z => z.testBit r) e
    have h6 := bit6 hs hr
    simp only [Nat.testBit_and, Nat.testBit_xor, Nat.zero_testBit, Nat.testBit_two_pow_sub_one, hr, Bool.true_and] at h
    rw [decide_eq_true (show r < 32 by omega)] at h
    revert h; cases x.testBit r <;> simp
  · intro h
    refine Nat.eq_of_testBit_eq fun r => ?_
    rw [Nat.testBit_and, Nat.testBit_xor, Nat.zero_testBit, Nat.testBit_two_pow_sub_one]
    cases e : s.testBit r
    · rfl
    · have h6 := bit6 hs e
      rw [h r e, decide_eq_true (show r < 32 by omega)]; rfl
def hvq (P : Nat → Nat → Prop) (st q : Nat) : Prop := ∃ s, s < q ∧ ((∃ r, P s r) ∧ subS st s)
theorem hvq_t {P : Nat → Nat → Prop} {st q : Nat} (h : hvq P st q) : hvq P st (q + 1) := by obtain ⟨s, h1, h2⟩ := h; exact ⟨s, by omega, h2⟩
theorem hvq_f {P : Nat → Nat → Prop} {st q : Nat} (h : ¬ hvq P st q) (h2 : ¬ ((∃ r, P q r) ∧ subS st q)) : ¬ hvq P st (q + 1) := fun k => by
  rcases (ex_s (A := fun s => (∃ r, P s r) ∧ subS st s)).mp k with k | k
  · exact h k
  · exact h2 k

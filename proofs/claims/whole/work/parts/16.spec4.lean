theorem uZ_rZ (f : Nat → Nat → Int32) (r : Nat) (g : Nat → Int32) (i : Nat) (v : Int32) : uZ (rZ f r g) r i v = rZ f r (upd g i v) := by
  funext r' j
  by_cases h : r' = r
  · subst h; by_cases h2 : j = i <;> simp [uZ, rZ, upd, h2]
  · simp [uZ, rZ, h]
theorem hbk_step {N : Nat → Nat → Nat} {to hr hours q : Nat} (h : q < hours) : hbk N to hr hours (hours - q) = ahb N ((hr + q) % 12) (hbk N to hr hours (hours - (q + 1))) := by
  rw [show hours - q = (hours - (q + 1)) + 1 by omega, hbk, show hours - (hours - (q + 1) + 1) = q by omega]
theorem ahb_end {N : Nat → Nat → Nat} {h set d : Nat} (e : d = N 0 1) : ahbo N h set d = ahb N h set := by rw [e]; rfl
theorem ahbo_s {N : Nat → Nat → Nat} {h set d : Nat} : ahbo N h set (d + 1) = match ld N d h with | none => ahbo N h set d | some r => if set.testBit r = true then ahbo N h set d ||| 2 ^ N 2 d else ahbo N h set d := rfl
theorem kB_t {k : Int32} (h1 : ¬ k < -1) (h2 : k < nI 24) : kB k = true := by
  rw [fa_lt] at h1 h2
  have e1 : (-1 : Int32).toInt = -1 := rfl
  rw [nI_toInt (by decide)] at h2
  exact decide_eq_true (by omega)
theorem kB_f1 {k : Int32} (h1 : k < -1) : kB k = false := by
  rw [fa_lt] at h1
  have e1 : (-1 : Int32).toInt = -1 := rfl
  exact decide_eq_false (by omega)
theorem kB_f2 {k : Int32} (h2 : ¬ k < nI 24) : kB k = false := by
  rw [fa_lt, nI_toInt (by decide)] at h2
  exact decide_eq_false (by omega)
theorem kB_pos {k : Int32} (h : kB k = true) (h1 : ¬ k = -1) : ¬ k < 0 := by
  have h := of_decide_eq_true h
  rw [fa_eq] at h1
  rw [fa_lt]
  have e1 : (-1 : Int32).toInt = -1 := rfl
  have e0 : (0 : Int32).toInt = 0 := rfl
  omega
theorem kB_n9 {k : Int32} (h : kB k = true) : ¬ k < -9 := by
  have h := of_decide_eq_true h
  rw [fa_lt]
  have e1 : (-9 : Int32).toInt = -9 := rfl
  omega
theorem kB_in {k : Int32} (h : kB k = true) (h1 : ¬ k < 0) : inB k 24 = true := by
  have h := of_decide_eq_true h
  rw [fa_lt] at h1
  have e0 : (0 : Int32).toInt = 0 := rfl
  exact decide_eq_true (by omega)
theorem gcd_pos12 (u : Nat) : 0 < Nat.gcd u 12 := Nat.gcd_pos_of_pos_right _ (by decide)
theorem gcd_le12 (u : Nat) : Nat.gcd u 12 ≤ 12 := Nat.le_of_dvd (by decide) (Nat.gcd_dvd_right u 12)
theorem cwh_s {u c : Nat} : cwh u (c + 2) = if 12 % (c + 2) = 0 ∧ u % (c + 2) = 0 then c + 2 else cwh u (c + 1) := rfl
/-! walks as a relation: pt: in j hours, from hour t on, one can come from r to x -/
def eg (N : Nat → Nat → Nat) (wo : Int32) (t r x : Nat) : Prop := x = r ∨ ∃ d, d < N 0 1 ∧ ¬ nI d = wo ∧ N 2 d = r ∧ ld N d (t % 12) = some x
theorem aho_bit {N : Nat → Nat → Nat} {wo : Int32} {h set x : Nat} : ∀ d, (aho N wo h set d).testBit x = true ↔ (set.testBit x = true ∨ ∃ d', d' < d ∧ ¬ nI d' = wo ∧ set.testBit (N 2 d') = true ∧ ld N d' h = some x)
  | 0 => by simp [aho]
  | d + 1 => by
    have ih := aho_bit (N := N) (wo := wo) (h := h) (set := set) (x := x) d
    have key : (aho N wo h set (d + 1)).testBit x = true ↔ ((aho N wo h set d).testBit x = true ∨ (¬ nI d = wo ∧ set.testBit (N 2 d) = true ∧ ld N d h = some x)) := by
      rw [aho]
      split
      · rename_i hc
        split
        · rename_i e; simp [hc, e]
        · rename_i r e
          rw [Nat.testBit_or, Nat.testBit_two_pow]
          simp [hc, e]
      · rename_i hc
        constructor
        · exact Or.inl
        · rintro (q | ⟨q1, q2, -⟩)
          · exact q
          · exact absurd ⟨q1, q2⟩ hc
    rw [key, ih]
    constructor
    · rintro ((q | ⟨d', h1, h2⟩) | q)
      · exact Or.inl q
      · exact Or.inr ⟨d', by omega, h2⟩
      · exact Or.inr ⟨d, by omega, q⟩
    · rintro (q | ⟨d', h1, h2⟩)
      · exact Or.inl (Or.inl q)
      · by_cases e : d' = d
        · subst e; exact Or.inr h2
        · exact Or.inl (Or.inr ⟨d', by omega, h2⟩)
theorem ah_bit {N : Nat → Nat → Nat} {wo : Int32} {t set x : Nat} : (ah N wo (t % 12) set).testBit x = true ↔ ∃ r, set.testBit r = true ∧ eg N wo t r x := by
  unfold ah
  rw [aho_bit]
  constructor
  · rintro (q | ⟨d, h1, h2, h3, h4⟩)
    · exact ⟨x, q, Or.inl rfl⟩
    · exact ⟨N 2 d, h3, Or.inr ⟨d, h1, h2, rfl, h4⟩⟩
  · rintro ⟨r, h1, (rfl | ⟨d, h2, h3, rfl, h5⟩)⟩
    · exact Or.inl h1
    · exact Or.inr ⟨d, h2, h3, h1, h5⟩
def pt (N : Nat → Nat → Nat) (wo : Int32) : Nat → Nat → Nat → Nat → Prop
  | 0, _, r, x => x = r
  | j + 1, t, r, x => ∃ y, eg N wo t r y ∧ pt N wo j (t + 1) y x
theorem eg_mod {N : Nat → Nat → Nat} {wo : Int32} {t t' r x : Nat} (h : t % 12 = t' % 12) : eg N wo t r x ↔ eg N wo t' r x := by unfold eg; rw [h]
theorem pt_mod {N : Nat → Nat → Nat} {wo : Int32} : ∀ j {t t' r x : Nat}, t % 12 = t' % 12 → (pt N wo j t r x ↔ pt N wo j t' r x)
  | 0, _, _, _, _, _ => Iff.rfl
  | j + 1, t, t', r, x, h => by
    unfold pt
    constructor
    · rintro ⟨y, h1, h2⟩; exact ⟨y, (eg_mod h).mp h1, (pt_mod j (by omega)).mp h2⟩
    · rintro ⟨y, h1, h2⟩; exact ⟨y, (eg_mod h).mpr h1, (pt_mod j (by omega)).mpr h2⟩
/-- staying at the end -/
theorem pt_snoc {N : Nat → Nat → Nat} {wo : Int32} : ∀ j {t r y x : Nat}, pt N wo j t r y → eg N wo (t + j) y x → pt N wo (j + 1) t r x
  | 0, t, r, y, x, h, e => by cases h; exact ⟨x, e, rfl⟩
  | j + 1, t, r, y, x, ⟨z, h1, h2⟩, e => ⟨z, h1, pt_snoc j h2 (by rw [show t + 1 + j = t + (j + 1) by omega]; exact e)⟩
theorem pt_stay {N : Nat → Nat → Nat} {wo : Int32} {j t r x : Nat} (h : pt N wo j t r x) : pt N wo (j + 1) t r x := pt_snoc j h (Or.inl rfl)
theorem pt_le {N : Nat → Nat → Nat} {wo : Int32} {j t r x : Nat} (h : pt N wo j t r x) : ∀ k, pt N wo (j + k) t r x
  | 0 => h
  | k + 1 => pt_stay (pt_le h k)
/-- the sets, hour by hour -/
def itr (N : Nat → Nat → Nat) (wo : Int32) (hr : Nat) : Nat → Nat → Nat → Nat
  | 0, _, set => set
  | j + 1, t, set => itr N wo hr j (t + 1) (ah N wo ((hr + t) % 12) set)
theorem itr_bit {N : Nat → Nat → Nat} {wo : Int32} {hr : Nat} : ∀ j {t set x : Nat}, (itr N wo hr j t set).testBit x = true ↔ ∃ r, set.testBit r = true ∧ pt N wo j (hr + t) r x
  | 0, t, set, x => by
    constructor
    · intro h; exact ⟨x, h, rfl⟩
    · rintro ⟨r, h, e⟩; cases e; exact h
  | j + 1, t, set, x => by
    rw [itr, itr_bit j]
    constructor
    · rintro ⟨y, h1, h2⟩
      obtain ⟨r, h3, h4⟩ := ah_bit.mp h1
      exact ⟨r, h3, y, h4, h2⟩
    · rintro ⟨r, h3, y, h4, h2⟩
      exact ⟨y, ah_bit.mpr ⟨r, h3, h4⟩, h2⟩
theorem fw_iff {N : Nat → Nat → Nat} {wo : Int32} {to hr : Nat} : ∀ f t set n, fw N wo to hr f t set = some n ↔ (t ≤ n ∧ n < t + f ∧ (itr N wo hr (n - t) t set).testBit to = true ∧ ∀ m, t ≤ m → m < n → (itr N wo hr (m - t) t set).testBit to = false)
  | 0, t, set, n => by simp [fw]; omega
  | f + 1, t, set, n => by
    rw [fw_succ]
    by_cases hb : set.testBit to = true
    · rw [if_pos hb]
      constructor
      · intro h; cases h
        refine ⟨Nat.le_refl _, by omega, by rw [Nat.sub_self]; exact hb, fun m h1 h2 => by omega⟩
      · rintro ⟨h1, h2, h3, h4⟩
        by_cases e : n = t
        · rw [e]
        · have := h4 t (Nat.le_refl _) (by omega)
          rw [Nat.sub_self] at this
          simp only [itr] at this
          rw [hb] at this; cases this
    · rw [if_neg hb, fw_iff f (t + 1)]
      constructor
      · rintro ⟨h1, h2, h3, h4⟩
        refine ⟨by omega, by omega, by rw [show n - t = (n - (t + 1)) + 1 by omega]; exact h3, fun m g1 g2 => ?_⟩
        by_cases e : m = t
        · subst e; rw [Nat.sub_self]; simpa [itr] using hb
        · have := h4 m (by omega) g2
          rw [show m - t = (m - (t + 1)) + 1 by omega]; exact this
      · rintro ⟨h1, h2, h3, h4⟩
        have hne : n ≠ t := by
          rintro rfl
          rw [Nat.sub_self] at h3
          exact hb h3
        refine ⟨by omega, by omega, ?_, fun m g1 g2 => ?_⟩
        · rw [show n - t = (n - (t + 1)) + 1 by omega] at h3; exact h3
        · have := h4 m (by omega) g2
          rw [show m - t = (m - (t + 1)) + 1 by omega] at this; exact this
theorem pow_bit {f r : Nat} : (2 ^ f).testBit r = true ↔ r = f := by rw [Nat.testBit_two_pow]; simp [eq_comm]
theorem sn_iff {N : Nat → Nat → Nat} {wo : Int32} {fr to hr most n : Nat} : sn N wo fr to hr most = some n ↔ (n ≤ most ∧ pt N wo n hr fr to ∧ ∀ m, m < n → ¬ pt N wo m hr fr to) := by
  have key : ∀ m, (itr N wo hr m 0 (2 ^ fr)).testBit to = true ↔ pt N wo m hr fr to := by
    intro m
    rw [itr_bit]
    constructor
    · rintro ⟨r, h1, h2⟩; rw [pow_bit] at h1; subst h1; exact h2
    · intro h; exact ⟨fr, pow_bit.mpr rfl, h⟩
  unfold sn
  rw [fw_iff]
  constructor
  · rintro ⟨-, h2, h3, h4⟩
    refine ⟨by omega, (key n).mp h3, fun m hm q => ?_⟩
    have := h4 m (Nat.zero_le _) hm
    rw [Nat.sub_zero, (key m).mpr q] at this; cases this
  · rintro ⟨h2, h3, h4⟩
    refine ⟨Nat.zero_le _, by omega, (key n).mpr h3, fun m _ hm => ?_⟩
    cases hb : (itr N wo hr (m - 0) 0 (2 ^ fr)).testBit to with
    | false => rfl
    | true => exact absurd ((key m).mp hb) (h4 m hm)
theorem sn_none {N : Nat → Nat → Nat} {wo : Int32} {fr to hr most : Nat} : sn N wo fr to hr most = none ↔ ¬ pt N wo most hr fr to := by
  constructor
  · intro h q
    obtain ⟨n, h1, h2⟩ := pk_least (fun n => pt N wo n hr fr to) ⟨most, q⟩
    have hle : n ≤ most := Nat.le_of_not_lt fun hl => h2 most hl q
    have := sn_iff.mpr ⟨hle, h1, h2⟩
    rw [h] at this; cases this
  · intro h
    cases hs : sn N wo fr to hr most with
    | none => rfl
    | some n =>
      obtain ⟨h1, h2, -⟩ := sn_iff.mp hs
      exact absurd (by have := pt_le h2 (most - n); rwa [show n + (most - n) = most by omega] at this) h
theorem ahn_itr {N : Nat → Nat → Nat} {hr set : Nat} : ∀ t x, (ahn N hr set t).testBit x = true ↔ ∃ r, set.testBit r = true ∧ pt N (-9) t hr r x
  | 0, x => by
    constructor
    · intro h; exact ⟨x, h, rfl⟩
    · rintro ⟨r, h, e⟩; cases e; exact h
  | t + 1, x => by
    rw [ahn, ah_bit]
    constructor
    · rintro ⟨y, h1, h2⟩
      obtain ⟨r, h3, h4⟩ := (ahn_itr t y).mp h1
      exact ⟨r, h3, pt_snoc t h4 h2⟩
    · rintro ⟨r, h3, h4⟩
      -- the last step of a walk
      have last : ∀ (j : Nat) {t0 r x : Nat}, pt N (-9) (j + 1) t0 r x → ∃ y, pt N (-9) j t0 r y ∧ eg N (-9) (t0 + j) y x := by
        intro j
        induction j with
        | zero => rintro t0 r x ⟨y, q1, q2⟩; cases q2; exact ⟨r, rfl, q1⟩
        | succ j ih =>
          rintro t0 r x ⟨y, q1, q2⟩
          obtain ⟨z, q3, q4⟩ := ih q2
          exact ⟨z, ⟨y, q1, q3⟩, by rw [show t0 + (j + 1) = t0 + 1 + j by omega]; exact q4⟩
      obtain ⟨y, q1, q2⟩ := last t h4
      exact ⟨y, (ahn_itr t y).mpr ⟨r, h3, q1⟩, q2⟩
theorem snle_iff {N : Nat → Nat → Nat} {fr to h n : Nat} (hn : n ≤ 24) : snle N fr to h n = (sn N (-9) fr to h n).isSome := by
  unfold snle
  cases h24 : sn N (-9) fr to h 24 with
  | none =>
    have h1 := sn_none.mp h24
    have : sn N (-9) fr to h n = none := sn_none.mpr fun q => h1 (by have := pt_le q (24 - n); rwa [show n + (24 - n) = 24 by omega] at this)
    rw [this]; rfl
  | some r =>
    obtain ⟨h1, h2, h3⟩ := sn_iff.mp h24
    by_cases e : r ≤ n
    · rw [sn_iff.mpr ⟨e, h2, h3⟩]; simp [e]
    · have : sn N (-9) fr to h n = none := sn_none.mpr fun q => h3 n (by omega) q
      rw [this]; simp [e]
theorem pt_lt {N : Nat → Nat → Nat} (hI : inv N) {wo : Int32} : ∀ j {t r x : Nat}, r < N 0 0 → pt N wo j t r x → x < N 0 0
  | 0, _, _, _, h, e => by cases e; exact h
  | j + 1, t, r, x, h, ⟨y, e, q⟩ => by
    refine pt_lt hI j ?_ q
    rcases e with rfl | ⟨d, h1, -, -, h4⟩
    · exact h
    · exact ld_lt hI h1 _ h4
theorem alp_iff {N : Nat → Nat → Nat} {f h : Nat} : ∀ k, alp N f h k = true ↔ ∀ x, x < k → pt N (-9) 24 h f x
  | 0 => by simp [alp]
  | k + 1 => by
    rw [alp, Bool.and_eq_true, alp_iff k]
    have e : (sn N (-9) f k h 24).isSome = true ↔ pt N (-9) 24 h f k := by
      cases hs : sn N (-9) f k h 24 with
      | none => simp [sn_none.mp hs]
      | some n =>
        obtain ⟨h1, h2, -⟩ := sn_iff.mp hs
        have := pt_le h2 (24 - n)
        rw [show n + (24 - n) = 24 by omega] at this
        simp [this]
    rw [e]
    constructor
    · rintro ⟨h1, h2⟩ x hx
      by_cases q : x = k
      · subst q; exact h2
      · exact h1 x (by omega)
    · intro h1
      exact ⟨fun x hx => h1 x (by omega), h1 k (by omega)⟩
theorem alp_all {N : Nat → Nat → Nat} (hI : inv N) {f h : Nat} (hf : f < N 0 0) : alp N f h (N 0 0) = decide (ahn N h (2 ^ f) 24 = 2 ^ N 0 0 - 1) := by
  have key : ∀ x, (ahn N h (2 ^ f) 24).testBit x = true ↔ pt N (-9) 24 h f x := by
    intro x
    rw [ahn_itr]
    constructor
    · rintro ⟨r, h1, h2⟩; rw [pow_bit] at h1; subst h1; exact h2
    · intro q; exact ⟨f, pow_bit.mpr rfl, q⟩
  have e : alp N f h (N 0 0) = true ↔ ahn N h (2 ^ f) 24 = 2 ^ N 0 0 - 1 := by
    rw [alp_iff]
    constructor
    · intro q
      apply Nat.eq_of_testBit_eq
      intro x
      rw [Nat.testBit_two_pow_sub_one]
      by_cases hx : x < N 0 0
      · rw [(key x).mpr (q x hx)]; simp [hx]
      · have : ¬ (ahn N h (2 ^ f) 24).testBit x = true := fun z => hx (pt_lt hI 24 hf ((key x).mp z))
        simp [hx, this]
    · intro q x hx
      rw [← key, q, Nat.testBit_two_pow_sub_one]; simp [hx]
  cases hb : alp N f h (N 0 0) with
  | true => exact (decide_eq_true (e.mp hb)).symm
  | false => exact (decide_eq_false (fun q => by rw [e.mpr q] at hb; cases hb)).symm
theorem upd_all {g F : Nat → Int32} {q hours : Nat} {v : Int32} (hG : ∀ t, q < t → t ≤ hours → g t = F t) (hv : v = F q) : ∀ t, q - 1 < t → t ≤ hours → upd g q v t = F t := by
  intro t h1 h2
  by_cases h : t = q
  · rw [h, pk_us, hv]
  · rw [pk_un h]; exact hG t (by omega) h2
theorem kBm1 : kB (-1) = true := by decide

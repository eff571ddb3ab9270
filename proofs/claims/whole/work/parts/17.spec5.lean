/-! the reference's choice of an act, and the class's -/
def selF (N : Nat → Nat → Nat) (at0 now to rem : Nat) : Nat → Nat → Option (Nat × Nat)
  | 0, _ => none
  | f + 1, x => match bh N (-9) at0 now x with
    | none => selF N at0 now to rem f (x + 1)
    | some r => if sn N (-9) r to ((now + 1) % 12) 24 = some rem then some (x, r) else selF N at0 now to rem f (x + 1)
theorem selF_s {N : Nat → Nat → Nat} {at0 now to rem f x : Nat} : selF N at0 now to rem (f + 1) x = match bh N (-9) at0 now x with | none => selF N at0 now to rem f (x + 1) | some r => if sn N (-9) r to ((now + 1) % 12) 24 = some rem then some (x, r) else selF N at0 now to rem f (x + 1) := rfl
theorem sel_fha {N : Nat → Nat → Nat} {at0 now to rem set : Nat} (hg : ∀ x r, x ≤ N 0 1 → bh N (-9) at0 now x = some r → (sn N (-9) r to ((now + 1) % 12) 24 = some rem ↔ set.testBit r = true)) :
    ∀ f x, x + f = N 0 1 → (∃ b r, x ≤ b ∧ b ≤ N 0 1 ∧ bh N (-9) at0 now b = some r ∧ set.testBit r = true) → selF N at0 now to rem (f + 1) x = some (fha N at0 now set f x, (bh N (-9) at0 now (fha N at0 now set f x)).getD 0)
  | 0, x, hx, ⟨b, r, h1, h2, h3, h4⟩ => by
    obtain rfl : b = x := by omega
    rw [selF_s, h3]
    have hc := (hg b r h2 h3).mpr h4
    simp only [hc, if_true]
    have e : fha N at0 now set 0 b = b := by show N 0 1 = b; omega
    rw [e, h3]; rfl
  | f + 1, x, hx, ⟨b, r, h1, h2, h3, h4⟩ => by
    rw [selF_s, fha_succ]
    cases hbx : bh N (-9) at0 now x with
    | none =>
      have hne : b ≠ x := by rintro rfl; rw [hbx] at h3; cases h3
      exact sel_fha hg f (x + 1) (by omega) ⟨b, r, by omega, h2, h3, h4⟩
    | some y =>
      by_cases ht : set.testBit y = true
      · have hc := (hg x y (by omega) hbx).mpr ht
        simp only [hc, if_true, ht, hbx]; rfl
      · have hc : ¬ sn N (-9) y to ((now + 1) % 12) 24 = some rem := fun q => ht ((hg x y (by omega) hbx).mp q)
        have hne : b ≠ x := by rintro rfl; rw [hbx] at h3; cases h3; exact ht h4
        simp only [hc, if_false, ht]
        exact sel_fha hg f (x + 1) (by omega) ⟨b, r, by omega, h2, h3, h4⟩
theorem ahbo_bit {N : Nat → Nat → Nat} {h set r : Nat} : ∀ d, (ahbo N h set d).testBit r = true ↔ (set.testBit r = true ∨ ∃ d', d' < d ∧ N 2 d' = r ∧ ∃ y, ld N d' h = some y ∧ set.testBit y = true)
  | 0 => by simp [ahbo]
  | d + 1 => by
    have ih := ahbo_bit (N := N) (h := h) (set := set) (r := r) d
    have key : (ahbo N h set (d + 1)).testBit r = true ↔ ((ahbo N h set d).testBit r = true ∨ (N 2 d = r ∧ ∃ y, ld N d h = some y ∧ set.testBit y = true)) := by
      rw [ahbo_s]
      cases hl : ld N d h with
      | none => simp
      | some y =>
        by_cases ht : set.testBit y = true
        · simp only [ht, if_true, Nat.testBit_or, Nat.testBit_two_pow]
          simp
          simp [ht]
        · simp [ht]
    rw [key, ih]
    constructor
    · rintro ((q | ⟨d', h1, h2⟩) | q)
      · exact Or.inl q
      · exact Or.inr ⟨d', by omega, h2⟩
      · exact Or.inr ⟨d, by omega, q⟩
    · rintro (q | ⟨d', h1, h2⟩)
      · exact Or.inl (Or.inl q)
      · by_cases e : d' = d
        · subst e; exact Or.inr h2
        · exact Or.inl (Or.inr ⟨d', by omega, h2⟩)
theorem ahb_bit {N : Nat → Nat → Nat} (hI : inv N) {t set r : Nat} : (ahb N (t % 12) set).testBit r = true ↔ ∃ y, eg N (-9) t r y ∧ set.testBit y = true := by
  unfold ahb
  rw [ahbo_bit]
  constructor
  · rintro (q | ⟨d, h1, h2, y, h3, h4⟩)
    · exact ⟨r, Or.inl rfl, q⟩
    · exact ⟨y, Or.inr ⟨d, h1, nI_ne9 (by have := hI.D; omega), h2, h3⟩, h4⟩
  · rintro ⟨y, (rfl | ⟨d, h1, h2, h3, h4⟩), h5⟩
    · exact Or.inl h5
    · exact Or.inr ⟨d, h1, h3, y, h4, h5⟩
theorem hbk_bit {N : Nat → Nat → Nat} (hI : inv N) {to hr hours : Nat} : ∀ j, j ≤ hours → ∀ r, (hbk N to hr hours j).testBit r = true ↔ pt N (-9) j (hr + (hours - j)) r to
  | 0, _, r => by
    show (2 ^ to).testBit r = true ↔ to = r
    rw [pow_bit]; exact eq_comm
  | j + 1, hj, r => by
    rw [hbk, ahb_bit hI]
    constructor
    · rintro ⟨y, h1, h2⟩
      refine ⟨y, h1, ?_⟩
      have := (hbk_bit hI j (by omega) y).mp h2
      rwa [show hr + (hours - j) = hr + (hours - (j + 1)) + 1 by omega] at this
    · rintro ⟨y, h1, h2⟩
      refine ⟨y, h1, (hbk_bit hI j (by omega) y).mpr ?_⟩
      rwa [show hr + (hours - j) = hr + (hours - (j + 1)) + 1 by omega]
theorem pt_trans {N : Nat → Nat → Nat} {wo : Int32} : ∀ j {k t r y x : Nat}, pt N wo j t r y → pt N wo k (t + j) y x → pt N wo (j + k) t r x
  | 0, k, t, r, y, x, h, q => by cases h; rw [Nat.zero_add]; exact q
  | j + 1, k, t, r, y, x, ⟨z, h1, h2⟩, q => by
    rw [show j + 1 + k = (j + k) + 1 by omega]
    exact ⟨z, h1, pt_trans j h2 (by rw [show t + 1 + j = t + (j + 1) by omega]; exact q)⟩
theorem bh_eg {N : Nat → Nat → Nat} {t r0 x r : Nat} (hx : x ≤ N 0 1) (h : bh N (-9) r0 (t % 12) x = some r) : eg N (-9) t r0 r := by
  unfold bh at h
  split at h
  · cases h; exact Or.inl rfl
  · split at h
    · cases h
    · rename_i h1 h2
      have h3 := not_or.mp h2
      exact Or.inr ⟨x, by omega, h3.1, Classical.byContradiction h3.2, h⟩
theorem eg_bh {N : Nat → Nat → Nat} {t r0 r : Nat} (h : eg N (-9) t r0 r) : ∃ x, x ≤ N 0 1 ∧ bh N (-9) r0 (t % 12) x = some r := by
  rcases h with rfl | ⟨d, h1, h2, h3, h4⟩
  · exact ⟨N 0 1, Nat.le_refl _, by unfold bh; simp⟩
  · refine ⟨d, by omega, ?_⟩
    unfold bh
    rw [if_neg (by omega), if_neg (by simp [h2, h3])]
    exact h4
section SOON
variable {N : Nat → Nat → Nat} {fr to hr hours : Nat}
/-- what each room of the chosen walk can still do -/
theorem rmS_ok (hI : inv N) (hs : sn N (-9) fr to hr 24 = some hours) : ∀ x, x ≤ hours → pt N (-9) (hours - x) (hr + x) (rmS N fr to hr hours x) to ∧ pt N (-9) x hr fr (rmS N fr to hr hours x)
  | 0, _ => ⟨(sn_iff.mp hs).2.1, rfl⟩
  | x + 1, hx => by
    obtain ⟨h1, h2⟩ := rmS_ok hI hs x (by omega)
    rw [show hours - x = (hours - (x + 1)) + 1 by omega] at h1
    obtain ⟨y, h3, h4⟩ := h1
    obtain ⟨b, h5, h6⟩ := eg_bh h3
    have hb : (hbk N to hr hours (hours - (x + 1))).testBit y = true := (hbk_bit hI _ (by omega) y).mpr (by rwa [show hr + (hours - (hours - (x + 1))) = hr + x + 1 by omega])
    -- the first hopeful act leads into the set
    have key : ∀ f a, a + f = N 0 1 → a ≤ b → ∃ r, bh N (-9) (rmS N fr to hr hours x) ((hr + x) % 12) (fha N (rmS N fr to hr hours x) ((hr + x) % 12) (hbk N to hr hours (hours - (x + 1))) f a) = some r ∧ (hbk N to hr hours (hours - (x + 1))).testBit r = true := by
      intro f
      induction f with
      | zero =>
        intro a ha hab
        obtain rfl : b = N 0 1 := by omega
        exact ⟨y, h6, hb⟩
      | succ f ih =>
        intro a ha hab
        rw [fha_succ]
        cases hba : bh N (-9) (rmS N fr to hr hours x) ((hr + x) % 12) a with
        | none =>
          have hne : a ≠ b := by rintro rfl; rw [hba] at h6; cases h6
          exact ih (a + 1) (by omega) (by omega)
        | some r =>
          by_cases ht : (hbk N to hr hours (hours - (x + 1))).testBit r = true
          · simp only [ht, if_true]; exact ⟨r, hba, ht⟩
          · have hne : a ≠ b := by rintro rfl; rw [hba] at h6; cases h6; exact ht hb
            simp only [ht]
            exact ih (a + 1) (by omega) (by omega)
    obtain ⟨r, q1, q2⟩ := key (N 0 1) 0 (by omega) (by omega)
    have er : rmS N fr to hr hours (x + 1) = r := by rw [rmS, q1]; rfl
    rw [er]
    refine ⟨?_, pt_snoc x h2 (bh_eg (fha_le _ _ (by omega)) q1)⟩
    have := (hbk_bit hI _ (by omega) r).mp q2
    rwa [show hr + (hours - (hours - (x + 1))) = hr + (x + 1) by omega] at this
theorem rmS_min (hI : inv N) (hs : sn N (-9) fr to hr 24 = some hours) {x m : Nat} (hx : x ≤ hours) (hm : m < hours - x) : ¬ pt N (-9) m (hr + x) (rmS N fr to hr hours x) to := fun q =>
  (sn_iff.mp hs).2.2 (x + m) (by omega) (pt_trans x (rmS_ok hI hs x hx).2 q)
theorem sel_ok (hI : inv N) (hs : sn N (-9) fr to hr 24 = some hours) {x : Nat} (hx : x < hours) : selF N (rmS N fr to hr hours x) ((hr + x) % 12) to (hours - x - 1) (N 0 1 + 1) 0 = some (actS N fr to hr hours x, rmS N fr to hr hours (x + 1)) := by
  have h24 := (sn_iff.mp hs).1
  have hg : ∀ b r, b ≤ N 0 1 → bh N (-9) (rmS N fr to hr hours x) ((hr + x) % 12) b = some r → (sn N (-9) r to (((hr + x) % 12 + 1) % 12) 24 = some (hours - x - 1) ↔ (hbk N to hr hours (hours - (x + 1))).testBit r = true) := by
    intro b r hb hbr
    have he := bh_eg hb hbr
    have hm : ∀ j, pt N (-9) j (((hr + x) % 12 + 1) % 12) r to ↔ pt N (-9) j (hr + x + 1) r to := fun j => pt_mod j (by omega)
    rw [hbk_bit hI _ (by omega), show hr + (hours - (hours - (x + 1))) = hr + x + 1 by omega, sn_iff]
    constructor
    · rintro ⟨-, h2, -⟩
      have := (hm _).mp h2
      rwa [show hours - x - 1 = hours - (x + 1) by omega] at this
    · intro h
      refine ⟨by omega, (hm _).mpr (by rwa [show hours - x - 1 = hours - (x + 1) by omega]), fun m hml q => ?_⟩
      exact rmS_min hI hs (Nat.le_of_lt hx) (m := m + 1) (by omega) ⟨r, he, (hm m).mp q⟩
  obtain ⟨h1, -⟩ := rmS_ok hI hs x (Nat.le_of_lt hx)
  rw [show hours - x = (hours - (x + 1)) + 1 by omega] at h1
  obtain ⟨y, h3, h4⟩ := h1
  obtain ⟨b, h5, h6⟩ := eg_bh h3
  have hb : (hbk N to hr hours (hours - (x + 1))).testBit y = true := (hbk_bit hI _ (by omega) y).mpr (by rwa [show hr + (hours - (hours - (x + 1))) = hr + x + 1 by omega])
  rw [sel_fha hg (N 0 1) 0 (by omega) ⟨b, y, Nat.zero_le _, h5, h6, hb⟩]
  rfl
end SOON
theorem inL_kB (k : Int32) : inL k.toInt64 (-1) 23 = kB k := by
  unfold inL kB
  have e0 : (-1 : Int64).toInt = -1 := rfl
  have e1 : (23 : Int64).toInt = 23 := rfl
  rw [e0, e1, Int32.toInt_toInt64]
theorem kB_neg {k : Int32} (h : kB k = true) (h0 : k < 0) : k = -1 := by
  have h := of_decide_eq_true h
  rw [fa_lt] at h0
  rw [fa_eq]
  have e1 : (-1 : Int32).toInt = -1 := rfl
  have e0 : (0 : Int32).toInt = 0 := rfl
  omega
def selA (o : Option (Nat × Nat)) (d : Int32) : Int32 := match o with
  | none => d
  | some q => nI q.1
def selB (o : Option (Nat × Nat)) : Int32 := match o with
  | none => -9
  | some q => nI q.2
theorem oI_eqN {o : Option Nat} {n : Nat} (ho : ∀ r, o = some r → r < 2 ^ 31) (hn : n < 2 ^ 31) : oI o = nI n ↔ o = some n := by
  cases o with
  | none => simp only [oI, reduceCtorEq, iff_false]; exact fun q => nI_ne9 hn q.symm
  | some r => simp only [oI, Option.some.injEq]; exact nI_eq (ho r rfl) hn
theorem ge_neg {k : Int32} (h : ¬ k < 0) : 0 ≤ k := fa_of_nlt h

/-! THE READER, reading: whole clauses, whole acts -/
section RDL
variable {Z : tk_Z} {d mc ms : Nat} {S : tk_S} {QR : tk_R} {a qt qs len : Nat} {g : Nat → Int32}
abbrev pC : Type := Int32 × Int32 × Int32 × Int32 × List pS
def pTail (g : Nat → Int32) (len : Nat) (w : Int32) : pW → (Nat × pC) ⊕ (Int32 × Nat × Nat)
  | .inr (kd, pl) => .inr (kd, pl, 0)
  | .inl (s1, mn, fi, se) => match pIf g len s1 with
    | .inr e => .inr e
    | .inl (s2, c) => if tkTok g len s2 = 59 then .inl (tkNext g len s2, (w, mn, fi, se, c)) else .inr (1, s2, c.length)
def pClause (g : Nat → Int32) (len n s : Nat) : (Nat × pC) ⊕ (Int32 × Nat × Nat) := if tkTok g len s < 256 ∨ 259 < tkTok g len s then .inr (1, s, 0) else if 40 ≤ n then .inr (3, s, 0) else pTail g len (tkTok g len s) (pWhat g len (tkTok g len s) (tkNext g len s))
def pActs (g : Nat → Int32) (len : Nat) : Nat → Nat → Nat → (List pC) ⊕ (Int32 × Nat × Nat)
  | 0, _, _ => .inl []
  | f + 1, n, s => if tkTok g len s = -1 then .inl [] else match pClause g len n s with
    | .inr e => .inr e
    | .inl (s', p) => match pActs g len f (n + 1) s' with
      | .inl ps => .inl (p :: ps)
      | .inr (kd, pl, j) => .inr (kd, pl, p.2.2.2.2.length + j)
/-- a clause that a reading gives -/
def cOK (p : pC) : Prop := (p.1 = 256 ∧ p.2.1 = -1 ∨ p.1 = 257 ∧ (p.2.1 = -1 ∨ p.2.1 = 261 ∨ p.2.1 = 262) ∨ p.1 = 258 ∧ p.2.1 = -1 ∧ (∃ k, 1 ≤ k ∧ k ≤ 1000000 ∧ p.2.2.2.1 = nI k) ∨ p.1 = 259 ∧ (p.2.1 = -1 ∨ p.2.1 = 263)) ∧ (∃ k, k ≤ 1000000 ∧ p.2.2.1 = nI k) ∧ (∀ x ∈ p.2.2.2.2, sOK x) ∧ (p.2.2.2.2 = [] ∨ wk 64 p.2.2.2.2 0 = some 1)
theorem num_ok {g : Nat → Int32} {len s : Nat} (h : ¬ 1000000 < tkNum g len s) : ∃ k, k ≤ 1000000 ∧ tkNum g len s = nI k := by
  obtain ⟨j, h1, h2⟩ := tkNum_nn g len s
  refine ⟨j, ?_, h2⟩
  rw [h2] at h
  apply Classical.byContradiction
  intro z
  exact h (nI_lt (a := 1000000) (by omega) (by omega))
theorem pManner_good (g : Nat → Int32) {len s : Nat} (x y : Int32) (hx : x ≠ -1) (hy : y ≠ -1) (hs : s ≤ len) : s ≤ (pManner g len x y s).1 ∧ (pManner g len x y s).1 ≤ len ∧ ((pManner g len x y s).2 = -1 ∨ (pManner g len x y s).2 = x ∨ (pManner g len x y s).2 = y) := by
  unfold pManner
  by_cases h : tkTok g len s = x ∨ tkTok g len s = y
  · rw [if_pos h]
    have := tkNext_le g hs
    exact ⟨this.2.2, this.2.1, Or.inr h⟩
  · rw [if_neg h]
    exact ⟨Nat.le_refl _, hs, Or.inl rfl⟩
/-- what stands ahead of a condition is good -/
def wGood (len s : Nat) (w : Int32) : pW → Prop
  | .inl (s', mn, fi, se) => s ≤ s' ∧ s' ≤ len ∧ (w = 256 ∧ mn = -1 ∨ w = 257 ∧ (mn = -1 ∨ mn = 261 ∨ mn = 262) ∨ w = 258 ∧ mn = -1 ∧ (∃ k, 1 ≤ k ∧ k ≤ 1000000 ∧ se = nI k) ∨ w = 259 ∧ (mn = -1 ∨ mn = 263)) ∧ (∃ k, k ≤ 1000000 ∧ fi = nI k)
  | .inr (kd, pl) => s ≤ pl ∧ pl ≤ len ∧ (kd = 1 ∨ kd = 2 ∨ kd = 3)
theorem pWhat_good (g : Nat → Int32) {len s : Nat} {w : Int32} (hw : w = 256 ∨ w = 257 ∨ w = 258 ∨ w = 259) (hs : s ≤ len) : wGood len s w (pWhat g len w s) := by
  unfold pWhat
  by_cases w1 : w = 257
  · rw [if_pos w1]
    unfold pToll
    by_cases h1 : tkTok g len s = 1
    · rw [if_pos h1]
      by_cases h2 : 1000000 < tkNum g len s
      · rw [if_pos h2]
        exact ⟨Nat.le_refl _, hs, Or.inr (Or.inl rfl)⟩
      · rw [if_neg h2]
        have h3 := tkNext_le g hs
        have h4 := pManner_good g (s := tkNext g len s) (len := len) 261 262 (by decide) (by decide) h3.2.1
        exact ⟨by omega, h4.2.1, Or.inr (Or.inl ⟨w1, h4.2.2⟩), num_ok h2⟩
    · rw [if_neg h1]
      exact ⟨Nat.le_refl _, hs, Or.inl rfl⟩
  rw [if_neg w1]
  by_cases w2 : w = 258
  · rw [if_pos w2]
    unfold pTimes
    by_cases h1 : tkTok g len s = 1
    · rw [if_pos h1]
      by_cases h2 : 1000000 < tkNum g len s
      · rw [if_pos h2]
        exact ⟨Nat.le_refl _, hs, Or.inr (Or.inl rfl)⟩
      rw [if_neg h2]
      have h3 := tkNext_le g hs
      by_cases h4 : tkTok g len (tkNext g len s) = 47
      · rw [if_pos h4]
        have h5 := tkNext_le g (s := tkNext g len s) (len := len) h3.2.1
        unfold pSecond
        by_cases h6 : tkTok g len (tkNext g len (tkNext g len s)) = 1
        · rw [if_pos h6]
          by_cases h7 : tkNum g len (tkNext g len (tkNext g len s)) < 1 ∨ 1000000 < tkNum g len (tkNext g len (tkNext g len s))
          · rw [if_pos h7]
            exact ⟨by omega, by omega, Or.inr (Or.inl rfl)⟩
          · rw [if_neg h7]
            have h8 := tkNext_le g (s := tkNext g len (tkNext g len s)) (len := len) h5.2.1
            obtain ⟨k, k1, k2⟩ := num_ok (fun z => h7 (Or.inr z))
            refine ⟨by omega, by omega, Or.inr (Or.inr (Or.inl ⟨w2, rfl, k, ?_, k1, k2⟩)), num_ok h2⟩
            apply Classical.byContradiction
            intro z
            apply h7
            left
            rw [k2, show k = 0 by omega]
            decide
        · rw [if_neg h6]
          exact ⟨by omega, by omega, Or.inl rfl⟩
      · rw [if_neg h4]
        exact ⟨by omega, by omega, Or.inl rfl⟩
    · rw [if_neg h1]
      exact ⟨Nat.le_refl _, hs, Or.inl rfl⟩
  rw [if_neg w2]
  by_cases w3 : w = 259
  · rw [if_pos w3]
    have h4 := pManner_good g (s := s) (len := len) 263 263 (by decide) (by decide) hs
    exact ⟨h4.1, h4.2.1, Or.inr (Or.inr (Or.inr ⟨w3, h4.2.2.elim Or.inl (fun z => Or.inr (z.elim id id))⟩)), 0, by omega, rfl⟩
  · rw [if_neg w3]
    exact ⟨Nat.le_refl _, hs, Or.inl ⟨hw.resolve_right (fun z => z.elim w1 (fun z => z.elim w2 w3)), rfl⟩, 0, by omega, rfl⟩
theorem pIf_good (g : Nat → Int32) {len s : Nat} (hs : s ≤ len) : match pIf g len s with
    | .inl (s', c) => 3 * c.length + s ≤ s' ∧ s' ≤ len ∧ (∀ x ∈ c, sOK x) ∧ (c = [] ∨ wk 64 c 0 = some 1)
    | .inr (kd, pl, j) => s ≤ pl ∧ pl ≤ len ∧ 3 * j + s ≤ pl + 69 ∧ (kd = 1 ∨ kd = 2 ∨ kd = 3) := by
  unfold pIf
  by_cases h : tkTok g len s = 260
  · rw [if_pos h]
    have h1 := tk1 g (s := s) (len := len) (by rw [h]; decide)
    have h2 := pAny_good g (pOne_good g 10) (tkNext g len s) h1.2
    generalize pAny g len (pOne g len 10) (tkNext g len s) = q at h2
    rcases q with ⟨s', c⟩ | ⟨kd, pl, j⟩
    · obtain ⟨a1, a2, a3, a4⟩ := h2
      exact ⟨by omega, a2, a3, Or.inr (a4 0 (by omega))⟩
    · obtain ⟨a1, a2, a3, a4⟩ := h2
      exact ⟨by omega, a2, by omega, a4⟩
  · rw [if_neg h]
    exact ⟨by simp, hs, fun x hx => absurd hx (by simp), Or.inl rfl⟩
theorem clause_word {g : Nat → Int32} {len s : Nat} (h : ¬ (tkTok g len s < 256 ∨ 259 < tkTok g len s)) : (tkTok g len s = 256 ∨ tkTok g len s = 257 ∨ tkTok g len s = 258 ∨ tkTok g len s = 259) ∧ s + 4 ≤ tkNext g len s ∧ tkNext g len s ≤ len := by
  obtain ⟨k, hk, e⟩ := tk_rng (a := 256) (b := 259) (by decide) (by decide) (Int32.not_lt.mp (fun z => h (Or.inl z))) (Int32.not_lt.mp (fun z => h (Or.inr z)))
  have h0 : k = 0 ∨ k = 1 ∨ k = 2 ∨ k = 3 := by omega
  rcases h0 with rfl | rfl | rfl | rfl
  · have := tkw g (i := 0) (by decide) rfl e
    simp at this
    exact ⟨Or.inl e, by omega, by omega⟩
  · have := tkw g (i := 1) (by decide) rfl e
    simp at this
    exact ⟨Or.inr (Or.inl e), by omega, by omega⟩
  · have := tkw g (i := 2) (by decide) rfl e
    simp at this
    exact ⟨Or.inr (Or.inr (Or.inl e)), by omega, by omega⟩
  · have := tkw g (i := 3) (by decide) rfl e
    simp at this
    exact ⟨Or.inr (Or.inr (Or.inr e)), by omega, by omega⟩
theorem pClause_good (g : Nat → Int32) {len n s : Nat} (hs : s ≤ len) : match pClause g len n s with
    | .inl (s', p) => 3 * p.2.2.2.2.length + s + 5 ≤ s' ∧ s' ≤ len ∧ cOK p ∧ n < 40
    | .inr (kd, pl, j) => s ≤ pl ∧ pl ≤ len ∧ 3 * j + s ≤ pl + 69 ∧ (kd = 1 ∨ kd = 2 ∨ kd = 3) := by
  unfold pClause
  by_cases h1 : tkTok g len s < 256 ∨ 259 < tkTok g len s
  · rw [if_pos h1]
    exact ⟨Nat.le_refl _, hs, by omega, Or.inl rfl⟩
  rw [if_neg h1]
  by_cases h2 : 40 ≤ n
  · rw [if_pos h2]
    exact ⟨Nat.le_refl _, hs, by omega, Or.inr (Or.inr rfl)⟩
  rw [if_neg h2]
  obtain ⟨h3, h4, h5⟩ := clause_word h1
  have h6 := pWhat_good g h3 h5
  generalize pWhat g len (tkTok g len s) (tkNext g len s) = q at h6
  rcases q with ⟨s1, mn, fi, se⟩ | ⟨kd, pl⟩
  · obtain ⟨a1, a2, a3, a4⟩ := h6
    unfold pTail
    have h7 := pIf_good g a2
    generalize hq : pIf g len s1 = q at h7
    simp only [hq]
    rcases q with ⟨s2, c⟩ | ⟨kd, pl, j⟩
    · obtain ⟨b1, b2, b3, b4⟩ := h7
      by_cases h8 : tkTok g len s2 = 59
      · simp only [if_pos h8]
        have h9 := tk1 g (s := s2) (len := len) (by rw [h8]; decide)
        exact ⟨by omega, h9.2, ⟨a3, a4, b3, b4⟩, by omega⟩
      · simp only [if_neg h8]
        exact ⟨by omega, b2, by omega, Or.inl trivial⟩
    · obtain ⟨b1, b2, b3, b4⟩ := h7
      exact ⟨by omega, b2, by omega, b4⟩
  · obtain ⟨a1, a2, a3⟩ := h6
    exact ⟨by omega, a2, by omega, a3⟩
end RDL

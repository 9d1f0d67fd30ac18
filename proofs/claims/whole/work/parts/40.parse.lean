/-! THE READING OF ACTS, purely -/
section PARSE
/-- a step: word, relation, number -/
abbrev pS : Type := Int32 × Int32 × Int32
/-- what a reading gives: where the next token begins, the steps; or a fault: kind, place, how many steps were told until all was over -/
abbrev pR : Type := (Nat × List pS) ⊕ (Int32 × Nat × Nat)
def pKind (g : Nat → Int32) (len s : Nat) : pR :=
  if tkTok g len s = 61 then (if tkTok g len (tkNext g len s) < 277 ∨ 283 < tkTok g len (tkNext g len s) then .inr (1, tkNext g len s, 0) else .inl (tkNext g len (tkNext g len s), [(276, 61, tkTok g len (tkNext g len s) - 277)])) else .inr (1, s, 0)
def pCmp (g : Nat → Int32) (len : Nat) (w : Int32) (s : Nat) : pR :=
  if tkTok g len s = 61 ∨ tkTok g len s = 60 ∨ tkTok g len s = 62 then (if tkTok g len (tkNext g len s) = 1 then (if 1000000 < tkNum g len (tkNext g len s) then .inr (2, tkNext g len s, 1) else .inl (tkNext g len (tkNext g len s), [(w, tkTok g len s, tkNum g len (tkNext g len s))])) else .inr (1, tkNext g len s, 1)) else .inr (1, s, 0)
def pFact (g : Nat → Int32) (len s : Nat) : pR :=
  if tkTok g len s < 267 ∨ 276 < tkTok g len s then .inr (1, s, 0)
  else if tkTok g len s ≤ 271 then .inl (tkNext g len s, [(tkTok g len s, 61, 1)])
  else if tkTok g len s = 276 then pKind g len (tkNext g len s)
  else pCmp g len (tkTok g len s) (tkNext g len s)
def pLoop (g : Nat → Int32) (len : Nat) (one : Nat → pR) (tv : Int32) : Nat → Nat → List pS → pR
  | 0, s, c => .inl (s, c)
  | f + 1, s, c => if tkTok g len s = tv then (match one (tkNext g len s) with
    | .inl (s', c') => pLoop g len one tv f s' (c ++ c' ++ [(tv, 0, 0)])
    | .inr (kd, pl, j) => .inr (kd, pl, c.length + j + 1)) else .inl (s, c)
def pJoin (g : Nat → Int32) (len : Nat) (one : Nat → pR) (tv : Int32) (s : Nat) : pR := match one s with
  | .inl (s', c) => pLoop g len one tv 2000 s' c
  | .inr e => .inr e
def pAny (g : Nat → Int32) (len : Nat) (one : Nat → pR) (s : Nat) : pR := pJoin g len (pJoin g len one 265) 264 s
def pNot : pR → pR
  | .inl (s', c) => .inl (s', c ++ [(266, 0, 0)])
  | .inr (kd, pl, j) => .inr (kd, pl, j + 1)
def pClose (g : Nat → Int32) (len : Nat) : pR → pR
  | .inl (s', c) => if tkTok g len s' = 41 then .inl (tkNext g len s', c) else .inr (1, s', c.length)
  | .inr e => .inr e
def pOne (g : Nat → Int32) (len : Nat) : Nat → Nat → pR
  | 0, s => if tkTok g len s = 266 ∨ tkTok g len s = 40 then .inr (3, s, 0) else pFact g len s
  | r + 1, s => if tkTok g len s = 266 then pNot (pOne g len r (tkNext g len s)) else if tkTok g len s = 40 then pClose g len (pAny g len (pOne g len r) (tkNext g len s)) else pFact g len s
/-- a step that a reading gives -/
def sOK (x : pS) : Prop := x = (265, 0, 0) ∨ x = (264, 0, 0) ∨ x = (266, 0, 0) ∨ (∃ k, k < 5 ∧ x = (nI (267 + k), 61, 1)) ∨ (∃ k r v, k < 4 ∧ (r = 61 ∨ r = 60 ∨ r = 62) ∧ x = (nI (272 + k), r, v)) ∨ ∃ v, x = (276, 61, v)
/-- how many answers lie on the pile, of hi at most -/
def wk (hi : Nat) : List pS → Nat → Option Nat
  | [], n => some n
  | x :: xs, n => if x.1 = 266 then (if 1 ≤ n then wk hi xs n else none) else if x.1 = 264 ∨ x.1 = 265 then (if 2 ≤ n then wk hi xs (n - 1) else none) else if n < hi then wk hi xs (n + 1) else none
theorem wk_app (hi : Nat) (b : List pS) : ∀ (a : List pS) (n : Nat), wk hi (a ++ b) n = (wk hi a n).bind (wk hi b) := by
  intro a
  induction a with
  | nil => intro n; rfl
  | cons x xs ih =>
    intro n
    rw [List.cons_append, wk, wk]
    by_cases h1 : x.1 = 266
    · rw [if_pos h1, if_pos h1]
      by_cases h2 : 1 ≤ n
      · rw [if_pos h2, if_pos h2, ih]
      · rw [if_neg h2, if_neg h2]; rfl
    rw [if_neg h1, if_neg h1]
    by_cases h2 : x.1 = 264 ∨ x.1 = 265
    · rw [if_pos h2, if_pos h2]
      by_cases h3 : 2 ≤ n
      · rw [if_pos h3, if_pos h3, ih]
      · rw [if_neg h3, if_neg h3]; rfl
    rw [if_neg h2, if_neg h2]
    by_cases h3 : n < hi
    · rw [if_pos h3, if_pos h3, ih]
    · rw [if_neg h3, if_neg h3]; rfl
def pGood (len nd B s : Nat) : pR → Prop
  | .inl (s', c) => 3 * c.length + 1 + s ≤ s' ∧ s' ≤ len ∧ (∀ x ∈ c, sOK x) ∧ ∀ n, n + nd ≤ 64 → wk 64 c n = some (n + 1)
  | .inr (kd, pl, j) => s ≤ pl ∧ pl ≤ len ∧ 3 * j + s ≤ pl + B ∧ (kd = 1 ∨ kd = 2 ∨ kd = 3)
theorem pGood.mono {len nd nd' B B' s s' : Nat} {r : pR} (h : pGood len nd B s r) (h1 : nd ≤ nd') (h2 : B ≤ B') (h3 : s' ≤ s) : pGood len nd' B' s' r := by
  rcases r with ⟨t, c⟩ | ⟨kd, pl, j⟩
  · obtain ⟨a1, a2, a3, a4⟩ := h
    exact ⟨by omega, a2, a3, fun n hn => a4 n (by omega)⟩
  · obtain ⟨a1, a2, a3, a4⟩ := h
    exact ⟨by omega, a2, by omega, a4⟩
theorem tk1 (g : Nat → Int32) {len s : Nat} (h : tkTok g len s ≠ -1) : s + 1 ≤ tkNext g len s ∧ tkNext g len s ≤ len := by
  have h0 := tkTok_lt h
  have h1 := tkEnd_lt g h0
  have h2 := tkNext_le g (Nat.le_of_lt h0)
  omega
theorem tkw (g : Nat → Int32) {len s i : Nat} {w : List Int32} (hi : i < 28) (hw : tWs[i]? = some w) (h : tkTok g len s = nI (256 + i)) : s + w.length ≤ tkNext g len s ∧ tkNext g len s ≤ len := by
  have h0 := (tkTok_word hi h).1
  have h1 := tkTok_len hi hw h
  have h2 := tkNext_le g (Nat.le_of_lt h0)
  omega
theorem tk_bin (g : Nat → Int32) {len s : Nat} {tv : Int32} (ht : tv = 264 ∨ tv = 265) (h : tkTok g len s = tv) : s + 2 ≤ tkNext g len s ∧ tkNext g len s ≤ len := by
  rcases ht with rfl | rfl
  · exact tkw g (i := 8) (by decide) (w := [111, 114]) rfl h
  · have := tkw g (i := 9) (by decide) (w := [97, 110, 100]) rfl h
    simp at this
    omega
/-- a word from the tokens' numbers -/
theorem tk_rng {x : Int32} {a b : Nat} (hab : a ≤ b) (hb : b < 1000) (h1 : nI a ≤ x) (h2 : x ≤ nI b) : ∃ k, a + k ≤ b ∧ x = nI (a + k) := by
  have h0 : ¬ x < 0 := Int32.not_lt.mpr (Int32.le_trans (nI_pos' (n := a) (by omega)) h1)
  obtain ⟨j, h3, h4⟩ := nI_of h0
  subst h4
  have hj : j ≤ b := (nI_leI h3 (by omega)).mp h2
  have := (nI_leI (by omega) h3).mp h1
  exact ⟨j - a, by omega, by congr 1; omega⟩
theorem fact_word {g : Nat → Int32} {len s : Nat} (h1 : ¬ tkTok g len s < 267) (h2 : ¬ 276 < tkTok g len s) : ∃ k, k < 10 ∧ tkTok g len s = nI (267 + k) := by
  obtain ⟨k, hk, e⟩ := tk_rng (a := 267) (b := 276) (by decide) (by decide) (Int32.not_lt.mp h1) (Int32.not_lt.mp h2)
  exact ⟨k, by omega, e⟩
theorem fact_len {g : Nat → Int32} {len s k : Nat} (hk : k < 10) (h : tkTok g len s = nI (267 + k)) : s + 3 ≤ tkNext g len s ∧ tkNext g len s ≤ len ∧ (k < 5 → s + 4 ≤ tkNext g len s) := by
  have h0 : k = 0 ∨ k = 1 ∨ k = 2 ∨ k = 3 ∨ k = 4 ∨ k = 5 ∨ k = 6 ∨ k = 7 ∨ k = 8 ∨ k = 9 := by omega
  have key : ∀ i w, i < 28 → tWs[i]? = some w → tkTok g len s = nI (256 + i) → s + w.length ≤ tkNext g len s ∧ tkNext g len s ≤ len := fun i w hi hw h => tkw g hi hw h
  rcases h0 with rfl | rfl | rfl | rfl | rfl | rfl | rfl | rfl | rfl | rfl
  · have := key 11 _ (by decide) rfl h; simp at this; omega
  · have := key 12 _ (by decide) rfl h; simp at this; omega
  · have := key 13 _ (by decide) rfl h; simp at this; omega
  · have := key 14 _ (by decide) rfl h; simp at this; omega
  · have := key 15 _ (by decide) rfl h; simp at this; omega
  · have := key 16 _ (by decide) rfl h; simp at this; omega
  · have := key 17 _ (by decide) rfl h; simp at this; omega
  · have := key 18 _ (by decide) rfl h; simp at this; omega
  · have := key 19 _ (by decide) rfl h; simp at this; omega
  · have := key 20 _ (by decide) rfl h; simp at this; omega
theorem wk_one {w r v : Int32} (h1 : w ≠ 266) (h2 : w ≠ 264) (h3 : w ≠ 265) : ∀ n, n + 1 ≤ 64 → wk 64 [(w, r, v)] n = some (n + 1) := by
  intro n hn
  simp [wk, h1, h2, h3]
  omega
theorem nI_neq {a b : Nat} (h : a ≠ b) (ha : a < 1000) (hb : b < 1000) : nI a ≠ nI b := fun z => h ((nI_eq (by omega) (by omega)).mp z)
theorem pFact_good (g : Nat → Int32) {len s : Nat} (hs : s ≤ len) : pGood len 1 3 s (pFact g len s) := by
  unfold pFact
  by_cases h1 : tkTok g len s < 267 ∨ 276 < tkTok g len s
  · rw [if_pos h1]
    exact ⟨Nat.le_refl _, hs, by omega, Or.inl rfl⟩
  rw [if_neg h1]
  obtain ⟨k, hk, e⟩ := fact_word (fun z => h1 (Or.inl z)) (fun z => h1 (Or.inr z))
  have hl := fact_len hk e
  have nw : tkTok g len s ≠ 266 ∧ tkTok g len s ≠ 264 ∧ tkTok g len s ≠ 265 := by
    rw [e]
    exact ⟨nI_neq (a := 267 + k) (b := 266) (by omega) (by omega) (by omega), nI_neq (a := 267 + k) (b := 264) (by omega) (by omega) (by omega), nI_neq (a := 267 + k) (b := 265) (by omega) (by omega) (by omega)⟩
  by_cases h2 : tkTok g len s ≤ 271
  · rw [if_pos h2]
    have hk5 : k < 5 := by
      rw [e] at h2
      have := (nI_leI (a := 267 + k) (b := 271) (by omega) (by omega)).mp h2
      omega
    refine ⟨?_, hl.2.1, fun x hx => ?_, wk_one nw.1 nw.2.1 nw.2.2⟩
    · have := hl.2.2 hk5
      simp
      omega
    · rw [List.mem_singleton.mp hx, e]
      exact Or.inr (Or.inr (Or.inr (Or.inl ⟨k, hk5, rfl⟩)))
  rw [if_neg h2]
  by_cases h3 : tkTok g len s = 276
  · rw [if_pos h3]
    have hk9 : k = 9 := by
      rw [e] at h3
      have := (nI_eq (a := 267 + k) (b := 276) (by omega) (by omega)).mp h3
      omega
    subst hk9
    have h4 : s + 4 ≤ tkNext g len s := by
      have := tkw g (i := 20) (by decide) (w := [107, 105, 110, 100]) rfl h3
      simp at this
      omega
    unfold pKind
    by_cases h5 : tkTok g len (tkNext g len s) = 61
    · rw [if_pos h5]
      have h6 := tk1 g (s := tkNext g len s) (len := len) (by rw [h5]; decide)
      by_cases h7 : tkTok g len (tkNext g len (tkNext g len s)) < 277 ∨ 283 < tkTok g len (tkNext g len (tkNext g len s))
      · rw [if_pos h7]
        exact ⟨by omega, by omega, by omega, Or.inl rfl⟩
      · rw [if_neg h7]
        have h8 := tkNext_le g (len := len) (s := tkNext g len (tkNext g len s)) (by omega)
        refine ⟨by simp; omega, by omega, fun x hx => ?_, wk_one (by decide) (by decide) (by decide)⟩
        rw [List.mem_singleton.mp hx]
        exact Or.inr (Or.inr (Or.inr (Or.inr (Or.inr ⟨_, rfl⟩))))
    · rw [if_neg h5]
      exact ⟨by omega, by omega, by omega, Or.inl rfl⟩
  rw [if_neg h3]
  have hk4 : ∃ j, j < 4 ∧ tkTok g len s = nI (272 + j) := by
    have a1 : 5 ≤ k := by
      apply Classical.byContradiction
      intro z
      apply h2
      rw [e]
      exact nI_le (b := 271) (by omega) (by omega)
    have a2 : k ≠ 9 := fun z => h3 (by rw [e, z]; rfl)
    exact ⟨k - 5, by omega, by rw [e]; congr 1; omega⟩
  unfold pCmp
  by_cases h5 : tkTok g len (tkNext g len s) = 61 ∨ tkTok g len (tkNext g len s) = 60 ∨ tkTok g len (tkNext g len s) = 62
  · rw [if_pos h5]
    have h6 := tk1 g (s := tkNext g len s) (len := len) (by rcases h5 with h | h | h <;> rw [h] <;> decide)
    by_cases h7 : tkTok g len (tkNext g len (tkNext g len s)) = 1
    · rw [if_pos h7]
      have h8 := tk1 g (s := tkNext g len (tkNext g len s)) (len := len) (by rw [h7]; decide)
      by_cases h9 : 1000000 < tkNum g len (tkNext g len (tkNext g len s))
      · rw [if_pos h9]
        exact ⟨by omega, by omega, by omega, Or.inr (Or.inl rfl)⟩
      · rw [if_neg h9]
        refine ⟨by simp; omega, by omega, fun x hx => ?_, wk_one nw.1 nw.2.1 nw.2.2⟩
        rw [List.mem_singleton.mp hx]
        obtain ⟨j, hj, e2⟩ := hk4
        rw [e2]
        exact Or.inr (Or.inr (Or.inr (Or.inr (Or.inl ⟨j, _, _, hj, h5, rfl⟩))))
    · rw [if_neg h7]
      exact ⟨by omega, by omega, by omega, Or.inl rfl⟩
  · rw [if_neg h5]
    exact ⟨by omega, by omega, by omega, Or.inl rfl⟩
theorem wk_bin {tv : Int32} (ht : tv = 264 ∨ tv = 265) (n : Nat) (h : 2 ≤ n) : wk 64 [(tv, 0, 0)] n = some (n - 1) := by
  have h1 : tv ≠ 266 := by rcases ht with rfl | rfl <;> decide
  simp [wk, h1, ht, h]
theorem pLoop_good (g : Nat → Int32) {len nd B s0 : Nat} {one : Nat → pR} {tv : Int32} (ht : tv = 264 ∨ tv = 265) (hone : ∀ s, s ≤ len → pGood len nd B s (one s)) : ∀ f s c, 3 * c.length + 1 + s0 ≤ s → s ≤ len → (∀ x ∈ c, sOK x) → (∀ n, n + (nd + 1) ≤ 64 → wk 64 c n = some (n + 1)) → pGood len (nd + 1) (B + 3) s0 (pLoop g len one tv f s c) := by
  intro f
  induction f with
  | zero => intro s c h1 h2 h3 h4; exact ⟨h1, h2, h3, h4⟩
  | succ f ih =>
    intro s c h1 h2 h3 h4
    unfold pLoop
    by_cases h5 : tkTok g len s = tv
    · rw [if_pos h5]
      have h6 := tk_bin g ht h5
      have h7 := hone (tkNext g len s) h6.2
      generalize one (tkNext g len s) = r at h7
      rcases r with ⟨s', c'⟩ | ⟨kd, pl, j⟩
      · obtain ⟨a1, a2, a3, a4⟩ := h7
        refine ih s' _ ?_ a2 ?_ ?_
        · simp
          omega
        · intro x hx
          simp only [List.mem_append, List.mem_singleton] at hx
          rcases hx with (hx | hx) | hx
          · exact h3 x hx
          · exact a3 x hx
          · rcases ht with rfl | rfl
            · exact Or.inr (Or.inl hx)
            · exact Or.inl hx
        · intro n hn
          rw [wk_app, wk_app, h4 n hn]
          show ((wk 64 c' (n + 1)).bind _) = _
          rw [a4 (n + 1) (by omega)]
          show wk 64 [(tv, 0, 0)] (n + 1 + 1) = _
          rw [wk_bin ht _ (by omega)]
          rfl
      · obtain ⟨a1, a2, a3, a4⟩ := h7
        exact ⟨by omega, a2, by omega, a4⟩
    · rw [if_neg h5]
      exact ⟨h1, h2, h3, h4⟩
theorem pJoin_good (g : Nat → Int32) {len nd B : Nat} {one : Nat → pR} {tv : Int32} (ht : tv = 264 ∨ tv = 265) (hone : ∀ s, s ≤ len → pGood len nd B s (one s)) (s : Nat) (hs : s ≤ len) : pGood len (nd + 1) (B + 3) s (pJoin g len one tv s) := by
  unfold pJoin
  have h7 := hone s hs
  generalize one s = r at h7
  rcases r with ⟨s', c'⟩ | ⟨kd, pl, j⟩
  · obtain ⟨a1, a2, a3, a4⟩ := h7
    exact pLoop_good g ht hone 2000 s' c' a1 a2 a3 (fun n hn => a4 n (by omega))
  · exact h7.mono (by omega) (by omega) (Nat.le_refl _)
theorem pAny_good (g : Nat → Int32) {len nd B : Nat} {one : Nat → pR} (hone : ∀ s, s ≤ len → pGood len nd B s (one s)) (s : Nat) (hs : s ≤ len) : pGood len (nd + 2) (B + 6) s (pAny g len one s) :=
  pJoin_good g (nd := nd + 1) (B := B + 3) (Or.inl rfl) (pJoin_good g (Or.inr rfl) hone) s hs
theorem pOne_good (g : Nat → Int32) {len : Nat} : ∀ r s, s ≤ len → pGood len (1 + 2 * r) (3 + 6 * r) s (pOne g len r s) := by
  intro r
  induction r with
  | zero =>
    intro s hs
    unfold pOne
    by_cases h1 : tkTok g len s = 266 ∨ tkTok g len s = 40
    · rw [if_pos h1]
      exact ⟨Nat.le_refl _, hs, by omega, Or.inr (Or.inr rfl)⟩
    · rw [if_neg h1]
      exact pFact_good g hs
  | succ r ih =>
    intro s hs
    unfold pOne
    by_cases h1 : tkTok g len s = 266
    · rw [if_pos h1]
      have h2 := tkw g (i := 10) (by decide) (w := [110, 111, 116]) rfl h1
      simp at h2
      have h3 := ih (tkNext g len s) h2.2
      generalize pOne g len r (tkNext g len s) = q at h3
      rcases q with ⟨s', c'⟩ | ⟨kd, pl, j⟩
      · obtain ⟨a1, a2, a3, a4⟩ := h3
        refine ⟨by simp; omega, a2, fun x hx => ?_, fun n hn => ?_⟩
        · rcases List.mem_append.mp hx with hx | hx
          · exact a3 x hx
          · exact Or.inr (Or.inr (Or.inl (List.mem_singleton.mp hx)))
        · rw [wk_app, a4 n (by omega)]
          show wk 64 [(266, 0, 0)] (n + 1) = _
          simp [wk]
      · obtain ⟨a1, a2, a3, a4⟩ := h3
        exact ⟨by omega, a2, by omega, a4⟩
    rw [if_neg h1]
    by_cases h4 : tkTok g len s = 40
    · rw [if_pos h4]
      have h2 := tk1 g (s := s) (len := len) (by rw [h4]; decide)
      have h3 := pAny_good g ih (tkNext g len s) h2.2
      generalize pAny g len (pOne g len r) (tkNext g len s) = q at h3
      rcases q with ⟨s', c'⟩ | ⟨kd, pl, j⟩
      · obtain ⟨a1, a2, a3, a4⟩ := h3
        unfold pClose
        by_cases h5 : tkTok g len s' = 41
        · simp only [if_pos h5]
          have h6 := tk1 g (s := s') (len := len) (by rw [h5]; decide)
          exact ⟨by omega, h6.2, a3, fun n hn => a4 n (by omega)⟩
        · simp only [if_neg h5]
          exact ⟨by omega, a2, by omega, Or.inl rfl⟩
      · exact h3.mono (by omega) (by omega) (by omega)
    · rw [if_neg h4]
      exact (pFact_good g hs).mono (by omega) (by omega) (Nat.le_refl _)
end PARSE

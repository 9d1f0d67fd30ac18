/-! TOKENS, purely -/
section TOKS
/-- the words of the acts -/
def tWs : List (List Int32) := [[102, 114, 101, 101], [116, 111, 108, 108], [116, 105, 109, 101, 115], [111, 110, 99, 101], [105, 102], [101, 97, 99, 104], [115, 99, 111, 114, 101], [97, 108, 108], [111, 114], [97, 110, 100], [110, 111, 116], [109, 97, 105, 108], [97, 114, 109, 121], [99, 104, 117, 114, 99, 104], [102, 97, 114, 109], [98, 97, 99, 107], [119, 104, 101, 101, 108, 115], [98, 101, 97, 115, 116, 115], [103, 97, 116, 101], [100, 97, 121], [107, 105, 110, 100], [99, 111, 97, 99, 104], [99, 97, 114, 116], [119, 97, 103, 111, 110], [104, 111, 114, 115, 101], [99, 97, 116, 116, 108, 101], [115, 104, 101, 101, 112], [102, 111, 111, 116]]
def wl (g : Nat → Int32) (st ti : Nat) : List Int32 → Int32 → Nat → Int32 → Int32
  | [], _, _, _ => 2
  | c :: cs, wd, t, al => if c = 32 then (if al = 0 then wl g st ti cs (wd + 1) st 1 else if t = ti then wd else wl g st ti cs (wd + 1) st 1) else wl g st ti cs wd (t + 1) (if al = 0 then 0 else if ti ≤ t then 0 else if g t &&& 255 = c then 1 else 0)
theorem wordIn_wl (g : Nat → Int32) (len st ti : Nat) : ∀ (l : List Int32) (i : Nat) (wd : Int32) (t : Nat) (al : Int32), (∀ j, j < l.length → sCh 2 (i + j) = l.getD j 0) → wordIn g len st ti l.length i wd t al = wl g st ti l wd t al := by
  intro l
  induction l with
  | nil => intro i wd t al _; rfl
  | cons c cs ih =>
    intro i wd t al h
    have h0 := h 0 (by simp)
    simp only [Nat.add_zero, List.getD_cons_zero] at h0
    have h1 : ∀ j, j < cs.length → sCh 2 (i + 1 + j) = cs.getD j 0 := fun j hj => by
      have := h (j + 1) (by simp; omega)
      rw [show i + 1 + j = i + (j + 1) by omega, this]
      simp
    rw [List.length_cons, wordIn, wl, h0]
    rw [ih (i + 1) _ _ _ h1, ih (i + 1) _ _ _ h1]
theorem wl_word (g : Nat → Int32) (st ti : Nat) (rest : List Int32) : ∀ (w : List Int32) (wd : Int32) (t : Nat) (al : Int32), (∀ c ∈ w, c ≠ 32) → wl g st ti (w ++ 32 :: rest) wd t al = if al ≠ 0 ∧ t + w.length = ti ∧ (∀ j, j < w.length → g (t + j) &&& 255 = w.getD j 0) then wd else wl g st ti rest (wd + 1) st 1 := by
  intro w
  induction w with
  | nil =>
    intro wd t al _
    rw [List.nil_append, wl, if_pos rfl]
    by_cases ha : al = 0
    · rw [if_pos ha, if_neg (fun z => z.1 ha)]
    · rw [if_neg ha]
      by_cases ht : t = ti
      · rw [if_pos ht, if_pos ⟨ha, by simpa using ht, fun j hj => absurd hj (by simp)⟩]
      · rw [if_neg ht, if_neg (fun z => ht (by simpa using z.2.1))]
  | cons c cs ih =>
    intro wd t al h
    have hc : c ≠ 32 := h c List.mem_cons_self
    rw [List.cons_append, wl, if_neg hc, ih _ _ _ (fun x hx => h x (List.mem_cons_of_mem _ hx))]
    by_cases ha : al = 0
    · rw [if_pos ha, if_neg (fun z => z.1 rfl), if_neg (fun z => z.1 ha)]
    rw [if_neg ha]
    by_cases ht : ti ≤ t
    · rw [if_pos ht, if_neg (fun z => z.1 rfl), if_neg (fun z => by have := z.2.1; simp at this; omega)]
    rw [if_neg ht]
    by_cases hg : g t &&& 255 = c
    · rw [if_pos hg]
      have e : ((1 : Int32) ≠ 0 ∧ t + 1 + cs.length = ti ∧ ∀ j, j < cs.length → g (t + 1 + j) &&& 255 = cs.getD j 0) ↔ (al ≠ 0 ∧ t + (c :: cs).length = ti ∧ ∀ j, j < (c :: cs).length → g (t + j) &&& 255 = (c :: cs).getD j 0) := by
        constructor
        · rintro ⟨-, h2, h3⟩
          refine ⟨ha, by simp; omega, fun j hj => ?_⟩
          cases j with
          | zero => simpa using hg
          | succ j =>
            have := h3 j (by simp at hj; omega)
            rw [show t + (j + 1) = t + 1 + j by omega, this]
            simp
        · rintro ⟨-, h2, h3⟩
          refine ⟨by decide, by simp at h2; omega, fun j hj => ?_⟩
          have := h3 (j + 1) (by simp; omega)
          rw [show t + (j + 1) = t + 1 + j by omega] at this
          rw [this]
          simp
      by_cases hh : al ≠ 0 ∧ t + (c :: cs).length = ti ∧ ∀ j, j < (c :: cs).length → g (t + j) &&& 255 = (c :: cs).getD j 0
      · rw [if_pos (e.mpr hh), if_pos hh]
      · rw [if_neg (fun z => hh (e.mp z)), if_neg hh]
    · rw [if_neg hg, if_neg (fun z => z.1 rfl), if_neg (fun z => hg (by simpa using z.2.2 0 (by simp)))]
/-- the bytes from st till ti -/
def runL (g : Nat → Int32) (st ti : Nat) : List Int32 := (List.range (ti - st)).map (fun j => g (st + j) &&& 255)
theorem runL_iff (g : Nat → Int32) {st ti : Nat} (h : st ≤ ti) (w : List Int32) : runL g st ti = w ↔ st + w.length = ti ∧ ∀ j, j < w.length → g (st + j) &&& 255 = w.getD j 0 := by
  constructor
  · intro e
    subst e
    refine ⟨by simp [runL]; omega, fun j hj => ?_⟩
    have hj2 : j < ti - st := by simpa [runL] using hj
    simp [runL, List.getD, hj2]
  · rintro ⟨h1, h2⟩
    apply List.ext_getElem
    · simp [runL]; omega
    · intro j h3 h4
      have := h2 j h4
      simp [runL, List.getD, h4] at this ⊢
      exact this
def wlk (r : List Int32) : List (List Int32) → Nat → Int32
  | [], _ => 2
  | w :: ws, k => if r = w then nI k else wlk r ws (k + 1)
theorem wl_wlk (g : Nat → Int32) {st ti : Nat} (h : st ≤ ti) : ∀ (ws : List (List Int32)) (k : Nat), (∀ w ∈ ws, ∀ c ∈ w, c ≠ 32) → wl g st ti (ws.flatMap (fun w => w ++ [32])) (nI k) st 1 = wlk (runL g st ti) ws k := by
  intro ws
  induction ws with
  | nil => intro k _; rfl
  | cons w ws ih =>
    intro k hw
    rw [List.flatMap_cons, List.append_assoc, List.singleton_append, wl_word g st ti _ w _ _ _ (hw w List.mem_cons_self), wlk, nI_1, ih (k + 1) (fun x hx => hw x (List.mem_cons_of_mem _ hx))]
    have e := runL_iff g h w
    by_cases hr : runL g st ti = w
    · rw [if_pos hr, if_pos ⟨by decide, e.mp hr⟩]
    · rw [if_neg hr, if_neg (fun z => hr (e.mpr z.2))]
theorem tWs_txt : sLen 2 = (tWs.flatMap (fun w => w ++ [32])).length ∧ (∀ j, j < (tWs.flatMap (fun w => w ++ [32])).length → sCh 2 (0 + j) = (tWs.flatMap (fun w => w ++ [32])).getD j 0) ∧ (∀ w ∈ tWs, ∀ c ∈ w, c ≠ 32) ∧ (∀ w ∈ tWs, ∀ c ∈ w, 97 ≤ c ∧ c ≤ 122) := by decide +kernel
theorem word_eq (g : Nat → Int32) (len : Nat) {st ti : Nat} (h : st ≤ ti) : wordIn g len st ti (sLen 2) 0 256 st 1 = wlk (runL g st ti) tWs 256 := by
  rw [tWs_txt.1, wordIn_wl g len st ti _ 0 256 st 1 tWs_txt.2.1]
  exact wl_wlk g h tWs 256 tWs_txt.2.2.1
theorem wlk_ge (r : List Int32) : ∀ (ws : List (List Int32)) (k : Nat), wlk r ws k = 2 ∨ ∃ j, j < ws.length ∧ wlk r ws k = nI (k + j) ∧ ws[j]? = some r := by
  intro ws
  induction ws with
  | nil => intro k; exact Or.inl rfl
  | cons w ws ih =>
    intro k
    rw [wlk]
    by_cases hr : r = w
    · rw [if_pos hr]
      exact Or.inr ⟨0, by simp, rfl, by simp [hr]⟩
    · rw [if_neg hr]
      rcases ih (k + 1) with h | ⟨j, h1, h2, h3⟩
      · exact Or.inl h
      · exact Or.inr ⟨j + 1, by simp; omega, by rw [h2]; congr 1; omega, by simpa using h3⟩
theorem wlk_at (r : List Int32) : ∀ (ws : List (List Int32)) (k i : Nat), ws.Nodup → ws[i]? = some r → wlk r ws k = nI (k + i) := by
  intro ws
  induction ws with
  | nil => intro k i _ h; simp at h
  | cons w ws ih =>
    intro k i hn h
    rw [wlk]
    cases i with
    | zero =>
      have : w = r := by simpa using h
      rw [if_pos this.symm]
      rfl
    | succ i =>
      have h2 : ws[i]? = some r := by simpa using h
      have hne : ¬ r = w := fun z => (List.nodup_cons.mp hn).1 (z ▸ List.mem_of_getElem? h2)
      rw [if_neg hne, ih (k + 1) i (List.nodup_cons.mp hn).2 h2]
      congr 1
      omega
theorem tWs_nodup : tWs.Nodup := by decide +kernel
theorem tWs_len : tWs.length = 28 := rfl
/-- the i-th word is the one that is read -/
theorem wlk_iff (r : List Int32) {i : Nat} (hi : i < 28) : wlk r tWs 256 = nI (256 + i) ↔ tWs[i]? = some r := by
  constructor
  · intro h
    rcases wlk_ge r tWs 256 with h2 | ⟨j, h1, h2, h3⟩
    · rw [h2] at h
      exact absurd ((nI_eq (a := 2) (by omega) (by omega)).mp h) (by omega)
    · rw [h2] at h
      rw [tWs_len] at h1
      have := (nI_eq (by omega) (by omega)).mp h
      rw [show i = j by omega]
      exact h3
  · exact wlk_at r tWs 256 i tWs_nodup
theorem skipL_spec (g : Nat → Int32) : ∀ m k, k ≤ skipL g m k ∧ skipL g m k ≤ k + m ∧ (∀ j, k ≤ j → j < skipL g m k → 97 ≤ g j &&& 255 ∧ g j &&& 255 ≤ 122) ∧ (skipL g m k < k + m → ¬ (97 ≤ g (skipL g m k) &&& 255 ∧ g (skipL g m k) &&& 255 ≤ 122)) := by
  intro m
  induction m with
  | zero => intro k; exact ⟨Nat.le_refl _, Nat.le_refl _, fun j h1 h2 => absurd h2 (by unfold skipL; omega), fun h => absurd h (by unfold skipL; omega)⟩
  | succ m ih =>
    intro k
    unfold skipL
    by_cases h : 97 ≤ g k &&& 255 ∧ g k &&& 255 ≤ 122
    · rw [if_pos h]
      obtain ⟨a1, a2, a3, a4⟩ := ih (k + 1)
      refine ⟨by omega, by omega, fun j h1 h2 => ?_, fun h1 => a4 (by omega)⟩
      by_cases hj : j = k
      · rw [hj]; exact h
      · exact a3 j (by omega) h2
    · rw [if_neg h]
      exact ⟨Nat.le_refl _, by omega, fun j h1 h2 => absurd h2 (by omega), fun _ => h⟩
theorem skipB_spec (g : Nat → Int32) (len : Nat) : ∀ m k, k ≤ skipB g len m k ∧ skipB g len m k ≤ k + m ∧ (∀ j, k ≤ j → j < skipB g len m k → g j &&& 255 = 32 ∨ g j &&& 255 = 10) ∧ (skipB g len m k < k + m → ¬ (g (skipB g len m k) &&& 255 = 32 ∨ g (skipB g len m k) &&& 255 = 10)) := by
  intro m
  induction m with
  | zero => intro k; exact ⟨Nat.le_refl _, Nat.le_refl _, fun j h1 h2 => absurd h2 (by unfold skipB; omega), fun h => absurd h (by unfold skipB; omega)⟩
  | succ m ih =>
    intro k
    unfold skipB
    by_cases h : g k &&& 255 = 32 ∨ g k &&& 255 = 10
    · rw [if_pos h]
      obtain ⟨a1, a2, a3, a4⟩ := ih (k + 1)
      refine ⟨by omega, by omega, fun j h1 h2 => ?_, fun h1 => a4 (by omega)⟩
      by_cases hj : j = k
      · rw [hj]; exact h
      · exact a3 j (by omega) h2
    · rw [if_neg h]
      exact ⟨Nat.le_refl _, by omega, fun j h1 h2 => absurd h2 (by omega), fun _ => h⟩
theorem numB_le (g : Nat → Int32) : ∀ m k v, k ≤ (numB g m k v).1 ∧ (numB g m k v).1 ≤ k + m := by
  intro m
  induction m with
  | zero => intro k v; exact ⟨Nat.le_refl _, Nat.le_refl _⟩
  | succ m ih =>
    intro k v
    unfold numB
    by_cases h : 48 ≤ g k &&& 255 ∧ g k &&& 255 ≤ 57
    · rw [if_pos h]
      have := ih (k + 1) (if 1000001 < v * 10 + (g k &&& 255) - 48 then 1000001 else v * 10 + (g k &&& 255) - 48)
      omega
    · rw [if_neg h]
      exact ⟨Nat.le_refl _, by omega⟩
/-- behind the blanks -/
def tkStart (g : Nat → Int32) (len k : Nat) : Nat := skipB g len (len - k) k
/-- the token that begins at s -/
def tkTok (g : Nat → Int32) (len s : Nat) : Int32 := if len ≤ s then -1 else if 97 ≤ g s &&& 255 ∧ g s &&& 255 ≤ 122 then wlk (runL g s (skipL g (len - s) s)) tWs 256 else if 48 ≤ g s &&& 255 ∧ g s &&& 255 ≤ 57 then 1 else if sFind 3 (g s &&& 255).toInt8.toInt32 (sLen 3) 0 < 0 then 2 else g s &&& 255
def tkEnd (g : Nat → Int32) (len s : Nat) : Nat := if len ≤ s then s else if 97 ≤ g s &&& 255 ∧ g s &&& 255 ≤ 122 then skipL g (len - s) s else if 48 ≤ g s &&& 255 ∧ g s &&& 255 ≤ 57 then (numB g (len - s) s 0).1 else s + 1
def tkNum (g : Nat → Int32) (len s : Nat) : Int32 := (numB g (len - s) s 0).2
def tkNext (g : Nat → Int32) (len s : Nat) : Nat := tkStart g len (tkEnd g len s)
theorem tkStart_le (g : Nat → Int32) {len k : Nat} (h : k ≤ len) : k ≤ tkStart g len k ∧ tkStart g len k ≤ len := by
  have := skipB_spec g len (len - k) k
  unfold tkStart
  omega
theorem tkEnd_le (g : Nat → Int32) {len s : Nat} (h : s ≤ len) : s ≤ tkEnd g len s ∧ tkEnd g len s ≤ len := by
  unfold tkEnd
  by_cases h1 : len ≤ s
  · rw [if_pos h1]; omega
  rw [if_neg h1]
  by_cases h2 : 97 ≤ g s &&& 255 ∧ g s &&& 255 ≤ 122
  · rw [if_pos h2]
    have := skipL_spec g (len - s) s
    omega
  rw [if_neg h2]
  by_cases h3 : 48 ≤ g s &&& 255 ∧ g s &&& 255 ≤ 57
  · rw [if_pos h3]
    have := numB_le g (len - s) s 0
    omega
  · rw [if_neg h3]; omega
theorem tkNext_le (g : Nat → Int32) {len s : Nat} (h : s ≤ len) : tkEnd g len s ≤ tkNext g len s ∧ tkNext g len s ≤ len ∧ s ≤ tkNext g len s := by
  have h1 := tkEnd_le g h
  have h2 := tkStart_le g h1.2
  unfold tkNext
  omega
/-- a token that is there has a byte at least -/
theorem tkEnd_lt (g : Nat → Int32) {len s : Nat} (h : s < len) : s < tkEnd g len s := by
  unfold tkEnd
  rw [if_neg (by omega)]
  by_cases h2 : 97 ≤ g s &&& 255 ∧ g s &&& 255 ≤ 122
  · rw [if_pos h2]
    rw [show len - s = (len - s - 1) + 1 by omega]
    unfold skipL
    rw [if_pos h2]
    have := skipL_spec g (len - s - 1) (s + 1)
    omega
  rw [if_neg h2]
  by_cases h3 : 48 ≤ g s &&& 255 ∧ g s &&& 255 ≤ 57
  · rw [if_pos h3]
    rw [show len - s = (len - s - 1) + 1 by omega]
    unfold numB
    rw [if_pos h3]
    have := numB_le g (len - s - 1) (s + 1)
    exact Nat.lt_of_lt_of_le (Nat.lt_succ_self s) (this _).1
  · rw [if_neg h3]; omega
theorem nI_nn (x : Int32) (h0 : 0 ≤ x) (h : x ≤ 255) : ∃ j : Nat, j ≤ 255 ∧ x = nI j := by
  obtain ⟨j, h1, h2⟩ := nI_of2 (M := 255) (n := 255) rfl (Int32.not_lt.mpr h0) h
  exact ⟨j, h1, h2⟩
/-- what a token that is a word looks like -/
theorem tkTok_word {g : Nat → Int32} {len s i : Nat} (hi : i < 28) (h : tkTok g len s = nI (256 + i)) : s < len ∧ (97 ≤ g s &&& 255 ∧ g s &&& 255 ≤ 122) ∧ tWs[i]? = some (runL g s (skipL g (len - s) s)) ∧ tkEnd g len s = skipL g (len - s) s := by
  unfold tkTok at h
  by_cases h1 : len ≤ s
  · rw [if_pos h1] at h
    have : nI (256 + i) < 0 := by rw [← h]; decide
    exact absurd this (nI_pos (by omega))
  rw [if_neg h1] at h
  by_cases h2 : 97 ≤ g s &&& 255 ∧ g s &&& 255 ≤ 122
  · rw [if_pos h2] at h
    refine ⟨by omega, h2, (wlk_iff _ hi).mp h, ?_⟩
    unfold tkEnd
    rw [if_neg h1, if_pos h2]
  rw [if_neg h2] at h
  exfalso
  by_cases h3 : 48 ≤ g s &&& 255 ∧ g s &&& 255 ≤ 57
  · rw [if_pos h3] at h
    exact absurd ((nI_eq (a := 1) (by omega) (by omega)).mp h) (by omega)
  rw [if_neg h3] at h
  by_cases h4 : sFind 3 (g s &&& 255).toInt8.toInt32 (sLen 3) 0 < 0
  · rw [if_pos h4] at h
    exact absurd ((nI_eq (a := 2) (by omega) (by omega)).mp h) (by omega)
  · rw [if_neg h4] at h
    obtain ⟨j, h5, h6⟩ := nI_nn _ (and255 (g s)).1 (and255 (g s)).2
    rw [h6] at h
    exact absurd ((nI_eq (by omega) (by omega)).mp h) (by omega)
/-- how long a word is -/
theorem tkTok_len {g : Nat → Int32} {len s i : Nat} {w : List Int32} (hi : i < 28) (hw : tWs[i]? = some w) (h : tkTok g len s = nI (256 + i)) : tkEnd g len s = s + w.length := by
  obtain ⟨h1, h2, h3, h4⟩ := tkTok_word hi h
  rw [hw] at h3
  have e : w = runL g s (skipL g (len - s) s) := Option.some.inj h3
  have := skipL_spec g (len - s) s
  rw [h4, e]
  simp [runL]
  omega
theorem tkTok_lt {g : Nat → Int32} {len s : Nat} (h : tkTok g len s ≠ -1) : s < len := by
  apply Classical.byContradiction
  intro h1
  unfold tkTok at h
  rw [if_pos (by omega)] at h
  exact h rfl
theorem tkTok_end {g : Nat → Int32} {len s : Nat} (h : tkTok g len s = -1) : len ≤ s := by
  apply Classical.byContradiction
  intro h1
  unfold tkTok at h
  rw [if_neg h1] at h
  by_cases h2 : 97 ≤ g s &&& 255 ∧ g s &&& 255 ≤ 122
  · rw [if_pos h2] at h
    rcases wlk_ge (runL g s (skipL g (len - s) s)) tWs 256 with h3 | ⟨j, h3, h4, -⟩
    · rw [h3] at h; exact absurd h (by decide)
    · rw [h4] at h
      rw [tWs_len] at h3
      exact absurd (show nI (256 + j) < 0 by rw [h]; decide) (nI_pos (by omega))
  rw [if_neg h2] at h
  by_cases h3 : 48 ≤ g s &&& 255 ∧ g s &&& 255 ≤ 57
  · rw [if_pos h3] at h; exact absurd h (by decide)
  rw [if_neg h3] at h
  by_cases h4 : sFind 3 (g s &&& 255).toInt8.toInt32 (sLen 3) 0 < 0
  · rw [if_pos h4] at h; exact absurd h (by decide)
  · rw [if_neg h4] at h
    have := (and255 (g s)).1
    rw [h] at this
    exact absurd this (by decide)
end TOKS

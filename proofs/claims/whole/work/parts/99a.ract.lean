/-! THE REFERENCE: act -/
section RACT
variable {Z : tk_Z} {d mc ms : Nat} {QR : tk_R} {len m : Nat} {g : Nat → Int32} {B : bS} {V V1 V2 : vR} {ρ : Nat → Nat} {S : tk_S} {R : Nat → Nat}
def stepsOf : List pC → Nat
  | [] => 0
  | p :: ps => p.2.2.2.2.length + stepsOf ps
def jA : (List pC) ⊕ (Int32 × Nat × Nat) → Nat
  | .inl ps => stepsOf ps
  | .inr (_, _, j) => j
theorem stepsOf_app (a b : List pC) : stepsOf (a ++ b) = stepsOf a + stepsOf b := by
  induction a with
  | nil => simp [stepsOf]
  | cons x xs ih => simp [stepsOf, ih]; omega
theorem pActs_jA (g : Nat → Int32) {len : Nat} : ∀ f n s, s ≤ len → 3 * jA (pActs g len f n s) + s ≤ len + 69 ∧ (∀ kd pl j, pActs g len f n s = .inr (kd, pl, j) → (kd = 1 ∨ kd = 2 ∨ kd = 3) ∧ pl ≤ len) := by
  intro f
  induction f with
  | zero => intro n s hs; exact ⟨by simp [pActs, jA, stepsOf]; omega, fun kd pl j h => by simp [pActs] at h⟩
  | succ f ih =>
    intro n s hs
    rw [pActs]
    by_cases ht : tkTok g len s = -1
    · rw [if_pos ht]
      exact ⟨by simp [jA, stepsOf]; omega, fun kd pl j h => by cases h⟩
    · rw [if_neg ht]
      have hc := pClause_good g (n := n) hs
      rcases hq : pClause g len n s with ⟨s', p⟩ | ⟨kd, pl, j⟩
      · rw [hq] at hc
        obtain ⟨a1, a2, a3, a4⟩ := hc
        obtain ⟨i1, i2⟩ := ih (n + 1) s' a2
        dsimp only
        rcases hr : pActs g len f (n + 1) s' with ps | ⟨kd, pl, j⟩
        · rw [hr] at i1
          exact ⟨by simp only [jA, stepsOf] at i1 ⊢; omega, fun kd pl j h => by cases h⟩
        · rw [hr] at i1 i2
          refine ⟨by simp only [jA] at i1 ⊢; omega, fun kd2 pl2 j2 h => ?_⟩
          cases h
          exact i2 kd pl j rfl
      · rw [hq] at hc
        obtain ⟨a1, a2, a3, a4⟩ := hc
        exact ⟨by simp only [jA]; omega, fun kd2 pl2 j2 h => by cases h; exact ⟨a4, a2⟩⟩
/-- what the reading of an act leaves alone: clauses ahead of w, steps ahead of k -/
def qlA (V V' : vR) (k w : Nat) : Prop := (∀ i, i ≠ 4 → i ≠ 5 → i ≠ 6 → i ≠ 7 → i ≠ 17 → vI V' i = vI V i) ∧ vJ V' = vJ V ∧ (∀ i, i < 10 ∨ 16 < i → vA V' i = vA V i) ∧ vL V' = vL V ∧ (∀ j, j < k → vA V' 15 j = vA V 15 j ∧ vA V' 16 j = vA V 16 j) ∧ ∀ i j, 10 ≤ i → i ≤ 14 → j < w → vA V' i j = vA V i j
theorem qlA.rfl' {k w : Nat} : qlA V V k w := ⟨fun _ _ _ _ _ _ => rfl, rfl, fun _ _ => rfl, rfl, fun _ _ => ⟨rfl, rfl⟩, fun _ _ _ _ _ => rfl⟩
theorem qlA.step {k k' w w' : Nat} (h : qlA V V1 k w) (h2 : qlF V1 V2 k' w') (hk : k ≤ k') (hw : w ≤ w') : qlA V V2 k w := ⟨fun i a b c d e => (h2.1 i a b c d e).trans (h.1 i a b c d e), h2.2.1.trans h.2.1, fun i a => (h2.2.2.1 i a).trans (h.2.2.1 i a), h2.2.2.2.1.trans h.2.2.2.1, fun j hj => ⟨(h2.2.2.2.2.1 j (by omega)).1.trans (h.2.2.2.2.1 j hj).1, (h2.2.2.2.2.1 j (by omega)).2.trans (h.2.2.2.2.1 j hj).2⟩, fun i j a b c => (h2.2.2.2.2.2 i j a b (by omega)).trans (h.2.2.2.2.2 i j a b c)⟩
theorem qlA.stepI {k w i : Nat} {v : Int32} (h : qlA V V1 k w) (hi : i = 4 ∨ i = 5 ∨ i = 6 ∨ i = 7 ∨ i = 17) : qlA V (wI V1 i v) k w := h.step (k' := k) (w' := w) (qlF.of (pF.ofI hi)) (Nat.le_refl _) (Nat.le_refl _)
theorem clIn.ext {off w : Nat} {p : pC} (h : clIn V off w p) (h1 : ∀ i, 10 ≤ i → i ≤ 14 → vA V1 i w = vA V i w) (h2 : ∀ j, j < off + p.2.2.2.2.length → vA V1 15 j = vA V 15 j ∧ vA V1 16 j = vA V 16 j) : clIn V1 off w p := by
  obtain ⟨a1, a2, a3, a4, a5, a6⟩ := h
  exact ⟨(h1 10 (by omega) (by omega)).trans a1, fun z => (h1 11 (by omega) (by omega)).trans (a2 z), fun z => (h1 12 (by omega) (by omega)).trans (a3 z), (h1 13 (by omega) (by omega)).trans a4, (h1 14 (by omega) (by omega)).trans a5, a6.mono h2 (Nat.le_refl _)⟩
/-- the acts as the reference tells them -/
def actsV (V : vR) (acts : List pA) (k : Nat) : Prop := vI V 18 = nI acts.length ∧ acts.length ≤ 12 ∧ vI V 17 = nI k ∧ ∀ a A, acts[a]? = some A → vA V 9 a = A.1 ∧ vA V 8 a = nI A.2.length ∧ A.2.length ≤ 40 ∧ ∀ i p, A.2[i]? = some p → ∃ off, off + p.2.2.2.2.length ≤ k ∧ clIn V off (40 * a + i) p
/-- what act leaves alone -/
def aF (V V' : vR) : Prop := (∀ i, 7 < i → i ≠ 17 → i ≠ 18 → vI V' i = vI V i) ∧ vJ V' = vJ V ∧ (∀ i, i < 8 ∨ 16 < i → vA V' i = vA V i) ∧ vL V' = vL V
def actQ (B : bS) (m cl hw k : Nat) (QR : tk_R) (V : vR) (acts : List pA) (day : Int32) (T : Nat) : (List pC) ⊕ (Int32 × Nat × Nat) → Prop
  | .inl ps => ∀ V', aF V V' → vI V' 0 = 0 → vI V' 2 = 0 → vI V' 6 = -1 → actsV V' (acts ++ [(day, ps)]) (k + T) → okV B m (rLk (cp 400 (max hw (k + T))) cl) QR (some (.int (nI acts.length))) V'
  | .inr (kd, pl, _) => ∀ V', aF V V' → vI V' 0 = 0 → vI V' 2 = 0 → vI V' 6 = nI pl → actsV V' acts k → okV B m (rLk (cp 400 (max hw (k + T))) cl) QR (some (.int (kd - 10))) V'
def appA (ps0 : List pC) (j0 : Nat) : (List pC) ⊕ (Int32 × Nat × Nat) → (List pC) ⊕ (Int32 × Nat × Nat)
  | .inl ps => .inl (ps0 ++ ps)
  | .inr (kd, pl, j) => .inr (kd, pl, j0 + j)
end RACT

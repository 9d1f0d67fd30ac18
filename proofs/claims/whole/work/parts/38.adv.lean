/-! THE READER: advance -/
section ADVANCE
variable {Z : tk_Z} {d mc ms : Nat} {S : tk_S} {QR : tk_R}
theorem skipB_le (g : Nat → Int32) (len : Nat) : ∀ m k, skipB g len m k ≤ k + m := by
  intro m
  induction m with
  | zero => intro k; exact Nat.le_refl _
  | succ m ih =>
    intro k
    unfold skipB
    by_cases h : g k &&& 255 = 32 ∨ g k &&& 255 = 10
    · rw [if_pos h]
      have := ih (k + 1)
      omega
    · rw [if_neg h]
      omega
theorem skipL_le (g : Nat → Int32) : ∀ m k, skipL g m k ≤ k + m ∧ k ≤ skipL g m k := by
  intro m
  induction m with
  | zero => intro k; exact ⟨Nat.le_refl _, Nat.le_refl _⟩
  | succ m ih =>
    intro k
    unfold skipL
    by_cases h : 97 ≤ g k &&& 255 ∧ g k &&& 255 ≤ 122
    · rw [if_pos h]
      have := ih (k + 1)
      omega
    · rw [if_neg h]
      omega
theorem s_I_id (S : tk_S) (c k a : Nat) : s_I S c k a (q_I S c k a) = S := by
  have : tk_up3 (q_I S) c k a (q_I S c k a) = q_I S := by
    funext x y z
    unfold tk_up3
    by_cases h : x = c ∧ y = k ∧ z = a
    · rw [if_pos h, h.1, h.2.1, h.2.2]
    · rw [if_neg h]
  unfold s_I
  rw [this]
  rfl
end ADVANCE

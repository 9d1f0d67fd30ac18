/-! THE REFERENCE'S act over its outcome; the law's turns without a wrapper -/
section RQA
variable {Z : tk_Z} {d mc ms c : Nat} {QR : tk_R} {m hw k : Nat} {B : bS} {V : vR} {ρ : Nat → Nat} {S : tk_S} {R : Nat → Nat} {M : Mt}
/-- how far the reference's steps reach behind an act, and how many count -/
def actK (M : Mt) (n0 day : Int32) (hw k : Nat) : Nat × Nat := if ((0 ≤ n0 ∧ n0 ≤ nI M.1.1) ∧ (0 ≤ day ∧ day ≤ 9999)) ∧ M.2.1.length < 12 then (max hw (k + jA (pActs M.1.2.1 n0.toNatClampNeg 2000 0 (tkStart M.1.2.1 n0.toNatClampNeg 0))), match pActs M.1.2.1 n0.toNatClampNeg 2000 0 (tkStart M.1.2.1 n0.toNatClampNeg 0) with
  | .inl ps => k + stepsOf ps
  | .inr _ => k) else (hw, k)
theorem actK_ok {n0 day : Int32} (hB : BD M) (hk : k ≤ hw) (hhw : hw ≤ 8970) (hk2 : k ≤ 690 * M.2.1.length) : (actK M n0 day hw k).2 ≤ 690 * (o_act M n0 day).2.2.2.1.length ∧ (actK M n0 day hw k).2 ≤ (actK M n0 day hw k).1 ∧ (actK M n0 day hw k).1 ≤ 8970 ∧ hw ≤ (actK M n0 day hw k).1 := by
  unfold actK o_act
  by_cases h1 : (0 ≤ n0 ∧ n0 ≤ nI M.1.1) ∧ (0 ≤ day ∧ day ≤ 9999)
  · by_cases h2 : M.2.1.length < 12
    · rw [if_pos ⟨h1, h2⟩, if_neg (fun z => z h1), if_neg (Nat.not_le.mpr h2)]
      have b1 := hB.tn
      obtain ⟨n, hn, rfl⟩ := nI_of (x := n0) (Int32.not_lt.mpr h1.1.1)
      have hn2 : n ≤ M.1.1 := (nI_leI hn (by omega)).mp h1.1.2
      rw [nI_clamp (by omega)]
      have hs := (tkStart_le M.1.2.1 (Nat.zero_le n)).2
      have hj := (pActs_jA M.1.2.1 2000 0 _ hs).1
      generalize pActs M.1.2.1 n 2000 0 (tkStart M.1.2.1 n 0) = P at hj ⊢
      rcases P with ps | ⟨kd, pl, jj⟩
      · simp only [jA] at hj ⊢
        refine ⟨?_, by omega, by omega, by omega⟩
        show k + stepsOf ps ≤ 690 * (M.2.1 ++ [(day, ps)]).length
        rw [List.length_append, List.length_singleton]
        omega
      · simp only [jA] at hj ⊢
        refine ⟨hk2, by omega, by omega, by omega⟩
    · rw [if_neg (fun z => h2 z.2), if_neg (fun z => z h1), if_pos (Nat.le_of_not_lt h2)]
      exact ⟨hk2, hk, hhw, Nat.le_refl _⟩
  · rw [if_neg (fun z => h1 z.1), if_pos h1]
    exact ⟨hk2, hk, hhw, Nat.le_refl _⟩
set_option maxHeartbeats 2000000 in
theorem q_act {n0 day : Int32} (hd : 50 ≤ d) (hR : RS B m ρ S (rLk (cp 400 hw) (cp 600 M.2.2.2.2.2.2.2.1.1)) R V) (hI : RI V k M) (hB : BD M) (hk : k ≤ hw) (hhw : hw ≤ 8970) (hk2 : k ≤ 690 * M.2.1.length) (hmc : 2 * (lv 400 (actK M n0 day hw k).1 - lv 400 hw) ≤ mc) (hms : 30000 * (lv 400 (actK M n0 day hw k).1 - lv 400 hw) ≤ ms)
    (H : okI B m (actK M n0 day hw k).1 (actK M n0 day hw k).2 QR (o_act M n0 day)) : tk_M Z mX12_act d mc ms [.ref m, .int n0, .int day] S QR tk_noX := by
  have b1 := hB.tn
  have b2 := hB.acts
  refine rr_act2 (by omega) hR hI hB hk (by omega) (by omega) (fun n hn hn0 hday hl => ?_) (fun n hn hn0 hday hl => ?_) (fun h1 => ?_) (fun h1 h2 => ?_) (fun n hn hn0 hday hl => ?_)
  · subst hn0
    unfold actK at hmc
    rw [if_pos ⟨⟨⟨nI_pos' (by omega), nI_le hn (by omega)⟩, hday⟩, hl⟩, nI_clamp (by omega)] at hmc
    exact hmc
  · subst hn0
    unfold actK at hms
    rw [if_pos ⟨⟨⟨nI_pos' (by omega), nI_le hn (by omega)⟩, hday⟩, hl⟩, nI_clamp (by omega)] at hms
    exact hms
  · have h := H
    unfold o_act actK at h
    rw [if_neg (fun z => h1 z.1), if_pos h1] at h
    exact h 0 (fun z => absurd z (show ¬ (1 : Int32) = 0 by decide))
  · have h := H
    unfold o_act actK at h
    rw [if_neg (fun z => absurd z.2 (Nat.not_lt.mpr h2)), if_neg (fun z => z h1), if_pos h2] at h
    exact h 0 (fun z => absurd z (show ¬ (2 : Int32) = 0 by decide))
  · subst hn0
    have h1 : (0 ≤ nI n ∧ nI n ≤ nI M.1.1) ∧ (0 ≤ day ∧ day ≤ 9999) := ⟨⟨nI_pos' (by omega), nI_le hn (by omega)⟩, hday⟩
    have h := H
    unfold o_act actK at h
    rw [if_pos ⟨h1, hl⟩, if_neg (fun z => z h1), if_neg (Nat.not_le.mpr hl), nI_clamp (by omega)] at h
    generalize pActs M.1.2.1 n 2000 0 (tkStart M.1.2.1 n 0) = P at h ⊢
    rcases P with ps | ⟨kd, pl, jj⟩
    · exact h _ (fun _ => rfl)
    · exact h _ (fun _ => rfl)
end RQA
section DIRECT
variable {Z : tk_Z} {d mc ms b L c x m r : Nat} {xs : Nat → Int32} {S S' : tk_S} {cs ss : Nat} {M : Mt} {E : tk_E} {ρ ρ' : Nat → Nat}
theorem FX.of (hF : FO ρ ρ' S S') : FX r ρ ρ' S S' := ⟨hF.1, hF.2.1, fun b hb hq _ => hF.2.2 b hb hq⟩
theorem oR.of (hO : oR ρ S r 100) (hF : FO ρ ρ' S S') : oR ρ' S' r 100 := by
  have F := hO.fo hF
  exact ⟨F.1, F.2.1, F.2.2, (hF.2.1 r hO.1).trans hO.2.2.2⟩
theorem cnt_v {w0 : Int32} {v : Int32} (h0 : w0 = 0 → v = nI M.2.2.2.2.2.2.2.2.1) (h1 : w0 = 1 → v = nI M.2.1.length) (h2 : w0 = 2 → v = nI M.2.2.1.1) (h3 : w0 = 3 → v = nI M.2.2.2.1.1) (h4 : w0 = 4 → v = nI M.2.2.2.2.1.1) (h5 : w0 = 5 → v = nI M.2.2.2.2.2.1.1) (h6 : w0 = 6 → v = nI M.2.2.2.2.2.2.1.1) (h7 : w0 = 7 → v = nI M.2.2.2.2.2.2.2.1.1) (h8 : w0 = 8 → v = nI M.1.1) (h9 : w0 = 9 → v = nI (M.2.2.2.2.2.2.2.2.2.1 - M.2.2.2.2.2.2.2.2.1)) (hn : (w0 ≠ 0 ∧ w0 ≠ 1 ∧ w0 ≠ 2 ∧ w0 ≠ 3 ∧ w0 ≠ 4 ∧ w0 ≠ 5 ∧ w0 ≠ 6 ∧ w0 ≠ 7 ∧ w0 ≠ 8 ∧ w0 ≠ 9) → v = -1) : v = cntM M w0 := by
  unfold cntM
  by_cases a0 : w0 = 0
  · rw [if_pos a0]; exact h0 a0
  rw [if_neg a0]
  by_cases a1 : w0 = 1
  · rw [if_pos a1]; exact h1 a1
  rw [if_neg a1]
  by_cases a2 : w0 = 2
  · rw [if_pos a2]; exact h2 a2
  rw [if_neg a2]
  by_cases a3 : w0 = 3
  · rw [if_pos a3]; exact h3 a3
  rw [if_neg a3]
  by_cases a4 : w0 = 4
  · rw [if_pos a4]; exact h4 a4
  rw [if_neg a4]
  by_cases a5 : w0 = 5
  · rw [if_pos a5]; exact h5 a5
  rw [if_neg a5]
  by_cases a6 : w0 = 6
  · rw [if_pos a6]; exact h6 a6
  rw [if_neg a6]
  by_cases a7 : w0 = 7
  · rw [if_pos a7]; exact h7 a7
  rw [if_neg a7]
  by_cases a8 : w0 = 8
  · rw [if_pos a8]; exact h8 a8
  rw [if_neg a8]
  by_cases a9 : w0 = 9
  · rw [if_pos a9]; exact h9 a9
  rw [if_neg a9]
  exact hn ⟨a0, a1, a2, a3, a4, a5, a6, a7, a8, a9⟩
theorem jn_feed {a e f g h : Int32} : jnM (feedM a e f g h M).2 = jnM M ∧ JV (feedM a e f g h M).2 = JV M ∧ (feedM a e f g h M).2.2.1 = M.2.1 := by
  unfold feedM
  split <;> exact ⟨rfl, rfl, rfl⟩
end DIRECT

/-! WHAT EACH CALL COMES TO: thrown (0: nothing), answered, the model then -/
section OUT
variable {c : Nat}
def o_act (M : Mt) (n0 day : Int32) : Int32 × Int64 × Mt := if ¬ ((0 ≤ n0 ∧ n0 ≤ nI M.1.1) ∧ (0 ≤ day ∧ day ≤ 9999)) then (1, 0, M) else if 12 ≤ M.2.1.length then (2, 0, M) else match (pActs M.1.2.1 n0.toNatClampNeg 2000 0 (tkStart M.1.2.1 n0.toNatClampNeg 0)) with
  | .inl ps => (0, (nI M.2.1.length).toInt64, ((0, M.1.2.1, -1), M.2.1 ++ [(day, ps)], M.2.2))
  | .inr (kd, pl, _) => (0, (kd - 10).toInt64, ((0, M.1.2.1, nI pl), M.2))
def o_stretch (M : Mt) (i : Int32) : Int32 × Int64 × Mt := if ¬ (1 ≤ i ∧ i ≤ 10000) then (1, 0, M) else if 12 ≤ M.2.2.1.1 then (2, 0, M) else (0, (nI M.2.2.1.1).toInt64, (M.1, M.2.1, (M.2.2.1.1 + 1, upd M.2.2.1.2.1 M.2.2.1.1 i, M.2.2.1.2.2), M.2.2.2))
def o_gate (M : Mt) (i : Int32) : Int32 × Int64 × Mt := if (i < 0 ∨ nI M.2.2.1.1 ≤ i) then (1, 0, M) else if 8 ≤ M.2.2.2.1.1 then (2, 0, M) else (0, (nI M.2.2.2.1.1).toInt64, (M.1, M.2.1, M.2.2.1, (M.2.2.2.1.1 + 1, va_up M.2.2.2.1.2.1 M.2.2.2.1.1 i.toNatClampNeg, M.2.2.2.1.2.2.1, va_up M.2.2.2.1.2.2.2.1 M.2.2.2.1.1 none, M.2.2.2.1.2.2.2.2), M.2.2.2.2))
def o_traveller (M : Mt) (k0 w0 b0 t0 : Int32) : Int32 × Int64 × Mt := if ¬ ((0 ≤ k0 ∧ k0 ≤ 6) ∧ (0 ≤ w0 ∧ w0 ≤ 20) ∧ (0 ≤ b0 ∧ b0 ≤ 10000) ∧ (0 ≤ t0 ∧ t0 ≤ 15)) then (1, 0, M) else if 60 ≤ M.2.2.2.2.1.1 then (2, 0, M) else (0, (nI M.2.2.2.2.1.1).toInt64, (M.1, M.2.1, M.2.2.1, M.2.2.2.1, (M.2.2.2.2.1.1 + 1, upd M.2.2.2.2.1.2.1 M.2.2.2.2.1.1 k0, upd M.2.2.2.2.1.2.2.1 M.2.2.2.2.1.1 w0, upd M.2.2.2.2.1.2.2.2.1 M.2.2.2.2.1.1 b0, upd M.2.2.2.2.1.2.2.2.2.1 M.2.2.2.2.1.1 t0, (fun q => if q < 8 * M.2.2.2.2.1.1 then M.2.2.2.2.1.2.2.2.2.2.1 q else -1), (fun q => if q < 8 * M.2.2.2.2.1.1 then M.2.2.2.2.1.2.2.2.2.2.2.1 q else -1), upd M.2.2.2.2.1.2.2.2.2.2.2.2 M.2.2.2.2.1.1 (-1)), M.2.2.2.2.2))
def o_pass (M : Mt) (t0 g0 : Int32) : Int32 × Int64 × Mt := if ((t0 < 0 ∨ nI M.2.2.2.2.1.1 ≤ t0) ∨ (g0 < 0 ∨ nI M.2.2.2.1.1 ≤ g0)) then (1, 0, M) else (0, (passPay M t0.toNatClampNeg g0.toNatClampNeg).1.toInt64, passM M t0.toNatClampNeg g0.toNatClampNeg)
def o_asked (M : Mt) (i t0 g0 : Int32) : Int32 × Int64 × Mt := if ((i < 0 ∨ nI M.2.1.length ≤ i) ∨ (t0 < 0 ∨ nI M.2.2.2.2.1.1 ≤ t0) ∨ (g0 < 0 ∨ nI M.2.2.2.1.1 ≤ g0)) then (1, 0, M) else match M.2.1[i.toNatClampNeg]? with
  | some A => (0, (payOf M A t0.toNatClampNeg g0.toNatClampNeg).1.toInt64, M)
  | none => (1, 0, M)
def o_force (M : Mt) (i : Int32) : Int32 × Int64 × Mt := if ¬ (0 ≤ i ∧ i ≤ 9999) then (1, 0, M) else (0, (actM M.2.1 0 i (-1) (-1)).toInt64, M)
def o_wait (M : Mt) (i : Int32) : Int32 × Int64 × Mt := if ¬ (0 ≤ i ∧ i ≤ 1000) ∨ ¬ (nI M.2.2.2.2.2.2.2.2.1 + i ≤ 9999) then (1, 0, M) else (0, (nI (M.2.2.2.2.2.2.2.2.1 + i.toNatClampNeg)).toInt64, daysM i.toNatClampNeg M)
def o_mend (M : Mt) (i : Int32) : Int32 × Int64 × Mt := if ¬ (0 ≤ i ∧ i ≤ 20) then (1, 0, M) else (0, (nI (mendM i.toNatClampNeg 0 M).1).toInt64, (mendM i.toNatClampNeg 0 M).2)
def o_farmer (M : Mt) (i : Int32) : Int32 × Int64 × Mt := if ¬ (0 ≤ i ∧ i ≤ 1000000000) then (1, 0, M) else if 8 ≤ M.2.2.2.2.2.1.1 then (2, 0, M) else (0, (nI M.2.2.2.2.2.1.1).toInt64, (M.1, M.2.1, M.2.2.1, M.2.2.2.1, M.2.2.2.2.1, (M.2.2.2.2.2.1.1 + 1, vp_updL M.2.2.2.2.2.1.2 M.2.2.2.2.2.1.1 i.toInt64), M.2.2.2.2.2.2))
def o_bid (M : Mt) (i f0 r0 s0 : Int32) : Int32 × Int64 × Mt := if ((i < 0 ∨ nI M.2.2.2.1.1 ≤ i) ∨ (f0 < 0 ∨ nI M.2.2.2.2.2.1.1 ≤ f0)) then (1, 0, M) else if ¬ ((1 ≤ r0 ∧ r0 ≤ 10000000) ∧ (1 ≤ s0 ∧ s0 ≤ 10000000)) then (2, 0, M) else if (M.2.2.2.1.2.2.2.1 i.toNatClampNeg ≠ none ∨ 10 ≤ M.2.2.2.1.2.2.2.2.2.2.2.2.1 i.toNatClampNeg) then (3, 0, M) else (0, (nI (M.2.2.2.1.2.2.2.2.2.2.2.2.1 i.toNatClampNeg + 1)).toInt64, (M.1, M.2.1, M.2.2.1, (M.2.2.2.1.1, M.2.2.2.1.2.1, M.2.2.2.1.2.2.1, M.2.2.2.1.2.2.2.1, M.2.2.2.1.2.2.2.2.1, M.2.2.2.1.2.2.2.2.2.1, M.2.2.2.1.2.2.2.2.2.2.1, M.2.2.2.1.2.2.2.2.2.2.2.1, va_up M.2.2.2.1.2.2.2.2.2.2.2.2.1 i.toNatClampNeg (M.2.2.2.1.2.2.2.2.2.2.2.2.1 i.toNatClampNeg + 1), va_up M.2.2.2.1.2.2.2.2.2.2.2.2.2.1 (10 * i.toNatClampNeg + M.2.2.2.1.2.2.2.2.2.2.2.2.1 i.toNatClampNeg) f0.toNatClampNeg, upd M.2.2.2.1.2.2.2.2.2.2.2.2.2.2.1 (10 * i.toNatClampNeg + M.2.2.2.1.2.2.2.2.2.2.2.2.1 i.toNatClampNeg) r0, upd M.2.2.2.1.2.2.2.2.2.2.2.2.2.2.2 (10 * i.toNatClampNeg + M.2.2.2.1.2.2.2.2.2.2.2.2.1 i.toNatClampNeg) s0), M.2.2.2.2))
def o_let (M : Mt) (i q0 : Int32) : Int32 × Int64 × Mt := if (i < 0 ∨ nI M.2.2.2.1.1 ≤ i) then (1, 0, M) else if ¬ (1 ≤ q0 ∧ q0 ≤ 40) then (2, 0, M) else if M.2.2.2.1.2.2.2.1 i.toNatClampNeg ≠ none then (3, 0, M) else match bestM M i.toNatClampNeg with
  | none => (0, (-1 : Int32).toInt64, M)
  | some k => (0, (nI (M.2.2.2.1.2.2.2.2.2.2.2.2.2.1 (10 * i.toNatClampNeg + k))).toInt64, letM M i.toNatClampNeg k q0.toNatClampNeg)
def o_gateTold (M : Mt) (i w0 : Int32) : Int32 × Int64 × Mt := if (i < 0 ∨ nI M.2.2.2.1.1 ≤ i) then (1, 0, M) else if ¬ (0 ≤ w0 ∧ w0 ≤ 6) then (2, 0, M) else (0, (gtM M i.toNatClampNeg w0).toInt64, M)
def o_borrow (M : Mt) (i ra0 rk0 : Int32) : Int32 × Int64 × Mt := if ¬ ((1 ≤ i ∧ i ≤ 10000000) ∧ (0 ≤ ra0 ∧ ra0 ≤ 500) ∧ (0 ≤ rk0 ∧ rk0 ≤ 3)) then (1, 0, M) else if 10 ≤ M.2.2.2.2.2.2.1.1 then (2, 0, M) else (0, (nI M.2.2.2.2.2.2.1.1).toInt64, (M.1, M.2.1, M.2.2.1, M.2.2.2.1, M.2.2.2.2.1, M.2.2.2.2.2.1, (M.2.2.2.2.2.2.1.1 + 1, upd M.2.2.2.2.2.2.1.2.1 M.2.2.2.2.2.2.1.1 i, upd M.2.2.2.2.2.2.1.2.2.1 M.2.2.2.2.2.2.1.1 ra0, upd M.2.2.2.2.2.2.1.2.2.2.1 M.2.2.2.2.2.2.1.1 rk0, M.2.2.2.2.2.2.1.2.2.2.2), lineM M.2.2.2.2.2.2.2.1 (nI M.2.2.2.2.2.2.2.2.1) 3 (nI M.2.2.2.2.2.2.1.1) i.toInt64, M.2.2.2.2.2.2.2.2))
def o_repay (M : Mt) (i s0 : Int32) : Int32 × Int64 × Mt := if (i < 0 ∨ nI M.2.2.2.2.2.2.1.1 ≤ i) then (1, 0, M) else if s0 < 1 then (2, 0, M) else if (M.2.2.2.2.2.2.1.2.1 i.toNatClampNeg < s0 ∨ M.2.2.2.2.2.2.2.1.2.1 < s0.toInt64) then (0, (-1 : Int32).toInt64, M) else (0, (M.2.2.2.2.2.2.1.2.1 i.toNatClampNeg - s0).toInt64, (M.1, M.2.1, M.2.2.1, M.2.2.2.1, M.2.2.2.2.1, M.2.2.2.2.2.1, (M.2.2.2.2.2.2.1.1, upd M.2.2.2.2.2.2.1.2.1 i.toNatClampNeg (M.2.2.2.2.2.2.1.2.1 i.toNatClampNeg - s0), M.2.2.2.2.2.2.1.2.2), lineM M.2.2.2.2.2.2.2.1 (nI M.2.2.2.2.2.2.2.2.1) 5 (nI i.toNatClampNeg) (-s0).toInt64, M.2.2.2.2.2.2.2.2))
def o_loan (M : Mt) (i w0 : Int32) : Int32 × Int64 × Mt := if (i < 0 ∨ nI M.2.2.2.2.2.2.1.1 ≤ i) then (1, 0, M) else if ¬ (0 ≤ w0 ∧ w0 ≤ 3) then (2, 0, M) else (0, loM M i.toNatClampNeg w0, M)
def o_money (M : Mt) (i : Int32) : Int32 × Int64 × Mt := if (i < 0 ∨ nI M.2.2.2.2.2.1.1 ≤ i) then (1, 0, M) else (0, M.2.2.2.2.2.1.2 i.toNatClampNeg, M)
def o_wear (M : Mt) (i : Int32) : Int32 × Int64 × Mt := if (i < 0 ∨ nI M.2.2.1.1 ≤ i) then (1, 0, M) else (0, M.2.2.1.2.2 i.toNatClampNeg, M)
def o_box (M : Mt) (i : Int32) : Int32 × Int64 × Mt := if ¬ (0 ≤ i ∧ i ≤ 9999) then (1, 0, M) else (0, bxM M.2.2.2.2.2.2.2.1.2.2.1 M.2.2.2.2.2.2.2.1.2.2.2.2.2.1 i M.2.2.2.2.2.2.2.1.1, M)
def o_journal (M : Mt) (i w0 : Int32) : Int32 × Int64 × Mt := if (i < 0 ∨ nI M.2.2.2.2.2.2.2.1.1 ≤ i) then (1, 0, M) else if ¬ (0 ≤ w0 ∧ w0 ≤ 3) then (2, 0, M) else (0, (if w0 = 0 then (M.2.2.2.2.2.2.2.1.2.2.1 i.toNatClampNeg).toInt64 else if w0 = 1 then (M.2.2.2.2.2.2.2.1.2.2.2.1 i.toNatClampNeg).toInt64 else if w0 = 2 then (M.2.2.2.2.2.2.2.1.2.2.2.2.1 i.toNatClampNeg).toInt64 else M.2.2.2.2.2.2.2.1.2.2.2.2.2.1 i.toNatClampNeg), M)
def o_rain (M : Mt) (v : Int64) (i : Int32) : Int32 × Int64 × Mt := if ¬ (0 ≤ i ∧ i ≤ 1000) then (1, v, M) else (0, v, (M.1, M.2.1, M.2.2.1, M.2.2.2.1, M.2.2.2.2.1, M.2.2.2.2.2.1, M.2.2.2.2.2.2.1, M.2.2.2.2.2.2.2.1, (M.2.2.2.2.2.2.2.2.1, M.2.2.2.2.2.2.2.2.1 + i.toNatClampNeg, M.2.2.2.2.2.2.2.2.2.2)))
theorem n_act {M : Mt} {n0 day : Int32} (h : IV c M) (hJ : JV M) : IV (c + 1) (o_act M n0 day).2.2 ∧ JV (o_act M n0 day).2.2 ∧ jnM (o_act M n0 day).2.2 = jnM M := by
  have same : ∀ (a : Int32) (v : Int64), IV (c + 1) ((a, v, M) : Int32 × Int64 × Mt).2.2 ∧ JV ((a, v, M) : Int32 × Int64 × Mt).2.2 ∧ jnM ((a, v, M) : Int32 × Int64 × Mt).2.2 = jnM M := fun a v => ⟨h.mono (Nat.le_succ c), hJ, rfl⟩
  unfold o_act
  by_cases h1 : ¬ ((0 ≤ n0 ∧ n0 ≤ nI M.1.1) ∧ (0 ≤ day ∧ day ≤ 9999))
  · rw [if_pos h1]; exact same _ _
  rw [if_neg h1]
  by_cases h2 : 12 ≤ M.2.1.length
  · rw [if_pos h2]; exact same _ _
  rw [if_neg h2]
  split
  · exact ⟨h.act1 (Classical.not_not.mp h1).2.1, hJ, rfl⟩
  · exact ⟨h.act2, hJ, rfl⟩
theorem n_stretch {M : Mt} {i : Int32} (h : IV c M) (hB : BD M) (hJ : JV M) (hc : c ≤ 511) : okN c M (o_stretch M i) := by
  unfold o_stretch
  by_cases h1 : ¬ (1 ≤ i ∧ i ≤ 10000)
  · rw [if_pos h1]; exact okN.same h hJ _ _
  rw [if_neg h1]
  by_cases h2 : 12 ≤ M.2.2.1.1
  · rw [if_pos h2]; exact okN.same h hJ _ _
  rw [if_neg h2]
  exact ⟨h.stretch (Classical.not_not.mp h1), hJ, Nat.le_refl _, rfl⟩
theorem n_gate {M : Mt} {i : Int32} (h : IV c M) (hB : BD M) (hJ : JV M) (hc : c ≤ 511) : okN c M (o_gate M i) := by
  unfold o_gate
  by_cases h1 : (i < 0 ∨ nI M.2.2.1.1 ≤ i)
  · rw [if_pos h1]; exact okN.same h hJ _ _
  rw [if_neg h1]
  by_cases h2 : 8 ≤ M.2.2.2.1.1
  · rw [if_pos h2]; exact okN.same h hJ _ _
  rw [if_neg h2]
  exact ⟨h.gate, hJ, Nat.le_refl _, rfl⟩
theorem n_traveller {M : Mt} {k0 w0 b0 t0 : Int32} (h : IV c M) (hB : BD M) (hJ : JV M) (hc : c ≤ 511) : okN c M (o_traveller M k0 w0 b0 t0) := by
  unfold o_traveller
  by_cases h1 : ¬ ((0 ≤ k0 ∧ k0 ≤ 6) ∧ (0 ≤ w0 ∧ w0 ≤ 20) ∧ (0 ≤ b0 ∧ b0 ≤ 10000) ∧ (0 ≤ t0 ∧ t0 ≤ 15))
  · rw [if_pos h1]; exact okN.same h hJ _ _
  rw [if_neg h1]
  by_cases h2 : 60 ≤ M.2.2.2.2.1.1
  · rw [if_pos h2]; exact okN.same h hJ _ _
  rw [if_neg h2]
  exact ⟨h.traveller hB (Classical.not_not.mp h1).2.2.1 (fun j hj => if_pos hj) (fun g hg => if_neg (by omega)), hJ, Nat.le_refl _, rfl⟩
theorem n_pass {M : Mt} {t0 g0 : Int32} (h : IV c M) (hB : BD M) (hJ : JV M) (hc : c ≤ 511) : okN c M (o_pass M t0 g0) := by
  unfold o_pass
  by_cases h1 : ((t0 < 0 ∨ nI M.2.2.2.2.1.1 ≤ t0) ∨ (g0 < 0 ∨ nI M.2.2.2.1.1 ≤ g0))
  · rw [if_pos h1]; exact okN.same h hJ _ _
  rw [if_neg h1]
  obtain ⟨jt0, ljt0, rfl⟩ : ∃ j, j < M.2.2.2.2.1.1 ∧ t0 = nI j := by
    rcases pk_ix t0 (n := M.2.2.2.2.1.1) (by have := hB.nV; omega) with w | w | w
    · exact absurd (Or.inl w) (fun z => h1 (Or.inl z))
    · exact absurd (Or.inr w) (fun z => h1 (Or.inl z))
    · exact w
  obtain ⟨jg0, ljg0, rfl⟩ : ∃ j, j < M.2.2.2.1.1 ∧ g0 = nI j := by
    rcases pk_ix g0 (n := M.2.2.2.1.1) (by have := hB.nG; omega) with w | w | w
    · exact absurd (Or.inl w) (fun z => h1 (Or.inr z))
    · exact absurd (Or.inr w) (fun z => h1 (Or.inr z))
    · exact w
  have b1 := hB.nV
  have b2 := hB.nG
  rw [nI_clamp (n := jt0) (by omega), nI_clamp (n := jg0) (by omega)]
  refine ⟨h.pass hB (by omega) ljt0 ljg0, hJ.pass, ?_, rfl⟩
  show M.2.2.2.2.2.2.2.1.1 ≤ (passM M jt0 jg0).2.2.2.2.2.2.2.1.1
  unfold passM
  dsimp only
  generalize passPay M jt0 jg0 = rr
  show _ ≤ (tollTo (lcM M rr.2) jt0 jg0 rr.1).2.2.2.2.2.2.2.1.1
  unfold tollTo
  dsimp only
  split
  · split
    · exact Nat.le_succ _
    · exact Nat.le_refl _
  · exact Nat.le_refl _
theorem n_asked {M : Mt} {i t0 g0 : Int32} (h : IV c M) (hB : BD M) (hJ : JV M) (hc : c ≤ 511) : okN c M (o_asked M i t0 g0) := by
  unfold o_asked
  by_cases h1 : ((i < 0 ∨ nI M.2.1.length ≤ i) ∨ (t0 < 0 ∨ nI M.2.2.2.2.1.1 ≤ t0) ∨ (g0 < 0 ∨ nI M.2.2.2.1.1 ≤ g0))
  · rw [if_pos h1]; exact okN.same h hJ _ _
  rw [if_neg h1]
  split <;> exact okN.same h hJ _ _
theorem n_force {M : Mt} {i : Int32} (h : IV c M) (hB : BD M) (hJ : JV M) (hc : c ≤ 511) : okN c M (o_force M i) := by
  unfold o_force
  by_cases h1 : ¬ (0 ≤ i ∧ i ≤ 9999)
  · rw [if_pos h1]; exact okN.same h hJ _ _
  rw [if_neg h1]
  exact okN.same h hJ _ _
theorem n_wait {M : Mt} {i : Int32} (h : IV c M) (hB : BD M) (hJ : JV M) (hc : c ≤ 511) : okN c M (o_wait M i) := by
  unfold o_wait
  by_cases h1 : ¬ (0 ≤ i ∧ i ≤ 1000) ∨ ¬ (nI M.2.2.2.2.2.2.2.2.1 + i ≤ 9999)
  · rw [if_pos h1]; exact okN.same h hJ _ _
  rw [if_neg h1]
  have w1 : 0 ≤ i ∧ i ≤ 1000 := Classical.not_not.mp (fun z => h1 (Or.inl z))
  have w2 : nI M.2.2.2.2.2.2.2.2.1 + i ≤ 9999 := Classical.not_not.mp (fun z => h1 (Or.inr z))
  obtain ⟨n, hn, rfl⟩ := nI_of2 (M := 1000) (n := 1000) rfl (Int32.not_lt.mpr w1.1) w1.2
  have b1 := hB.td
  rw [nI_add] at w2
  have w3 := (nI_leI (b := 9999) (by omega) (by omega)).mp w2
  rw [nI_clamp (by omega)]
  have D := (h.days hB hc n w3).1
  refine ⟨D.mono (Nat.le_succ c), hJ.days n w3, ?_, ?_⟩
  · have := daysM_ge M 0 n
    rw [Nat.zero_add] at this
    exact this
  · have : ∀ n, (daysM n M).2.1 = M.2.1 := fun n => by
      induction n with
      | zero => rfl
      | succ n ih => exact ih
    exact this n
theorem n_mend {M : Mt} {i : Int32} (h : IV c M) (hB : BD M) (hJ : JV M) (hc : c ≤ 511) : okN c M (o_mend M i) := by
  unfold o_mend
  by_cases h1 : ¬ (0 ≤ i ∧ i ≤ 20)
  · rw [if_pos h1]; exact okN.same h hJ _ _
  rw [if_neg h1]
  have w1 : 0 ≤ i ∧ i ≤ 20 := Classical.not_not.mp h1
  obtain ⟨n, hn, rfl⟩ := nI_of2 (M := 20) (n := 20) rfl (Int32.not_lt.mpr w1.1) w1.2
  rw [nI_clamp (by omega)]
  refine ⟨h.mend hn, hJ.mend n 0, (mendM_ge n 0 M).1, ?_⟩
  have : ∀ n k (M : Mt), (mendM n k M).2.2.1 = M.2.1 := by
    intro n
    induction n with
    | zero => intro k M; rfl
    | succ n ih =>
      intro k M
      rw [mendM]
      split
      · rfl
      · split
        · rfl
        · rw [ih]; rfl
  exact this n 0 M
theorem n_farmer {M : Mt} {i : Int32} (h : IV c M) (hB : BD M) (hJ : JV M) (hc : c ≤ 511) : okN c M (o_farmer M i) := by
  unfold o_farmer
  by_cases h1 : ¬ (0 ≤ i ∧ i ≤ 1000000000)
  · rw [if_pos h1]; exact okN.same h hJ _ _
  rw [if_neg h1]
  by_cases h2 : 8 ≤ M.2.2.2.2.2.1.1
  · rw [if_pos h2]; exact okN.same h hJ _ _
  rw [if_neg h2]
  exact ⟨h.farmer, hJ, Nat.le_refl _, rfl⟩
theorem n_bid {M : Mt} {i f0 r0 s0 : Int32} (h : IV c M) (hB : BD M) (hJ : JV M) (hc : c ≤ 511) : okN c M (o_bid M i f0 r0 s0) := by
  unfold o_bid
  by_cases h1 : ((i < 0 ∨ nI M.2.2.2.1.1 ≤ i) ∨ (f0 < 0 ∨ nI M.2.2.2.2.2.1.1 ≤ f0))
  · rw [if_pos h1]; exact okN.same h hJ _ _
  rw [if_neg h1]
  by_cases h2 : ¬ ((1 ≤ r0 ∧ r0 ≤ 10000000) ∧ (1 ≤ s0 ∧ s0 ≤ 10000000))
  · rw [if_pos h2]; exact okN.same h hJ _ _
  rw [if_neg h2]
  by_cases h3 : (M.2.2.2.1.2.2.2.1 i.toNatClampNeg ≠ none ∨ 10 ≤ M.2.2.2.1.2.2.2.2.2.2.2.2.1 i.toNatClampNeg)
  · rw [if_pos h3]; exact okN.same h hJ _ _
  rw [if_neg h3]
  obtain ⟨ji, lji, rfl⟩ : ∃ j, j < M.2.2.2.1.1 ∧ i = nI j := by
    rcases pk_ix i (n := M.2.2.2.1.1) (by have := hB.nG; omega) with w | w | w
    · exact absurd (Or.inl w) (fun z => h1 (Or.inl z))
    · exact absurd (Or.inr w) (fun z => h1 (Or.inl z))
    · exact w
  have b2 := hB.nG
  rw [nI_clamp (n := ji) (by omega)]
  exact ⟨h.bid lji (Classical.not_not.mp h2), hJ, Nat.le_refl _, rfl⟩
theorem n_let {M : Mt} {i q0 : Int32} (h : IV c M) (hB : BD M) (hJ : JV M) (hc : c ≤ 511) : okN c M (o_let M i q0) := by
  unfold o_let
  by_cases h1 : (i < 0 ∨ nI M.2.2.2.1.1 ≤ i)
  · rw [if_pos h1]; exact okN.same h hJ _ _
  rw [if_neg h1]
  by_cases h2 : ¬ (1 ≤ q0 ∧ q0 ≤ 40)
  · rw [if_pos h2]; exact okN.same h hJ _ _
  rw [if_neg h2]
  by_cases h3 : M.2.2.2.1.2.2.2.1 i.toNatClampNeg ≠ none
  · rw [if_pos h3]; exact okN.same h hJ _ _
  rw [if_neg h3]
  obtain ⟨ji, lji, rfl⟩ : ∃ j, j < M.2.2.2.1.1 ∧ i = nI j := by
    rcases pk_ix i (n := M.2.2.2.1.1) (by have := hB.nG; omega) with w | w | w
    · exact absurd (Or.inl w) h1
    · exact absurd (Or.inr w) h1
    · exact w
  have b2 := hB.nG
  rw [nI_clamp (n := ji) (by omega)] at h3 ⊢
  have w1 := Classical.not_not.mp h2
  obtain ⟨n, hn, rfl⟩ := nI_of2 (M := 40) (n := 40) rfl (fun z => absurd (Int32.lt_of_le_of_lt w1.1 z) (by decide)) w1.2
  rw [nI_clamp (n := n) (by omega)]
  split
  · exact okN.same h hJ _ _
  · rename_i k _
    refine ⟨h.let hB lji hn (Classical.not_not.mp h3), hJ.let, ?_, rfl⟩
    show M.2.2.2.2.2.2.2.1.1 ≤ (letM M ji k n).2.2.2.2.2.2.2.1.1
    unfold letM
    dsimp only
    refine Nat.le_trans ?_ (keepM_ge _ _ _ _ _ _).1
    exact Nat.le_refl _
theorem n_gateTold {M : Mt} {i w0 : Int32} (h : IV c M) (hB : BD M) (hJ : JV M) (hc : c ≤ 511) : okN c M (o_gateTold M i w0) := by
  unfold o_gateTold
  by_cases h1 : (i < 0 ∨ nI M.2.2.2.1.1 ≤ i)
  · rw [if_pos h1]; exact okN.same h hJ _ _
  rw [if_neg h1]
  by_cases h2 : ¬ (0 ≤ w0 ∧ w0 ≤ 6)
  · rw [if_pos h2]; exact okN.same h hJ _ _
  rw [if_neg h2]
  exact okN.same h hJ _ _
theorem n_borrow {M : Mt} {i ra0 rk0 : Int32} (h : IV c M) (hB : BD M) (hJ : JV M) (hc : c ≤ 511) : okN c M (o_borrow M i ra0 rk0) := by
  unfold o_borrow
  by_cases h1 : ¬ ((1 ≤ i ∧ i ≤ 10000000) ∧ (0 ≤ ra0 ∧ ra0 ≤ 500) ∧ (0 ≤ rk0 ∧ rk0 ≤ 3))
  · rw [if_pos h1]; exact okN.same h hJ _ _
  rw [if_neg h1]
  by_cases h2 : 10 ≤ M.2.2.2.2.2.2.1.1
  · rw [if_pos h2]; exact okN.same h hJ _ _
  rw [if_neg h2]
  exact ⟨h.borrow hB (Classical.not_not.mp h1), jOK.line hJ, Nat.le_succ _, rfl⟩
theorem n_repay {M : Mt} {i s0 : Int32} (h : IV c M) (hB : BD M) (hJ : JV M) (hc : c ≤ 511) : okN c M (o_repay M i s0) := by
  unfold o_repay
  by_cases h1 : (i < 0 ∨ nI M.2.2.2.2.2.2.1.1 ≤ i)
  · rw [if_pos h1]; exact okN.same h hJ _ _
  rw [if_neg h1]
  by_cases h2 : s0 < 1
  · rw [if_pos h2]; exact okN.same h hJ _ _
  rw [if_neg h2]
  by_cases h3 : (M.2.2.2.2.2.2.1.2.1 i.toNatClampNeg < s0 ∨ M.2.2.2.2.2.2.2.1.2.1 < s0.toInt64)
  · rw [if_pos h3]; exact okN.same h hJ _ _
  rw [if_neg h3]
  exact ⟨h.repay hB h2 h3, jOK.line hJ, Nat.le_succ _, rfl⟩
theorem n_loan {M : Mt} {i w0 : Int32} (h : IV c M) (hB : BD M) (hJ : JV M) (hc : c ≤ 511) : okN c M (o_loan M i w0) := by
  unfold o_loan
  by_cases h1 : (i < 0 ∨ nI M.2.2.2.2.2.2.1.1 ≤ i)
  · rw [if_pos h1]; exact okN.same h hJ _ _
  rw [if_neg h1]
  by_cases h2 : ¬ (0 ≤ w0 ∧ w0 ≤ 3)
  · rw [if_pos h2]; exact okN.same h hJ _ _
  rw [if_neg h2]
  exact okN.same h hJ _ _
theorem n_money {M : Mt} {i : Int32} (h : IV c M) (hB : BD M) (hJ : JV M) (hc : c ≤ 511) : okN c M (o_money M i) := by
  unfold o_money
  by_cases h1 : (i < 0 ∨ nI M.2.2.2.2.2.1.1 ≤ i)
  · rw [if_pos h1]; exact okN.same h hJ _ _
  rw [if_neg h1]
  exact okN.same h hJ _ _
theorem n_wear {M : Mt} {i : Int32} (h : IV c M) (hB : BD M) (hJ : JV M) (hc : c ≤ 511) : okN c M (o_wear M i) := by
  unfold o_wear
  by_cases h1 : (i < 0 ∨ nI M.2.2.1.1 ≤ i)
  · rw [if_pos h1]; exact okN.same h hJ _ _
  rw [if_neg h1]
  exact okN.same h hJ _ _
theorem n_box {M : Mt} {i : Int32} (h : IV c M) (hB : BD M) (hJ : JV M) (hc : c ≤ 511) : okN c M (o_box M i) := by
  unfold o_box
  by_cases h1 : ¬ (0 ≤ i ∧ i ≤ 9999)
  · rw [if_pos h1]; exact okN.same h hJ _ _
  rw [if_neg h1]
  exact okN.same h hJ _ _
theorem n_journal {M : Mt} {i w0 : Int32} (h : IV c M) (hB : BD M) (hJ : JV M) (hc : c ≤ 511) : okN c M (o_journal M i w0) := by
  unfold o_journal
  by_cases h1 : (i < 0 ∨ nI M.2.2.2.2.2.2.2.1.1 ≤ i)
  · rw [if_pos h1]; exact okN.same h hJ _ _
  rw [if_neg h1]
  by_cases h2 : ¬ (0 ≤ w0 ∧ w0 ≤ 3)
  · rw [if_pos h2]; exact okN.same h hJ _ _
  rw [if_neg h2]
  exact okN.same h hJ _ _
theorem n_rain {M : Mt} {v : Int64} {i : Int32} (h : IV c M) (hB : BD M) (hJ : JV M) (hc : c ≤ 511) : okN c M (o_rain M v i) := by
  unfold o_rain
  by_cases h1 : ¬ (0 ≤ i ∧ i ≤ 1000)
  · rw [if_pos h1]; exact okN.same h hJ _ _
  rw [if_neg h1]
  have w1 : 0 ≤ i ∧ i ≤ 1000 := Classical.not_not.mp h1
  obtain ⟨n, hn, rfl⟩ := nI_of2 (M := 1000) (n := 1000) rfl (Int32.not_lt.mpr w1.1) w1.2
  rw [nI_clamp (by omega)]
  exact ⟨h.rain hB hn, hJ, Nat.le_refl _, rfl⟩
end OUT

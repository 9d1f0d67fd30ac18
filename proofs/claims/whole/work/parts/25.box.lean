/-! THE BOX: its rows grow together -/
/-- five rows of cap places at r2..r6 -/
def isRows (S : tk_S) (bx cap r2 r3 r4 r5 r6 : Nat) : Prop := bx ∈ q_L S ∧ q_K S bx = 3 ∧ (q_R S 3 2 bx = some r2 ∧ r2 ∈ q_L S ∧ q_K S r2 = 15 ∧ q_n S r2 = cap) ∧ (q_R S 3 3 bx = some r3 ∧ r3 ∈ q_L S ∧ q_K S r3 = 15 ∧ q_n S r3 = cap) ∧ (q_R S 3 4 bx = some r4 ∧ r4 ∈ q_L S ∧ q_K S r4 = 15 ∧ q_n S r4 = cap) ∧ (q_R S 3 5 bx = some r5 ∧ r5 ∈ q_L S ∧ q_K S r5 = 16 ∧ q_n S r5 = cap) ∧ (q_R S 3 6 bx = some r6 ∧ r6 ∈ q_L S ∧ q_K S r6 = 16 ∧ q_n S r6 = cap) ∧
  r2 ≠ r3 ∧ r2 ≠ r4 ∧ r3 ≠ r4 ∧ r5 ≠ r6 ∧ 64 ≤ cap ∧ cap ≤ 12000
section BOX
variable {Z : tk_Z} {d mc ms : Nat} {S : tk_S} {QR : tk_R}
theorem sameAt.trans {S1 S2 S3 : tk_S} {b : Nat} (h : sameAt S1 S2 b) (g : sameAt S2 S3 b) : sameAt S1 S3 b := by
  obtain ⟨-, h2, h3, h4, h5, h6, h7, h8, h9⟩ := h
  obtain ⟨g1, g2, g3, g4, g5, g6, g7, g8, g9⟩ := g
  exact ⟨g1, g2.trans h2, fun c k => (g3 c k).trans (h3 c k), fun c k => (g4 c k).trans (h4 c k), fun c k => (g5 c k).trans (h5 c k), g6.trans h6, g7.trans h7, g8.trans h8, g9.trans h9⟩
/-- one row of the box is another's longer copy -/
def stp (S S1 : tk_S) (bx k q r N kd M : Nat) : Prop := q ∉ q_L S ∧ q_L S1 = q_L S ++ [q] ∧ (∀ b, b ∈ q_L S → b ≠ bx → sameAt S S1 b) ∧ q_K S1 bx = q_K S bx ∧ (∀ c j, q_I S1 c j bx = q_I S c j bx) ∧ (∀ c j, q_J S1 c j bx = q_J S c j bx) ∧ (∀ j, q_R S1 3 j bx = if j = k then some q else q_R S 3 j bx) ∧ q_K S1 q = kd ∧ q_n S1 q = N ∧ (∀ i, i < M → q_aI S1 q i = q_aI S r i ∨ kd = 16) ∧ (∀ i, i < M → q_aJ S1 q i = q_aJ S r i ∨ kd = 15)
theorem grow1I {K : tk_K} {ls : List (Option Value)} {bx k r N cap cs ss : Nat} (hd : 2 ≤ d) (h1 : bx ∈ q_L S) (h2 : q_K S bx = 3) (hr : r ∈ q_L S) (hk : q_K S r = 15) (hn : q_n S r = cap) (hcN : cap < N) (hN : N ≤ 12000) (hmc : cs + 1 ≤ mc) (hms : ss + 12000 ≤ ms)
    (h : ∀ q S1, stp S S1 bx k q r N 15 cap → K ls [] S1 (cs + 1) (ss + 12000)) : i_callS Z mJ7_copyOf_59c91 2 d mc ms (i_putR 3 k K) ls [.int (nI N), .ref r, .ref bx] S cs ss := by
  refine ⟨by simp, by simp [Value.category], 1, 1, 12000, by omega, by omega, by omega, ?_⟩
  refine m_copyI (Nat.le_refl 1) hr hk (by omega) (by omega) (by omega) (Nat.le_refl 1) (by omega) (fun q hq => ?_)
  have hbq : bx ≠ q := fun w => hq (w ▸ h1)
  have hrq : r ≠ q := fun w => hq (w ▸ hr)
  simp [i_aload, i_iload, i_lload, i_istore, i_lstore, i_astore, i_iinc, i_push, i_getI, i_getJ, i_getR, i_putI, i_putJ, i_putR, i_iadd, i_isub, i_imul, i_iand, i_ior, i_ixor, i_ishl, i_ishr, i_iushr, i_idiv, i_irem, i_ladd, i_lsub, i_lmul, i_land, i_lor, i_lxor, i_ldiv, i_lrem, i_lshl, i_lshr, i_lcmp, i_ineg, i_lneg, i_i2l, i_l2i, i_i2b, i_i2c, i_dup, i_pop, i_dup_x1, i_dup2, i_icmp_eq, i_icmp_lt, i_icmp_ge, i_icmp_gt, i_icmp_le, i_if_eq, i_if_lt, i_if_ge, i_if_gt, i_if_le, i_goto, i_ifnull, i_iald, i_bald, i_zald, i_lald, i_aald, i_iast, i_bast, i_zast, i_last, i_alen, i_iret, i_lret, i_aret, i_vret, i_oinit, i_cast, i_tsw, i_cases, i_mmin, i_mmax, i_lmin, i_throw, nb0, nb1, nint, nby0, rf_s, rf_n, of_r, of_n, tk_orf_rf, tk_c2, tk_ls, Value.category, tk_isR_ref, tk_isR_rf, tk_isR_null, z_q_L_s_I, z_q_K_s_I, z_q_I_s_I, z_q_J_s_I, z_q_R_s_I, z_q_n_s_I, z_q_aI_s_I, z_q_aJ_s_I, z_q_aR_s_I, z_q_L_s_J, z_q_K_s_J, z_q_I_s_J, z_q_J_s_J, z_q_R_s_J, z_q_n_s_J, z_q_aI_s_J, z_q_aJ_s_J, z_q_aR_s_J, z_q_L_s_R, z_q_K_s_R, z_q_I_s_R, z_q_J_s_R, z_q_R_s_R, z_q_n_s_R, z_q_aI_s_R, z_q_aJ_s_R, z_q_aR_s_R, z_q_L_s_aI, z_q_K_s_aI, z_q_I_s_aI, z_q_J_s_aI, z_q_R_s_aI, z_q_n_s_aI, z_q_aI_s_aI, z_q_aJ_s_aI, z_q_aR_s_aI, z_q_L_s_aJ, z_q_K_s_aJ, z_q_I_s_aJ, z_q_J_s_aJ, z_q_R_s_aJ, z_q_n_s_aJ, z_q_aI_s_aJ, z_q_aJ_s_aJ, z_q_aR_s_aJ, z_q_L_s_aR, z_q_K_s_aR, z_q_I_s_aR, z_q_J_s_aR, z_q_R_s_aR, z_q_n_s_aR, z_q_aI_s_aR, z_q_aJ_s_aR, z_q_aR_s_aR, z_q_L_s_new, z_q_K_s_new, z_q_I_s_new, z_q_J_s_new, z_q_R_s_new, z_q_n_s_new, z_q_aI_s_new, z_q_aJ_s_new, z_q_aR_s_new, z_q_L_s_arr, z_q_K_s_arr, z_q_I_s_arr, z_q_J_s_arr, z_q_R_s_arr, z_q_n_s_arr, z_q_aI_s_arr, z_q_aJ_s_arr, z_q_aR_s_arr, hbq, h1, h2]
  refine h q _ ⟨hq, rfl, fun b hb hbb => ?_, ?_, fun c j => rfl, fun c j => rfl, fun j => ?_, ?_, ?_, fun i hi => Or.inl ?_, fun i hi => Or.inr rfl⟩
  · have hbq2 : b ≠ q := fun w => hq (w ▸ hb)
    simp [sameAt, z_q_L_s_I, z_q_K_s_I, z_q_I_s_I, z_q_J_s_I, z_q_R_s_I, z_q_n_s_I, z_q_aI_s_I, z_q_aJ_s_I, z_q_aR_s_I, z_q_L_s_J, z_q_K_s_J, z_q_I_s_J, z_q_J_s_J, z_q_R_s_J, z_q_n_s_J, z_q_aI_s_J, z_q_aJ_s_J, z_q_aR_s_J, z_q_L_s_R, z_q_K_s_R, z_q_I_s_R, z_q_J_s_R, z_q_R_s_R, z_q_n_s_R, z_q_aI_s_R, z_q_aJ_s_R, z_q_aR_s_R, z_q_L_s_aI, z_q_K_s_aI, z_q_I_s_aI, z_q_J_s_aI, z_q_R_s_aI, z_q_n_s_aI, z_q_aI_s_aI, z_q_aJ_s_aI, z_q_aR_s_aI, z_q_L_s_aJ, z_q_K_s_aJ, z_q_I_s_aJ, z_q_J_s_aJ, z_q_R_s_aJ, z_q_n_s_aJ, z_q_aI_s_aJ, z_q_aJ_s_aJ, z_q_aR_s_aJ, z_q_L_s_aR, z_q_K_s_aR, z_q_I_s_aR, z_q_J_s_aR, z_q_R_s_aR, z_q_n_s_aR, z_q_aI_s_aR, z_q_aJ_s_aR, z_q_aR_s_aR, z_q_L_s_new, z_q_K_s_new, z_q_I_s_new, z_q_J_s_new, z_q_R_s_new, z_q_n_s_new, z_q_aI_s_new, z_q_aJ_s_new, z_q_aR_s_new, z_q_L_s_arr, z_q_K_s_arr, z_q_I_s_arr, z_q_J_s_arr, z_q_R_s_arr, z_q_n_s_arr, z_q_aI_s_arr, z_q_aJ_s_arr, z_q_aR_s_arr, hbq2, hbb, hb]
  · simp [z_q_L_s_I, z_q_K_s_I, z_q_I_s_I, z_q_J_s_I, z_q_R_s_I, z_q_n_s_I, z_q_aI_s_I, z_q_aJ_s_I, z_q_aR_s_I, z_q_L_s_J, z_q_K_s_J, z_q_I_s_J, z_q_J_s_J, z_q_R_s_J, z_q_n_s_J, z_q_aI_s_J, z_q_aJ_s_J, z_q_aR_s_J, z_q_L_s_R, z_q_K_s_R, z_q_I_s_R, z_q_J_s_R, z_q_R_s_R, z_q_n_s_R, z_q_aI_s_R, z_q_aJ_s_R, z_q_aR_s_R, z_q_L_s_aI, z_q_K_s_aI, z_q_I_s_aI, z_q_J_s_aI, z_q_R_s_aI, z_q_n_s_aI, z_q_aI_s_aI, z_q_aJ_s_aI, z_q_aR_s_aI, z_q_L_s_aJ, z_q_K_s_aJ, z_q_I_s_aJ, z_q_J_s_aJ, z_q_R_s_aJ, z_q_n_s_aJ, z_q_aI_s_aJ, z_q_aJ_s_aJ, z_q_aR_s_aJ, z_q_L_s_aR, z_q_K_s_aR, z_q_I_s_aR, z_q_J_s_aR, z_q_R_s_aR, z_q_n_s_aR, z_q_aI_s_aR, z_q_aJ_s_aR, z_q_aR_s_aR, z_q_L_s_new, z_q_K_s_new, z_q_I_s_new, z_q_J_s_new, z_q_R_s_new, z_q_n_s_new, z_q_aI_s_new, z_q_aJ_s_new, z_q_aR_s_new, z_q_L_s_arr, z_q_K_s_arr, z_q_I_s_arr, z_q_J_s_arr, z_q_R_s_arr, z_q_n_s_arr, z_q_aI_s_arr, z_q_aJ_s_arr, z_q_aR_s_arr, hbq]
  · simp [z_q_L_s_I, z_q_K_s_I, z_q_I_s_I, z_q_J_s_I, z_q_R_s_I, z_q_n_s_I, z_q_aI_s_I, z_q_aJ_s_I, z_q_aR_s_I, z_q_L_s_J, z_q_K_s_J, z_q_I_s_J, z_q_J_s_J, z_q_R_s_J, z_q_n_s_J, z_q_aI_s_J, z_q_aJ_s_J, z_q_aR_s_J, z_q_L_s_R, z_q_K_s_R, z_q_I_s_R, z_q_J_s_R, z_q_R_s_R, z_q_n_s_R, z_q_aI_s_R, z_q_aJ_s_R, z_q_aR_s_R, z_q_L_s_aI, z_q_K_s_aI, z_q_I_s_aI, z_q_J_s_aI, z_q_R_s_aI, z_q_n_s_aI, z_q_aI_s_aI, z_q_aJ_s_aI, z_q_aR_s_aI, z_q_L_s_aJ, z_q_K_s_aJ, z_q_I_s_aJ, z_q_J_s_aJ, z_q_R_s_aJ, z_q_n_s_aJ, z_q_aI_s_aJ, z_q_aJ_s_aJ, z_q_aR_s_aJ, z_q_L_s_aR, z_q_K_s_aR, z_q_I_s_aR, z_q_J_s_aR, z_q_R_s_aR, z_q_n_s_aR, z_q_aI_s_aR, z_q_aJ_s_aR, z_q_aR_s_aR, z_q_L_s_new, z_q_K_s_new, z_q_I_s_new, z_q_J_s_new, z_q_R_s_new, z_q_n_s_new, z_q_aI_s_new, z_q_aJ_s_new, z_q_aR_s_new, z_q_L_s_arr, z_q_K_s_arr, z_q_I_s_arr, z_q_J_s_arr, z_q_R_s_arr, z_q_n_s_arr, z_q_aI_s_arr, z_q_aJ_s_arr, z_q_aR_s_arr]
  · simp [z_q_L_s_I, z_q_K_s_I, z_q_I_s_I, z_q_J_s_I, z_q_R_s_I, z_q_n_s_I, z_q_aI_s_I, z_q_aJ_s_I, z_q_aR_s_I, z_q_L_s_J, z_q_K_s_J, z_q_I_s_J, z_q_J_s_J, z_q_R_s_J, z_q_n_s_J, z_q_aI_s_J, z_q_aJ_s_J, z_q_aR_s_J, z_q_L_s_R, z_q_K_s_R, z_q_I_s_R, z_q_J_s_R, z_q_R_s_R, z_q_n_s_R, z_q_aI_s_R, z_q_aJ_s_R, z_q_aR_s_R, z_q_L_s_aI, z_q_K_s_aI, z_q_I_s_aI, z_q_J_s_aI, z_q_R_s_aI, z_q_n_s_aI, z_q_aI_s_aI, z_q_aJ_s_aI, z_q_aR_s_aI, z_q_L_s_aJ, z_q_K_s_aJ, z_q_I_s_aJ, z_q_J_s_aJ, z_q_R_s_aJ, z_q_n_s_aJ, z_q_aI_s_aJ, z_q_aJ_s_aJ, z_q_aR_s_aJ, z_q_L_s_aR, z_q_K_s_aR, z_q_I_s_aR, z_q_J_s_aR, z_q_R_s_aR, z_q_n_s_aR, z_q_aI_s_aR, z_q_aJ_s_aR, z_q_aR_s_aR, z_q_L_s_new, z_q_K_s_new, z_q_I_s_new, z_q_J_s_new, z_q_R_s_new, z_q_n_s_new, z_q_aI_s_new, z_q_aJ_s_new, z_q_aR_s_new, z_q_L_s_arr, z_q_K_s_arr, z_q_I_s_arr, z_q_J_s_arr, z_q_R_s_arr, z_q_n_s_arr, z_q_aI_s_arr, z_q_aJ_s_arr, z_q_aR_s_arr]
  · simp [z_q_L_s_I, z_q_K_s_I, z_q_I_s_I, z_q_J_s_I, z_q_R_s_I, z_q_n_s_I, z_q_aI_s_I, z_q_aJ_s_I, z_q_aR_s_I, z_q_L_s_J, z_q_K_s_J, z_q_I_s_J, z_q_J_s_J, z_q_R_s_J, z_q_n_s_J, z_q_aI_s_J, z_q_aJ_s_J, z_q_aR_s_J, z_q_L_s_R, z_q_K_s_R, z_q_I_s_R, z_q_J_s_R, z_q_R_s_R, z_q_n_s_R, z_q_aI_s_R, z_q_aJ_s_R, z_q_aR_s_R, z_q_L_s_aI, z_q_K_s_aI, z_q_I_s_aI, z_q_J_s_aI, z_q_R_s_aI, z_q_n_s_aI, z_q_aI_s_aI, z_q_aJ_s_aI, z_q_aR_s_aI, z_q_L_s_aJ, z_q_K_s_aJ, z_q_I_s_aJ, z_q_J_s_aJ, z_q_R_s_aJ, z_q_n_s_aJ, z_q_aI_s_aJ, z_q_aJ_s_aJ, z_q_aR_s_aJ, z_q_L_s_aR, z_q_K_s_aR, z_q_I_s_aR, z_q_J_s_aR, z_q_R_s_aR, z_q_n_s_aR, z_q_aI_s_aR, z_q_aJ_s_aR, z_q_aR_s_aR, z_q_L_s_new, z_q_K_s_new, z_q_I_s_new, z_q_J_s_new, z_q_R_s_new, z_q_n_s_new, z_q_aI_s_new, z_q_aJ_s_new, z_q_aR_s_new, z_q_L_s_arr, z_q_K_s_arr, z_q_I_s_arr, z_q_J_s_arr, z_q_R_s_arr, z_q_n_s_arr, z_q_aI_s_arr, z_q_aJ_s_arr, z_q_aR_s_arr]
  · simp [z_q_L_s_I, z_q_K_s_I, z_q_I_s_I, z_q_J_s_I, z_q_R_s_I, z_q_n_s_I, z_q_aI_s_I, z_q_aJ_s_I, z_q_aR_s_I, z_q_L_s_J, z_q_K_s_J, z_q_I_s_J, z_q_J_s_J, z_q_R_s_J, z_q_n_s_J, z_q_aI_s_J, z_q_aJ_s_J, z_q_aR_s_J, z_q_L_s_R, z_q_K_s_R, z_q_I_s_R, z_q_J_s_R, z_q_R_s_R, z_q_n_s_R, z_q_aI_s_R, z_q_aJ_s_R, z_q_aR_s_R, z_q_L_s_aI, z_q_K_s_aI, z_q_I_s_aI, z_q_J_s_aI, z_q_R_s_aI, z_q_n_s_aI, z_q_aI_s_aI, z_q_aJ_s_aI, z_q_aR_s_aI, z_q_L_s_aJ, z_q_K_s_aJ, z_q_I_s_aJ, z_q_J_s_aJ, z_q_R_s_aJ, z_q_n_s_aJ, z_q_aI_s_aJ, z_q_aJ_s_aJ, z_q_aR_s_aJ, z_q_L_s_aR, z_q_K_s_aR, z_q_I_s_aR, z_q_J_s_aR, z_q_R_s_aR, z_q_n_s_aR, z_q_aI_s_aR, z_q_aJ_s_aR, z_q_aR_s_aR, z_q_L_s_new, z_q_K_s_new, z_q_I_s_new, z_q_J_s_new, z_q_R_s_new, z_q_n_s_new, z_q_aI_s_new, z_q_aJ_s_new, z_q_aR_s_new, z_q_L_s_arr, z_q_K_s_arr, z_q_I_s_arr, z_q_J_s_arr, z_q_R_s_arr, z_q_n_s_arr, z_q_aI_s_arr, z_q_aJ_s_arr, z_q_aR_s_arr]
    rw [pk_cpy_in (Nat.zero_le i) (by omega)]
    simp
theorem grow1J {K : tk_K} {ls : List (Option Value)} {bx k r N cap cs ss : Nat} (hd : 2 ≤ d) (h1 : bx ∈ q_L S) (h2 : q_K S bx = 3) (hr : r ∈ q_L S) (hk : q_K S r = 16) (hn : q_n S r = cap) (hcN : cap < N) (hN : N ≤ 12000) (hmc : cs + 1 ≤ mc) (hms : ss + 12000 ≤ ms)
    (h : ∀ q S1, stp S S1 bx k q r N 16 cap → K ls [] S1 (cs + 1) (ss + 12000)) : i_callS Z mJ7_copyOf_c38d5 2 d mc ms (i_putR 3 k K) ls [.int (nI N), .ref r, .ref bx] S cs ss := by
  refine ⟨by simp, by simp [Value.category], 1, 1, 12000, by omega, by omega, by omega, ?_⟩
  refine m_copyJ (Nat.le_refl 1) hr hk (by omega) (by omega) (by omega) (Nat.le_refl 1) (by omega) (fun q hq => ?_)
  have hbq : bx ≠ q := fun w => hq (w ▸ h1)
  have hrq : r ≠ q := fun w => hq (w ▸ hr)
  simp [i_aload, i_iload, i_lload, i_istore, i_lstore, i_astore, i_iinc, i_push, i_getI, i_getJ, i_getR, i_putI, i_putJ, i_putR, i_iadd, i_isub, i_imul, i_iand, i_ior, i_ixor, i_ishl, i_ishr, i_iushr, i_idiv, i_irem, i_ladd, i_lsub, i_lmul, i_land, i_lor, i_lxor, i_ldiv, i_lrem, i_lshl, i_lshr, i_lcmp, i_ineg, i_lneg, i_i2l, i_l2i, i_i2b, i_i2c, i_dup, i_pop, i_dup_x1, i_dup2, i_icmp_eq, i_icmp_lt, i_icmp_ge, i_icmp_gt, i_icmp_le, i_if_eq, i_if_lt, i_if_ge, i_if_gt, i_if_le, i_goto, i_ifnull, i_iald, i_bald, i_zald, i_lald, i_aald, i_iast, i_bast, i_zast, i_last, i_alen, i_iret, i_lret, i_aret, i_vret, i_oinit, i_cast, i_tsw, i_cases, i_mmin, i_mmax, i_lmin, i_throw, nb0, nb1, nint, nby0, rf_s, rf_n, of_r, of_n, tk_orf_rf, tk_c2, tk_ls, Value.category, tk_isR_ref, tk_isR_rf, tk_isR_null, z_q_L_s_I, z_q_K_s_I, z_q_I_s_I, z_q_J_s_I, z_q_R_s_I, z_q_n_s_I, z_q_aI_s_I, z_q_aJ_s_I, z_q_aR_s_I, z_q_L_s_J, z_q_K_s_J, z_q_I_s_J, z_q_J_s_J, z_q_R_s_J, z_q_n_s_J, z_q_aI_s_J, z_q_aJ_s_J, z_q_aR_s_J, z_q_L_s_R, z_q_K_s_R, z_q_I_s_R, z_q_J_s_R, z_q_R_s_R, z_q_n_s_R, z_q_aI_s_R, z_q_aJ_s_R, z_q_aR_s_R, z_q_L_s_aI, z_q_K_s_aI, z_q_I_s_aI, z_q_J_s_aI, z_q_R_s_aI, z_q_n_s_aI, z_q_aI_s_aI, z_q_aJ_s_aI, z_q_aR_s_aI, z_q_L_s_aJ, z_q_K_s_aJ, z_q_I_s_aJ, z_q_J_s_aJ, z_q_R_s_aJ, z_q_n_s_aJ, z_q_aI_s_aJ, z_q_aJ_s_aJ, z_q_aR_s_aJ, z_q_L_s_aR, z_q_K_s_aR, z_q_I_s_aR, z_q_J_s_aR, z_q_R_s_aR, z_q_n_s_aR, z_q_aI_s_aR, z_q_aJ_s_aR, z_q_aR_s_aR, z_q_L_s_new, z_q_K_s_new, z_q_I_s_new, z_q_J_s_new, z_q_R_s_new, z_q_n_s_new, z_q_aI_s_new, z_q_aJ_s_new, z_q_aR_s_new, z_q_L_s_arr, z_q_K_s_arr, z_q_I_s_arr, z_q_J_s_arr, z_q_R_s_arr, z_q_n_s_arr, z_q_aI_s_arr, z_q_aJ_s_arr, z_q_aR_s_arr, hbq, h1, h2]
  refine h q _ ⟨hq, rfl, fun b hb hbb => ?_, ?_, fun c j => rfl, fun c j => rfl, fun j => ?_, ?_, ?_, fun i hi => Or.inr rfl, fun i hi => Or.inl ?_⟩
  · have hbq2 : b ≠ q := fun w => hq (w ▸ hb)
    simp [sameAt, z_q_L_s_I, z_q_K_s_I, z_q_I_s_I, z_q_J_s_I, z_q_R_s_I, z_q_n_s_I, z_q_aI_s_I, z_q_aJ_s_I, z_q_aR_s_I, z_q_L_s_J, z_q_K_s_J, z_q_I_s_J, z_q_J_s_J, z_q_R_s_J, z_q_n_s_J, z_q_aI_s_J, z_q_aJ_s_J, z_q_aR_s_J, z_q_L_s_R, z_q_K_s_R, z_q_I_s_R, z_q_J_s_R, z_q_R_s_R, z_q_n_s_R, z_q_aI_s_R, z_q_aJ_s_R, z_q_aR_s_R, z_q_L_s_aI, z_q_K_s_aI, z_q_I_s_aI, z_q_J_s_aI, z_q_R_s_aI, z_q_n_s_aI, z_q_aI_s_aI, z_q_aJ_s_aI, z_q_aR_s_aI, z_q_L_s_aJ, z_q_K_s_aJ, z_q_I_s_aJ, z_q_J_s_aJ, z_q_R_s_aJ, z_q_n_s_aJ, z_q_aI_s_aJ, z_q_aJ_s_aJ, z_q_aR_s_aJ, z_q_L_s_aR, z_q_K_s_aR, z_q_I_s_aR, z_q_J_s_aR, z_q_R_s_aR, z_q_n_s_aR, z_q_aI_s_aR, z_q_aJ_s_aR, z_q_aR_s_aR, z_q_L_s_new, z_q_K_s_new, z_q_I_s_new, z_q_J_s_new, z_q_R_s_new, z_q_n_s_new, z_q_aI_s_new, z_q_aJ_s_new, z_q_aR_s_new, z_q_L_s_arr, z_q_K_s_arr, z_q_I_s_arr, z_q_J_s_arr, z_q_R_s_arr, z_q_n_s_arr, z_q_aI_s_arr, z_q_aJ_s_arr, z_q_aR_s_arr, hbq2, hbb, hb]
  · simp [z_q_L_s_I, z_q_K_s_I, z_q_I_s_I, z_q_J_s_I, z_q_R_s_I, z_q_n_s_I, z_q_aI_s_I, z_q_aJ_s_I, z_q_aR_s_I, z_q_L_s_J, z_q_K_s_J, z_q_I_s_J, z_q_J_s_J, z_q_R_s_J, z_q_n_s_J, z_q_aI_s_J, z_q_aJ_s_J, z_q_aR_s_J, z_q_L_s_R, z_q_K_s_R, z_q_I_s_R, z_q_J_s_R, z_q_R_s_R, z_q_n_s_R, z_q_aI_s_R, z_q_aJ_s_R, z_q_aR_s_R, z_q_L_s_aI, z_q_K_s_aI, z_q_I_s_aI, z_q_J_s_aI, z_q_R_s_aI, z_q_n_s_aI, z_q_aI_s_aI, z_q_aJ_s_aI, z_q_aR_s_aI, z_q_L_s_aJ, z_q_K_s_aJ, z_q_I_s_aJ, z_q_J_s_aJ, z_q_R_s_aJ, z_q_n_s_aJ, z_q_aI_s_aJ, z_q_aJ_s_aJ, z_q_aR_s_aJ, z_q_L_s_aR, z_q_K_s_aR, z_q_I_s_aR, z_q_J_s_aR, z_q_R_s_aR, z_q_n_s_aR, z_q_aI_s_aR, z_q_aJ_s_aR, z_q_aR_s_aR, z_q_L_s_new, z_q_K_s_new, z_q_I_s_new, z_q_J_s_new, z_q_R_s_new, z_q_n_s_new, z_q_aI_s_new, z_q_aJ_s_new, z_q_aR_s_new, z_q_L_s_arr, z_q_K_s_arr, z_q_I_s_arr, z_q_J_s_arr, z_q_R_s_arr, z_q_n_s_arr, z_q_aI_s_arr, z_q_aJ_s_arr, z_q_aR_s_arr, hbq]
  · simp [z_q_L_s_I, z_q_K_s_I, z_q_I_s_I, z_q_J_s_I, z_q_R_s_I, z_q_n_s_I, z_q_aI_s_I, z_q_aJ_s_I, z_q_aR_s_I, z_q_L_s_J, z_q_K_s_J, z_q_I_s_J, z_q_J_s_J, z_q_R_s_J, z_q_n_s_J, z_q_aI_s_J, z_q_aJ_s_J, z_q_aR_s_J, z_q_L_s_R, z_q_K_s_R, z_q_I_s_R, z_q_J_s_R, z_q_R_s_R, z_q_n_s_R, z_q_aI_s_R, z_q_aJ_s_R, z_q_aR_s_R, z_q_L_s_aI, z_q_K_s_aI, z_q_I_s_aI, z_q_J_s_aI, z_q_R_s_aI, z_q_n_s_aI, z_q_aI_s_aI, z_q_aJ_s_aI, z_q_aR_s_aI, z_q_L_s_aJ, z_q_K_s_aJ, z_q_I_s_aJ, z_q_J_s_aJ, z_q_R_s_aJ, z_q_n_s_aJ, z_q_aI_s_aJ, z_q_aJ_s_aJ, z_q_aR_s_aJ, z_q_L_s_aR, z_q_K_s_aR, z_q_I_s_aR, z_q_J_s_aR, z_q_R_s_aR, z_q_n_s_aR, z_q_aI_s_aR, z_q_aJ_s_aR, z_q_aR_s_aR, z_q_L_s_new, z_q_K_s_new, z_q_I_s_new, z_q_J_s_new, z_q_R_s_new, z_q_n_s_new, z_q_aI_s_new, z_q_aJ_s_new, z_q_aR_s_new, z_q_L_s_arr, z_q_K_s_arr, z_q_I_s_arr, z_q_J_s_arr, z_q_R_s_arr, z_q_n_s_arr, z_q_aI_s_arr, z_q_aJ_s_arr, z_q_aR_s_arr]
  · simp [z_q_L_s_I, z_q_K_s_I, z_q_I_s_I, z_q_J_s_I, z_q_R_s_I, z_q_n_s_I, z_q_aI_s_I, z_q_aJ_s_I, z_q_aR_s_I, z_q_L_s_J, z_q_K_s_J, z_q_I_s_J, z_q_J_s_J, z_q_R_s_J, z_q_n_s_J, z_q_aI_s_J, z_q_aJ_s_J, z_q_aR_s_J, z_q_L_s_R, z_q_K_s_R, z_q_I_s_R, z_q_J_s_R, z_q_R_s_R, z_q_n_s_R, z_q_aI_s_R, z_q_aJ_s_R, z_q_aR_s_R, z_q_L_s_aI, z_q_K_s_aI, z_q_I_s_aI, z_q_J_s_aI, z_q_R_s_aI, z_q_n_s_aI, z_q_aI_s_aI, z_q_aJ_s_aI, z_q_aR_s_aI, z_q_L_s_aJ, z_q_K_s_aJ, z_q_I_s_aJ, z_q_J_s_aJ, z_q_R_s_aJ, z_q_n_s_aJ, z_q_aI_s_aJ, z_q_aJ_s_aJ, z_q_aR_s_aJ, z_q_L_s_aR, z_q_K_s_aR, z_q_I_s_aR, z_q_J_s_aR, z_q_R_s_aR, z_q_n_s_aR, z_q_aI_s_aR, z_q_aJ_s_aR, z_q_aR_s_aR, z_q_L_s_new, z_q_K_s_new, z_q_I_s_new, z_q_J_s_new, z_q_R_s_new, z_q_n_s_new, z_q_aI_s_new, z_q_aJ_s_new, z_q_aR_s_new, z_q_L_s_arr, z_q_K_s_arr, z_q_I_s_arr, z_q_J_s_arr, z_q_R_s_arr, z_q_n_s_arr, z_q_aI_s_arr, z_q_aJ_s_arr, z_q_aR_s_arr]
  · simp [z_q_L_s_I, z_q_K_s_I, z_q_I_s_I, z_q_J_s_I, z_q_R_s_I, z_q_n_s_I, z_q_aI_s_I, z_q_aJ_s_I, z_q_aR_s_I, z_q_L_s_J, z_q_K_s_J, z_q_I_s_J, z_q_J_s_J, z_q_R_s_J, z_q_n_s_J, z_q_aI_s_J, z_q_aJ_s_J, z_q_aR_s_J, z_q_L_s_R, z_q_K_s_R, z_q_I_s_R, z_q_J_s_R, z_q_R_s_R, z_q_n_s_R, z_q_aI_s_R, z_q_aJ_s_R, z_q_aR_s_R, z_q_L_s_aI, z_q_K_s_aI, z_q_I_s_aI, z_q_J_s_aI, z_q_R_s_aI, z_q_n_s_aI, z_q_aI_s_aI, z_q_aJ_s_aI, z_q_aR_s_aI, z_q_L_s_aJ, z_q_K_s_aJ, z_q_I_s_aJ, z_q_J_s_aJ, z_q_R_s_aJ, z_q_n_s_aJ, z_q_aI_s_aJ, z_q_aJ_s_aJ, z_q_aR_s_aJ, z_q_L_s_aR, z_q_K_s_aR, z_q_I_s_aR, z_q_J_s_aR, z_q_R_s_aR, z_q_n_s_aR, z_q_aI_s_aR, z_q_aJ_s_aR, z_q_aR_s_aR, z_q_L_s_new, z_q_K_s_new, z_q_I_s_new, z_q_J_s_new, z_q_R_s_new, z_q_n_s_new, z_q_aI_s_new, z_q_aJ_s_new, z_q_aR_s_new, z_q_L_s_arr, z_q_K_s_arr, z_q_I_s_arr, z_q_J_s_arr, z_q_R_s_arr, z_q_n_s_arr, z_q_aI_s_arr, z_q_aJ_s_arr, z_q_aR_s_arr]
  · simp [z_q_L_s_I, z_q_K_s_I, z_q_I_s_I, z_q_J_s_I, z_q_R_s_I, z_q_n_s_I, z_q_aI_s_I, z_q_aJ_s_I, z_q_aR_s_I, z_q_L_s_J, z_q_K_s_J, z_q_I_s_J, z_q_J_s_J, z_q_R_s_J, z_q_n_s_J, z_q_aI_s_J, z_q_aJ_s_J, z_q_aR_s_J, z_q_L_s_R, z_q_K_s_R, z_q_I_s_R, z_q_J_s_R, z_q_R_s_R, z_q_n_s_R, z_q_aI_s_R, z_q_aJ_s_R, z_q_aR_s_R, z_q_L_s_aI, z_q_K_s_aI, z_q_I_s_aI, z_q_J_s_aI, z_q_R_s_aI, z_q_n_s_aI, z_q_aI_s_aI, z_q_aJ_s_aI, z_q_aR_s_aI, z_q_L_s_aJ, z_q_K_s_aJ, z_q_I_s_aJ, z_q_J_s_aJ, z_q_R_s_aJ, z_q_n_s_aJ, z_q_aI_s_aJ, z_q_aJ_s_aJ, z_q_aR_s_aJ, z_q_L_s_aR, z_q_K_s_aR, z_q_I_s_aR, z_q_J_s_aR, z_q_R_s_aR, z_q_n_s_aR, z_q_aI_s_aR, z_q_aJ_s_aR, z_q_aR_s_aR, z_q_L_s_new, z_q_K_s_new, z_q_I_s_new, z_q_J_s_new, z_q_R_s_new, z_q_n_s_new, z_q_aI_s_new, z_q_aJ_s_new, z_q_aR_s_new, z_q_L_s_arr, z_q_K_s_arr, z_q_I_s_arr, z_q_J_s_arr, z_q_R_s_arr, z_q_n_s_arr, z_q_aI_s_arr, z_q_aJ_s_arr, z_q_aR_s_arr]
    rw [pk_cpy_in (Nat.zero_le i) (by omega)]
    simp
/-- a row that waits its turn -/
theorem stp.row {S1 : tk_S} {bx k q r N kd M b j cap c : Nat} (h : stp S S1 bx k q r N kd M) (hj : j ≠ k) (hb : q_R S 3 j bx = some b ∧ b ∈ q_L S ∧ q_K S b = c ∧ q_n S b = cap) (hne : b ≠ bx) : q_R S1 3 j bx = some b ∧ b ∈ q_L S1 ∧ q_K S1 b = c ∧ q_n S1 b = cap := by
  obtain ⟨-, h2, h3, -, -, -, h7, -⟩ := h
  obtain ⟨g1, g2, g3, g4⟩ := hb
  obtain ⟨k1, k2, -, -, -, k6, -⟩ := h3 b g2 hne
  exact ⟨by rw [h7, if_neg hj]; exact g1, k1, k2.trans g3, k6.trans g4⟩
/-- the new one -/
theorem stp.new {S1 : tk_S} {bx k q r N kd M : Nat} (h : stp S S1 bx k q r N kd M) : q_R S1 3 k bx = some q ∧ q ∈ q_L S1 ∧ q_K S1 q = kd ∧ q_n S1 q = N := by
  obtain ⟨-, h2, -, -, -, -, h7, h8, h9, -⟩ := h
  exact ⟨by rw [h7, if_pos rfl], by rw [h2]; exact List.mem_append_right _ (List.mem_singleton.mpr rfl), h8, h9⟩
theorem stp.box {S1 : tk_S} {bx k q r N kd M : Nat} (h : stp S S1 bx k q r N kd M) (h1 : bx ∈ q_L S) (h2 : q_K S bx = 3) : bx ∈ q_L S1 ∧ q_K S1 bx = 3 := ⟨by rw [h.2.1]; exact List.mem_append_left _ h1, h.2.2.2.1.trans h2⟩
/-- the rows behind makeRoom: the same, or new ones with the same beginning -/
def roomed (S S' : tk_S) (bx n cap r2 r3 r4 r5 r6 : Nat) (cap' p2 p3 p4 p5 p6 : Nat) : Prop :=
  isRows S' bx cap' p2 p3 p4 p5 p6 ∧ q_I S' 3 1 bx = q_I S 3 1 bx ∧ q_J S' 3 0 bx = q_J S 3 0 bx ∧ n < cap' ∧ (∀ i, i < n → q_aI S' p2 i = q_aI S r2 i ∧ q_aI S' p3 i = q_aI S r3 i ∧ q_aI S' p4 i = q_aI S r4 i ∧ q_aJ S' p5 i = q_aJ S r5 i ∧ q_aJ S' p6 i = q_aJ S r6 i) ∧
  (∀ b, b ∈ q_L S → b ≠ bx → sameAt S S' b) ∧ (∀ b, b ∈ q_L S → b ∈ q_L S') ∧ (∀ b, b ∈ q_L S' → b ∈ q_L S ∨ b = p2 ∨ b = p3 ∨ b = p4 ∨ b = p5 ∨ b = p6) ∧
  ((p2 = r2 ∧ p3 = r3 ∧ p4 = r4 ∧ p5 = r5 ∧ p6 = r6) ∨ (p2 ∉ q_L S ∧ p3 ∉ q_L S ∧ p4 ∉ q_L S ∧ p5 ∉ q_L S ∧ p6 ∉ q_L S))
/-- five steps make the rows anew -/
theorem roomed5 {S S1 S2 S3 S4 S5 : tk_S} {bx n cap N r2 r3 r4 r5 r6 q2 q3 q4 q5 q6 : Nat} (hr : isRows S bx cap r2 r3 r4 r5 r6) (hnc : n = cap) (hcN : cap < N) (hN : N ≤ 12000)
    (s1 : stp S S1 bx 2 q2 r2 N 15 cap) (s2 : stp S1 S2 bx 3 q3 r3 N 15 cap) (s3 : stp S2 S3 bx 4 q4 r4 N 15 cap) (s4 : stp S3 S4 bx 5 q5 r5 N 16 cap) (s5 : stp S4 S5 bx 6 q6 r6 N 16 cap) : roomed S S5 bx n cap r2 r3 r4 r5 r6 N q2 q3 q4 q5 q6 := by
  obtain ⟨b1, b2, R2, R3, R4, R5, R6, n1, n2, n3, n4, g1, g2⟩ := hr
  subst hnc
  have mb : ∀ (T : tk_S) r c, q_K T bx = 3 → q_K T r = c → c ≠ 3 → r ≠ bx := fun T r c hb hc h3 w => h3 (by rw [← hc, w, hb])
  have B1 := s1.box b1 b2
  have B2 := s2.box B1.1 B1.2
  have B3 := s3.box B2.1 B2.2
  have B4 := s4.box B3.1 B3.2
  have B5 := s5.box B4.1 B4.2
  have x3 := mb S r3 15 b2 R3.2.2.1 (by decide)
  have x4 := mb S r4 15 b2 R4.2.2.1 (by decide)
  have x5 := mb S r5 16 b2 R5.2.2.1 (by decide)
  have x6 := mb S r6 16 b2 R6.2.2.1 (by decide)
  have u2 := s1.new
  have u3 := s2.new
  have u4 := s3.new
  have u5 := s4.new
  have u6 := s5.new
  have y2 := mb S1 q2 15 B1.2 u2.2.2.1 (by decide)
  have y3 := mb S2 q3 15 B2.2 u3.2.2.1 (by decide)
  have y4 := mb S3 q4 15 B3.2 u4.2.2.1 (by decide)
  have y5 := mb S4 q5 16 B4.2 u5.2.2.1 (by decide)
  have w12 : ∀ b, b ∈ q_L S → b ≠ bx → sameAt S S1 b := s1.2.2.1
  have w13 : ∀ b, b ∈ q_L S → b ≠ bx → sameAt S S2 b := fun b h k => (w12 b h k).trans (s2.2.2.1 b (w12 b h k).1 k)
  have w14 : ∀ b, b ∈ q_L S → b ≠ bx → sameAt S S3 b := fun b h k => (w13 b h k).trans (s3.2.2.1 b (w13 b h k).1 k)
  have w15 : ∀ b, b ∈ q_L S → b ≠ bx → sameAt S S4 b := fun b h k => (w14 b h k).trans (s4.2.2.1 b (w14 b h k).1 k)
  have w16 : ∀ b, b ∈ q_L S → b ≠ bx → sameAt S S5 b := fun b h k => (w15 b h k).trans (s5.2.2.1 b (w15 b h k).1 k)
  have k2 : sameAt S1 S5 q2 := by
    have a := s2.2.2.1 q2 u2.2.1 y2
    have a := a.trans (s3.2.2.1 q2 a.1 y2)
    have a := a.trans (s4.2.2.1 q2 a.1 y2)
    exact a.trans (s5.2.2.1 q2 a.1 y2)
  have k3 : sameAt S2 S5 q3 := by
    have a := s3.2.2.1 q3 u3.2.1 y3
    have a := a.trans (s4.2.2.1 q3 a.1 y3)
    exact a.trans (s5.2.2.1 q3 a.1 y3)
  have k4 : sameAt S3 S5 q4 := by
    have a := s4.2.2.1 q4 u4.2.1 y4
    exact a.trans (s5.2.2.1 q4 a.1 y4)
  have k5 : sameAt S4 S5 q5 := s5.2.2.1 q5 u5.2.1 y5
  have m12 : ∀ b, b ∈ q_L S → b ∈ q_L S1 := fun b h => by rw [s1.2.1]; exact List.mem_append_left _ h
  have m23 : ∀ b, b ∈ q_L S1 → b ∈ q_L S2 := fun b h => by rw [s2.2.1]; exact List.mem_append_left _ h
  have m34 : ∀ b, b ∈ q_L S2 → b ∈ q_L S3 := fun b h => by rw [s3.2.1]; exact List.mem_append_left _ h
  have m45 : ∀ b, b ∈ q_L S3 → b ∈ q_L S4 := fun b h => by rw [s4.2.1]; exact List.mem_append_left _ h
  have m56 : ∀ b, b ∈ q_L S4 → b ∈ q_L S5 := fun b h => by rw [s5.2.1]; exact List.mem_append_left _ h
  have f3 : q3 ∉ q_L S := fun h => s2.1 (m12 _ h)
  have f4 : q4 ∉ q_L S := fun h => s3.1 (m23 _ (m12 _ h))
  have f5 : q5 ∉ q_L S := fun h => s4.1 (m34 _ (m23 _ (m12 _ h)))
  have f6 : q6 ∉ q_L S := fun h => s5.1 (m45 _ (m34 _ (m23 _ (m12 _ h))))
  have p2 : q_R S5 3 2 bx = some q2 := by
    rw [s5.2.2.2.2.2.2.1, if_neg (by decide), s4.2.2.2.2.2.2.1, if_neg (by decide), s3.2.2.2.2.2.2.1, if_neg (by decide), s2.2.2.2.2.2.2.1, if_neg (by decide)]; exact u2.1
  have p3 : q_R S5 3 3 bx = some q3 := by
    rw [s5.2.2.2.2.2.2.1, if_neg (by decide), s4.2.2.2.2.2.2.1, if_neg (by decide), s3.2.2.2.2.2.2.1, if_neg (by decide)]; exact u3.1
  have p4 : q_R S5 3 4 bx = some q4 := by
    rw [s5.2.2.2.2.2.2.1, if_neg (by decide), s4.2.2.2.2.2.2.1, if_neg (by decide)]; exact u4.1
  have p5 : q_R S5 3 5 bx = some q5 := by
    rw [s5.2.2.2.2.2.2.1, if_neg (by decide)]; exact u5.1
  refine ⟨⟨B5.1, B5.2, ⟨p2, k2.1, k2.2.1.trans u2.2.2.1, k2.2.2.2.2.2.1.trans u2.2.2.2⟩, ⟨p3, k3.1, k3.2.1.trans u3.2.2.1, k3.2.2.2.2.2.1.trans u3.2.2.2⟩, ⟨p4, k4.1, k4.2.1.trans u4.2.2.1, k4.2.2.2.2.2.1.trans u4.2.2.2⟩, ⟨p5, k5.1, k5.2.1.trans u5.2.2.1, k5.2.2.2.2.2.1.trans u5.2.2.2⟩, u6,
    fun h => s2.1 (h ▸ u2.2.1), fun h => s3.1 (m23 _ (h ▸ u2.2.1)), fun h => s3.1 (h ▸ u3.2.1), fun h => s5.1 (h ▸ u5.2.1), by omega, hN⟩, ?_, ?_, hcN, fun i hi => ⟨?_, ?_, ?_, ?_, ?_⟩, w16, fun b h => m56 _ (m45 _ (m34 _ (m23 _ (m12 _ h)))), ?_, Or.inr ⟨s1.1, f3, f4, f5, f6⟩⟩
  · rw [s5.2.2.2.2.1, s4.2.2.2.2.1, s3.2.2.2.2.1, s2.2.2.2.2.1, s1.2.2.2.2.1]
  · rw [s5.2.2.2.2.2.1, s4.2.2.2.2.2.1, s3.2.2.2.2.2.1, s2.2.2.2.2.2.1, s1.2.2.2.2.2.1]
  · rw [k2.2.2.2.2.2.2.1]
    exact (s1.2.2.2.2.2.2.2.2.2.1 i hi).resolve_right (by decide)
  · rw [k3.2.2.2.2.2.2.1, (s2.2.2.2.2.2.2.2.2.2.1 i hi).resolve_right (by decide), (w12 r3 R3.2.1 x3).2.2.2.2.2.2.1]
  · rw [k4.2.2.2.2.2.2.1, (s3.2.2.2.2.2.2.2.2.2.1 i hi).resolve_right (by decide), (w13 r4 R4.2.1 x4).2.2.2.2.2.2.1]
  · rw [k5.2.2.2.2.2.2.2.1, (s4.2.2.2.2.2.2.2.2.2.2 i hi).resolve_right (by decide), (w14 r5 R5.2.1 x5).2.2.2.2.2.2.2.1]
  · rw [(s5.2.2.2.2.2.2.2.2.2.2 i hi).resolve_right (by decide), (w15 r6 R6.2.1 x6).2.2.2.2.2.2.2.1]
  · intro b hb
    rw [s5.2.1, s4.2.1, s3.2.1, s2.2.1, s1.2.1] at hb
    simp only [List.mem_append, List.mem_singleton] at hb
    rcases hb with ((((h | h) | h) | h) | h) | h
    · exact Or.inl h
    · exact Or.inr (Or.inl h)
    · exact Or.inr (Or.inr (Or.inl h))
    · exact Or.inr (Or.inr (Or.inr (Or.inl h)))
    · exact Or.inr (Or.inr (Or.inr (Or.inr (Or.inl h))))
    · exact Or.inr (Or.inr (Or.inr (Or.inr (Or.inr h))))
set_option maxHeartbeats 4000000 in
theorem m_makeRoom {bx n cap r2 r3 r4 r5 r6 : Nat} (hd : 2 ≤ d) (hr : isRows S bx cap r2 r3 r4 r5 r6) (hn : q_I S 3 1 bx = nI n) (hnc : n ≤ cap) (hn12 : n < 12000) (hmc : 5 ≤ mc) (hms : 60000 ≤ ms)
    (h : ∀ S' cap' p2 p3 p4 p5 p6, roomed S S' bx n cap r2 r3 r4 r5 r6 cap' p2 p3 p4 p5 p6 → QR none S') : tk_M Z mX2_makeRoom d mc ms [.ref bx] S QR tk_noX := by
  have hr0 := hr
  obtain ⟨b1, b2, ⟨a1, a2, a3, a4⟩, ⟨c1, c2, c3, c4⟩, ⟨d1, d2, d3, d4⟩, ⟨e1, e2, e3, e4⟩, ⟨f1, f2, f3, f4⟩, n1, n2, n3, n4, g1, g2⟩ := hr0
  refine M_X2_makeRoom (Nat.le_of_ble_eq_true rfl) (fun E hE => hE _ _ _ _ _ ?_)
  show t_X2_makeRoom_0 Z d mc ms QR E [some (.ref bx), none] [] S 0 0
  simp [t_X2_makeRoom_0, i_aload, i_iload, i_lload, i_istore, i_lstore, i_astore, i_iinc, i_push, i_getI, i_getJ, i_getR, i_putI, i_putJ, i_putR, i_iadd, i_isub, i_imul, i_iand, i_ior, i_ixor, i_ishl, i_ishr, i_iushr, i_idiv, i_irem, i_ladd, i_lsub, i_lmul, i_land, i_lor, i_lxor, i_ldiv, i_lrem, i_lshl, i_lshr, i_lcmp, i_ineg, i_lneg, i_i2l, i_l2i, i_i2b, i_i2c, i_dup, i_pop, i_dup_x1, i_dup2, i_icmp_eq, i_icmp_lt, i_icmp_ge, i_icmp_gt, i_icmp_le, i_if_eq, i_if_lt, i_if_ge, i_if_gt, i_if_le, i_goto, i_ifnull, i_iald, i_bald, i_zald, i_lald, i_aald, i_iast, i_bast, i_zast, i_last, i_alen, i_iret, i_lret, i_aret, i_vret, i_oinit, i_cast, i_tsw, i_cases, i_mmin, i_mmax, i_lmin, i_throw, nb0, nb1, nint, nby0, rf_s, rf_n, of_r, of_n, tk_orf_rf, tk_c2, tk_ls, Value.category, tk_isR_ref, tk_isR_rf, tk_isR_null, b1, b2, a1, a2, a3, a4, hn]
  refine ⟨fun z => ?_, fun z => ⟨fun z2 => ?_, fun z2 => ?_⟩⟩
  · have z3 : n < cap := Nat.lt_of_not_le (fun w => absurd z (Int32.not_lt.mpr (nI_le w (by omega))))
    exact h S cap r2 r3 r4 r5 r6 ⟨hr, rfl, rfl, z3, fun i hi => ⟨rfl, rfl, rfl, rfl, rfl⟩, fun b hb _ => ⟨hb, rfl, fun _ _ => rfl, fun _ _ => rfl, fun _ _ => rfl, rfl, rfl, rfl, rfl⟩, fun b hb => hb, fun b hb => Or.inl hb, Or.inl ⟨rfl, rfl, rfl, rfl, rfl⟩⟩
  · have z3 : n = cap := by
      have : ¬ n < cap := fun (w : n < cap) => nI_ge w (by omega) z
      omega
    have em : (2 : Int32) * nI n = nI (2 * n) := pk_mul 2 n
    have emin : (if (12000 : Int32) < nI (2 * n) then (12000 : Int32) else nI (2 * n)) = nI (min (2 * n) 12000) := by
      rw [show (12000 : Int32) = nI 12000 from rfl]
      by_cases c : 12000 < 2 * n
      · rw [if_pos (nI_lt c (by omega)), Nat.min_eq_right (by omega)]
      · rw [if_neg (nI_nlt (by omega) (by omega)), Nat.min_eq_left (by omega)]
    generalize hN : min (2 * n) 12000 = N at emin
    have hNc : cap < N := by omega
    have hN12 : N ≤ 12000 := by omega
    clear hN
    have q2 : 0 + 12000 ≤ ms := by omega
    have q3 : 0 + 12000 + 12000 ≤ ms := by omega
    have q4 : 0 + 12000 + 12000 + 12000 ≤ ms := by omega
    have q5 : 0 + 12000 + 12000 + 12000 + 12000 ≤ ms := by omega
    have q6 : 0 + 12000 + 12000 + 12000 + 12000 + 12000 ≤ ms := by omega
    have o2 : 0 + 1 ≤ mc := by omega
    have o3 : 0 + 1 + 1 ≤ mc := by omega
    have o4 : 0 + 1 + 1 + 1 ≤ mc := by omega
    have o5 : 0 + 1 + 1 + 1 + 1 ≤ mc := by omega
    have o6 : 0 + 1 + 1 + 1 + 1 + 1 ≤ mc := by omega
    have d0 : 1 ≤ d := by omega
    have fin : ∀ S1 S2 S3 S4 S5 q2 q3 q4 q5 q6, stp S S1 bx 2 q2 r2 N 15 cap → stp S1 S2 bx 3 q3 r3 N 15 cap → stp S2 S3 bx 4 q4 r4 N 15 cap → stp S3 S4 bx 5 q5 r5 N 16 cap → stp S4 S5 bx 6 q6 r6 N 16 cap → QR none S5 := fun S1 S2 S3 S4 S5 q2 q3 q4 q5 q6 s1 s2 s3 s4 s5 => h _ _ _ _ _ _ _ (roomed5 hr z3 hNc hN12 s1 s2 s3 s4 s5)
    clear h hms hmc
    simp [i_aload, i_iload, i_lload, i_istore, i_lstore, i_astore, i_iinc, i_push, i_getI, i_getJ, i_getR, i_putI, i_putJ, i_putR, i_iadd, i_isub, i_imul, i_iand, i_ior, i_ixor, i_ishl, i_ishr, i_iushr, i_idiv, i_irem, i_ladd, i_lsub, i_lmul, i_land, i_lor, i_lxor, i_ldiv, i_lrem, i_lshl, i_lshr, i_lcmp, i_ineg, i_lneg, i_i2l, i_l2i, i_i2b, i_i2c, i_dup, i_pop, i_dup_x1, i_dup2, i_icmp_eq, i_icmp_lt, i_icmp_ge, i_icmp_gt, i_icmp_le, i_if_eq, i_if_lt, i_if_ge, i_if_gt, i_if_le, i_goto, i_ifnull, i_iald, i_bald, i_zald, i_lald, i_aald, i_iast, i_bast, i_zast, i_last, i_alen, i_iret, i_lret, i_aret, i_vret, i_oinit, i_cast, i_tsw, i_cases, i_mmin, i_mmax, i_lmin, i_throw, nb0, nb1, nint, nby0, rf_s, rf_n, of_r, of_n, tk_orf_rf, tk_c2, tk_ls, Value.category, tk_isR_ref, tk_isR_rf, tk_isR_null, b1, b2, a1, a2, a3, a4, hn, em, emin]
    refine ⟨d0, ?_⟩
    have mb : ∀ (T : tk_S) r c, q_K T bx = 3 → q_K T r = c → c ≠ 3 → r ≠ bx := fun T r c hb hc h3 w => h3 (by rw [← hc, w, hb])
    have x3 := mb S r3 15 b2 c3 (by decide)
    have x4 := mb S r4 15 b2 d3 (by decide)
    have x5 := mb S r5 16 b2 e3 (by decide)
    have x6 := mb S r6 16 b2 f3 (by decide)
    refine grow1I (cap := cap) hd b1 b2 a2 a3 a4 hNc hN12 o2 q2 (fun a2 S1 s1 => ?_)
    have B1 := s1.box b1 b2
    have R3 := s1.row (j := 3) (by decide) ⟨c1, c2, c3, c4⟩ x3
    have R4 := s1.row (j := 4) (by decide) ⟨d1, d2, d3, d4⟩ x4
    have R5 := s1.row (j := 5) (by decide) ⟨e1, e2, e3, e4⟩ x5
    have R6 := s1.row (j := 6) (by decide) ⟨f1, f2, f3, f4⟩ x6
    simp only [i_aload, i_getR, i_iload, List.getD_cons_zero, List.getD_cons_succ, rf_s, tk_isR_ref, true_and, B1.1, B1.2, R3.1]
    refine grow1I (cap := cap) hd B1.1 B1.2 R3.2.1 R3.2.2.1 R3.2.2.2 hNc hN12 o3 q3 (fun a3 S2 s2 => ?_)
    have B2 := s2.box B1.1 B1.2
    have R4 := s2.row (j := 4) (by decide) R4 x4
    have R5 := s2.row (j := 5) (by decide) R5 x5
    have R6 := s2.row (j := 6) (by decide) R6 x6
    simp only [i_aload, i_getR, i_iload, List.getD_cons_zero, List.getD_cons_succ, rf_s, tk_isR_ref, true_and, B2.1, B2.2, R4.1]
    refine grow1I (cap := cap) hd B2.1 B2.2 R4.2.1 R4.2.2.1 R4.2.2.2 hNc hN12 o4 q4 (fun a4 S3 s3 => ?_)
    have B3 := s3.box B2.1 B2.2
    have R5 := s3.row (j := 5) (by decide) R5 x5
    have R6 := s3.row (j := 6) (by decide) R6 x6
    simp only [i_aload, i_getR, i_iload, List.getD_cons_zero, List.getD_cons_succ, rf_s, tk_isR_ref, true_and, B3.1, B3.2, R5.1]
    refine grow1J (cap := cap) hd B3.1 B3.2 R5.2.1 R5.2.2.1 R5.2.2.2 hNc hN12 o5 q5 (fun a5 S4 s4 => ?_)
    have B4 := s4.box B3.1 B3.2
    have R6 := s4.row (j := 6) (by decide) R6 x6
    simp only [i_aload, i_getR, i_iload, List.getD_cons_zero, List.getD_cons_succ, rf_s, tk_isR_ref, true_and, B4.1, B4.2, R6.1]
    refine grow1J (cap := cap) hd B4.1 B4.2 R6.2.1 R6.2.2.1 R6.2.2.2 hNc hN12 o6 q6 (fun a6 S5 s5 => ?_)
    have fin := fin S1 S2 S3 S4 S5 _ _ _ _ _ s1 s2 s3 s4 s5
    exact ⟨o6, q6, fin⟩
  · exact absurd z2 (nI_ge (b := 12000) hn12 (by omega))
end BOX

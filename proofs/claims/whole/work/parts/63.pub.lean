/-! THE CLASS'S CALLS: travellers, gates -/
section PUB3
variable {Z : tk_Z} {d mc ms : Nat} {S : tk_S} {QR : tk_R} {QX : String → tk_S → Prop} {ρ : Nat → Nat} {x : Nat} {gh : gH} {M : Mt}
theorem w_callS {a lo hi : Int32} {K : tk_K} {ls : List (Option Value)} {st : List Value} (hd : 1 ≤ d) (hc : ((st).map fun v => v.category).sum ≤ 8) (h0 : ¬ (lo ≤ a ∧ a ≤ hi) → K ls (.int 0 :: st) S 0 0) (h1 : (lo ≤ a ∧ a ≤ hi) → K ls (.int 1 :: st) S 0 0) : i_callS Z mX11_isWithin 3 d mc ms K ls (.int hi :: .int lo :: .int a :: st) S 0 0 := by
  refine ⟨by simp, by simpa using hc, 0, 0, 0, by omega, by omega, by omega, ?_⟩
  refine m_isWithin ?_
  by_cases w : lo ≤ a ∧ a ≤ hi
  · rw [if_pos w]; exact h1 w
  · rw [if_neg w]; exact h0 w
set_option maxHeartbeats 4000000 in
theorem c_traveller {k w0 b0 t0 : Int32} (hst : Z.1.stackTraces = false) (hd : 8 ≤ d) (hZ : Z.2.2.2.2.2.1 ∉ q_L S) (hC : CI Z ρ S x gh M) (hmc : 4 ≤ mc) (hms : 160 ≤ ms)
    (H1 : ¬ ((0 ≤ k ∧ k ≤ 6) ∧ (0 ≤ w0 ∧ w0 ≤ 20) ∧ (0 ≤ b0 ∧ b0 ≤ 10000) ∧ (0 ≤ t0 ∧ t0 ≤ 15)) → QX "java/lang/IllegalArgumentException" S) (H2 : ((0 ≤ k ∧ k ≤ 6) ∧ (0 ≤ w0 ∧ w0 ≤ 20) ∧ (0 ≤ b0 ∧ b0 ≤ 10000) ∧ (0 ≤ t0 ∧ t0 ≤ 15)) → 60 ≤ M.2.2.2.2.1.1 → QX "java/lang/IllegalStateException" S)
    (H0 : ((0 ≤ k ∧ k ≤ 6) ∧ (0 ≤ w0 ∧ w0 ≤ 20) ∧ (0 ≤ b0 ∧ b0 ≤ 10000) ∧ (0 ≤ t0 ∧ t0 ≤ 15)) → M.2.2.2.2.1.1 < 60 → ∀ pa' pd' : Nat → Int32, (∀ j, j < 8 * M.2.2.2.2.1.1 → pa' j = M.2.2.2.2.1.2.2.2.2.2.1 j ∧ pd' j = M.2.2.2.2.1.2.2.2.2.2.2.1 j) → (∀ g, g < 8 → pa' (8 * M.2.2.2.2.1.1 + g) = -1 ∧ pd' (8 * M.2.2.2.2.1.1 + g) = -1) → okC Z ρ S x QR (.int (nI M.2.2.2.2.1.1)) (M.1, M.2.1, M.2.2.1, M.2.2.2.1, (M.2.2.2.2.1.1 + 1, upd M.2.2.2.2.1.2.1 M.2.2.2.2.1.1 k, upd M.2.2.2.2.1.2.2.1 M.2.2.2.2.1.1 w0, upd M.2.2.2.2.1.2.2.2.1 M.2.2.2.2.1.1 b0, upd M.2.2.2.2.1.2.2.2.2.1 M.2.2.2.2.1.1 t0, pa', pd', upd M.2.2.2.2.1.2.2.2.2.2.2.2 M.2.2.2.2.1.1 (-1)), M.2.2.2.2.2)) : tk_M Z mX11_traveller d mc ms [.ref x, .int k, .int w0, .int b0, .int t0] S QR QX := by
  have hC0 := hC
  obtain ⟨fS, fG, fV, p, p2, fF, fL, bl⟩ := gh
  obtain ⟨⟨tn, tg, tp⟩, acts, ⟨nS, pr, wo⟩, ⟨nG, os, ps, ls, re, su, du, le, nb, bf, br, bs⟩, ⟨nV, kd, wh, be, bi, pa, pd, la⟩, ⟨nF, mo⟩, ⟨nL, lsu, lra, lrk, ldu⟩, J, ⟨td, dry, lc⟩⟩ := M
  obtain ⟨cD0, cT0, cK0, cA0, cS0, cG0, cV0, cF0, cL0, cJ0⟩ := hC
  obtain ⟨hx, hk, hρ, htd, ht, hdry, hlc⟩ := cD0
  refine M_X11_traveller hst hd (Nat.le_of_ble_eq_true rfl) (fun E hE => hE _ _ _ _ _ ?_)
  show t_X11_traveller_0 Z d mc ms QR QX E [some (.ref x), some (.int k), some (.int w0), some (.int b0), some (.int t0)] [] S 0 0
  obtain ⟨l, e, h1, h2, h3, h31, h32, h4, h5⟩ := cV0
  have hl := h2.1
  dsimp only at H1 H2 H0
  simp -implicitDefEqProofs [t_X11_traveller_0, i_aload, i_iload, i_lload, i_istore, i_lstore, i_astore, i_iinc, i_push, i_getI, i_getJ, i_getR, i_putI, i_putJ, i_putR, i_iadd, i_isub, i_imul, i_iand, i_ior, i_ixor, i_ishl, i_ishr, i_iushr, i_idiv, i_irem, i_ladd, i_lsub, i_lmul, i_land, i_lor, i_lxor, i_ldiv, i_lrem, i_lshl, i_lshr, i_lcmp, i_ineg, i_lneg, i_i2l, i_l2i, i_i2b, i_i2c, i_dup, i_pop, i_dup_x1, i_dup2, i_icmp_eq, i_icmp_lt, i_icmp_ge, i_icmp_gt, i_icmp_le, i_if_eq, i_if_lt, i_if_ge, i_if_gt, i_if_le, i_goto, i_ifnull, i_iald, i_bald, i_zald, i_lald, i_aald, i_iast, i_bast, i_zast, i_last, i_alen, i_iret, i_lret, i_aret, i_vret, i_oinit, i_cast, i_tsw, i_cases, i_mmin, i_mmax, i_lmin, i_throw, nb0, nb1, nint, nby0, rf_s, rf_n, of_r, of_n, tk_orf_rf, tk_c2, tk_ls, Value.category, tk_isR_ref, tk_isR_rf, tk_isR_null]
  refine w_callS (by omega) (by simp) (fun z1 => ?_) (fun z1 => ?_)
  · simp -implicitDefEqProofs [i_aload, i_iload, i_lload, i_istore, i_lstore, i_astore, i_iinc, i_push, i_getI, i_getJ, i_getR, i_putI, i_putJ, i_putR, i_iadd, i_isub, i_imul, i_iand, i_ior, i_ixor, i_ishl, i_ishr, i_iushr, i_idiv, i_irem, i_ladd, i_lsub, i_lmul, i_land, i_lor, i_lxor, i_ldiv, i_lrem, i_lshl, i_lshr, i_lcmp, i_ineg, i_lneg, i_i2l, i_l2i, i_i2b, i_i2c, i_dup, i_pop, i_dup_x1, i_dup2, i_icmp_eq, i_icmp_lt, i_icmp_ge, i_icmp_gt, i_icmp_le, i_if_eq, i_if_lt, i_if_ge, i_if_gt, i_if_le, i_goto, i_ifnull, i_iald, i_bald, i_zald, i_lald, i_aald, i_iast, i_bast, i_zast, i_last, i_alen, i_iret, i_lret, i_aret, i_vret, i_oinit, i_cast, i_tsw, i_cases, i_mmin, i_mmax, i_lmin, i_throw, nb0, nb1, nint, nby0, rf_s, rf_n, of_r, of_n, tk_orf_rf, tk_c2, tk_ls, Value.category, tk_isR_ref, tk_isR_rf, tk_isR_null]
    exact ⟨by omega, by omega, H1 (fun q => z1 q.1)⟩
  simp -implicitDefEqProofs [i_aload, i_iload, i_lload, i_istore, i_lstore, i_astore, i_iinc, i_push, i_getI, i_getJ, i_getR, i_putI, i_putJ, i_putR, i_iadd, i_isub, i_imul, i_iand, i_ior, i_ixor, i_ishl, i_ishr, i_iushr, i_idiv, i_irem, i_ladd, i_lsub, i_lmul, i_land, i_lor, i_lxor, i_ldiv, i_lrem, i_lshl, i_lshr, i_lcmp, i_ineg, i_lneg, i_i2l, i_l2i, i_i2b, i_i2c, i_dup, i_pop, i_dup_x1, i_dup2, i_icmp_eq, i_icmp_lt, i_icmp_ge, i_icmp_gt, i_icmp_le, i_if_eq, i_if_lt, i_if_ge, i_if_gt, i_if_le, i_goto, i_ifnull, i_iald, i_bald, i_zald, i_lald, i_aald, i_iast, i_bast, i_zast, i_last, i_alen, i_iret, i_lret, i_aret, i_vret, i_oinit, i_cast, i_tsw, i_cases, i_mmin, i_mmax, i_lmin, i_throw, nb0, nb1, nint, nby0, rf_s, rf_n, of_r, of_n, tk_orf_rf, tk_c2, tk_ls, Value.category, tk_isR_ref, tk_isR_rf, tk_isR_null]
  refine w_callS (by omega) (by simp) (fun z2 => ?_) (fun z2 => ?_)
  · simp -implicitDefEqProofs [i_aload, i_iload, i_lload, i_istore, i_lstore, i_astore, i_iinc, i_push, i_getI, i_getJ, i_getR, i_putI, i_putJ, i_putR, i_iadd, i_isub, i_imul, i_iand, i_ior, i_ixor, i_ishl, i_ishr, i_iushr, i_idiv, i_irem, i_ladd, i_lsub, i_lmul, i_land, i_lor, i_lxor, i_ldiv, i_lrem, i_lshl, i_lshr, i_lcmp, i_ineg, i_lneg, i_i2l, i_l2i, i_i2b, i_i2c, i_dup, i_pop, i_dup_x1, i_dup2, i_icmp_eq, i_icmp_lt, i_icmp_ge, i_icmp_gt, i_icmp_le, i_if_eq, i_if_lt, i_if_ge, i_if_gt, i_if_le, i_goto, i_ifnull, i_iald, i_bald, i_zald, i_lald, i_aald, i_iast, i_bast, i_zast, i_last, i_alen, i_iret, i_lret, i_aret, i_vret, i_oinit, i_cast, i_tsw, i_cases, i_mmin, i_mmax, i_lmin, i_throw, nb0, nb1, nint, nby0, rf_s, rf_n, of_r, of_n, tk_orf_rf, tk_c2, tk_ls, Value.category, tk_isR_ref, tk_isR_rf, tk_isR_null]
    exact ⟨by omega, by omega, H1 (fun q => z2 q.2.1)⟩
  simp -implicitDefEqProofs [i_aload, i_iload, i_lload, i_istore, i_lstore, i_astore, i_iinc, i_push, i_getI, i_getJ, i_getR, i_putI, i_putJ, i_putR, i_iadd, i_isub, i_imul, i_iand, i_ior, i_ixor, i_ishl, i_ishr, i_iushr, i_idiv, i_irem, i_ladd, i_lsub, i_lmul, i_land, i_lor, i_lxor, i_ldiv, i_lrem, i_lshl, i_lshr, i_lcmp, i_ineg, i_lneg, i_i2l, i_l2i, i_i2b, i_i2c, i_dup, i_pop, i_dup_x1, i_dup2, i_icmp_eq, i_icmp_lt, i_icmp_ge, i_icmp_gt, i_icmp_le, i_if_eq, i_if_lt, i_if_ge, i_if_gt, i_if_le, i_goto, i_ifnull, i_iald, i_bald, i_zald, i_lald, i_aald, i_iast, i_bast, i_zast, i_last, i_alen, i_iret, i_lret, i_aret, i_vret, i_oinit, i_cast, i_tsw, i_cases, i_mmin, i_mmax, i_lmin, i_throw, nb0, nb1, nint, nby0, rf_s, rf_n, of_r, of_n, tk_orf_rf, tk_c2, tk_ls, Value.category, tk_isR_ref, tk_isR_rf, tk_isR_null]
  refine w_callS (by omega) (by simp) (fun z3 => ?_) (fun z3 => ?_)
  · simp -implicitDefEqProofs [i_aload, i_iload, i_lload, i_istore, i_lstore, i_astore, i_iinc, i_push, i_getI, i_getJ, i_getR, i_putI, i_putJ, i_putR, i_iadd, i_isub, i_imul, i_iand, i_ior, i_ixor, i_ishl, i_ishr, i_iushr, i_idiv, i_irem, i_ladd, i_lsub, i_lmul, i_land, i_lor, i_lxor, i_ldiv, i_lrem, i_lshl, i_lshr, i_lcmp, i_ineg, i_lneg, i_i2l, i_l2i, i_i2b, i_i2c, i_dup, i_pop, i_dup_x1, i_dup2, i_icmp_eq, i_icmp_lt, i_icmp_ge, i_icmp_gt, i_icmp_le, i_if_eq, i_if_lt, i_if_ge, i_if_gt, i_if_le, i_goto, i_ifnull, i_iald, i_bald, i_zald, i_lald, i_aald, i_iast, i_bast, i_zast, i_last, i_alen, i_iret, i_lret, i_aret, i_vret, i_oinit, i_cast, i_tsw, i_cases, i_mmin, i_mmax, i_lmin, i_throw, nb0, nb1, nint, nby0, rf_s, rf_n, of_r, of_n, tk_orf_rf, tk_c2, tk_ls, Value.category, tk_isR_ref, tk_isR_rf, tk_isR_null]
    exact ⟨by omega, by omega, H1 (fun q => z3 q.2.2.1)⟩
  simp -implicitDefEqProofs [i_aload, i_iload, i_lload, i_istore, i_lstore, i_astore, i_iinc, i_push, i_getI, i_getJ, i_getR, i_putI, i_putJ, i_putR, i_iadd, i_isub, i_imul, i_iand, i_ior, i_ixor, i_ishl, i_ishr, i_iushr, i_idiv, i_irem, i_ladd, i_lsub, i_lmul, i_land, i_lor, i_lxor, i_ldiv, i_lrem, i_lshl, i_lshr, i_lcmp, i_ineg, i_lneg, i_i2l, i_l2i, i_i2b, i_i2c, i_dup, i_pop, i_dup_x1, i_dup2, i_icmp_eq, i_icmp_lt, i_icmp_ge, i_icmp_gt, i_icmp_le, i_if_eq, i_if_lt, i_if_ge, i_if_gt, i_if_le, i_goto, i_ifnull, i_iald, i_bald, i_zald, i_lald, i_aald, i_iast, i_bast, i_zast, i_last, i_alen, i_iret, i_lret, i_aret, i_vret, i_oinit, i_cast, i_tsw, i_cases, i_mmin, i_mmax, i_lmin, i_throw, nb0, nb1, nint, nby0, rf_s, rf_n, of_r, of_n, tk_orf_rf, tk_c2, tk_ls, Value.category, tk_isR_ref, tk_isR_rf, tk_isR_null]
  refine w_callS (by omega) (by simp) (fun z4 => ?_) (fun z4 => ?_)
  · simp -implicitDefEqProofs [i_aload, i_iload, i_lload, i_istore, i_lstore, i_astore, i_iinc, i_push, i_getI, i_getJ, i_getR, i_putI, i_putJ, i_putR, i_iadd, i_isub, i_imul, i_iand, i_ior, i_ixor, i_ishl, i_ishr, i_iushr, i_idiv, i_irem, i_ladd, i_lsub, i_lmul, i_land, i_lor, i_lxor, i_ldiv, i_lrem, i_lshl, i_lshr, i_lcmp, i_ineg, i_lneg, i_i2l, i_l2i, i_i2b, i_i2c, i_dup, i_pop, i_dup_x1, i_dup2, i_icmp_eq, i_icmp_lt, i_icmp_ge, i_icmp_gt, i_icmp_le, i_if_eq, i_if_lt, i_if_ge, i_if_gt, i_if_le, i_goto, i_ifnull, i_iald, i_bald, i_zald, i_lald, i_aald, i_iast, i_bast, i_zast, i_last, i_alen, i_iret, i_lret, i_aret, i_vret, i_oinit, i_cast, i_tsw, i_cases, i_mmin, i_mmax, i_lmin, i_throw, nb0, nb1, nint, nby0, rf_s, rf_n, of_r, of_n, tk_orf_rf, tk_c2, tk_ls, Value.category, tk_isR_ref, tk_isR_rf, tk_isR_null]
    exact ⟨by omega, by omega, H1 (fun q => z4 q.2.2.2)⟩
  have H2 := H2 ⟨z1, z2, z3, z4⟩
  have H0 := H0 ⟨z1, z2, z3, z4⟩
  simp -implicitDefEqProofs [i_aload, i_iload, i_lload, i_istore, i_lstore, i_astore, i_iinc, i_push, i_getI, i_getJ, i_getR, i_putI, i_putJ, i_putR, i_iadd, i_isub, i_imul, i_iand, i_ior, i_ixor, i_ishl, i_ishr, i_iushr, i_idiv, i_irem, i_ladd, i_lsub, i_lmul, i_land, i_lor, i_lxor, i_ldiv, i_lrem, i_lshl, i_lshr, i_lcmp, i_ineg, i_lneg, i_i2l, i_l2i, i_i2b, i_i2c, i_dup, i_pop, i_dup_x1, i_dup2, i_icmp_eq, i_icmp_lt, i_icmp_ge, i_icmp_gt, i_icmp_le, i_if_eq, i_if_lt, i_if_ge, i_if_gt, i_if_le, i_goto, i_ifnull, i_iald, i_bald, i_zald, i_lald, i_aald, i_iast, i_bast, i_zast, i_last, i_alen, i_iret, i_lret, i_aret, i_vret, i_oinit, i_cast, i_tsw, i_cases, i_mmin, i_mmax, i_lmin, i_throw, nb0, nb1, nint, nby0, rf_s, rf_n, of_r, of_n, tk_orf_rf, tk_c2, tk_ls, Value.category, tk_isR_ref, tk_isR_rf, tk_isR_null, hx, hk, h1]
  refine ⟨by simp, hl.1, hl.2.1, by simp [Value.category], 0, 0, 0, by omega, by omega, by omega, ?_⟩
  refine l_size hl ?_
  have zn : (nI nV < 60 ↔ nV < 60) := nI_ltI (b := 60) (by omega) (by omega)
  simp -implicitDefEqProofs [i_aload, i_iload, i_lload, i_istore, i_lstore, i_astore, i_iinc, i_push, i_getI, i_getJ, i_getR, i_putI, i_putJ, i_putR, i_iadd, i_isub, i_imul, i_iand, i_ior, i_ixor, i_ishl, i_ishr, i_iushr, i_idiv, i_irem, i_ladd, i_lsub, i_lmul, i_land, i_lor, i_lxor, i_ldiv, i_lrem, i_lshl, i_lshr, i_lcmp, i_ineg, i_lneg, i_i2l, i_l2i, i_i2b, i_i2c, i_dup, i_pop, i_dup_x1, i_dup2, i_icmp_eq, i_icmp_lt, i_icmp_ge, i_icmp_gt, i_icmp_le, i_if_eq, i_if_lt, i_if_ge, i_if_gt, i_if_le, i_goto, i_ifnull, i_iald, i_bald, i_zald, i_lald, i_aald, i_iast, i_bast, i_zast, i_last, i_alen, i_iret, i_lret, i_aret, i_vret, i_oinit, i_cast, i_tsw, i_cases, i_mmin, i_mmax, i_lmin, i_throw, nb0, nb1, nint, nby0, rf_s, rf_n, of_r, of_n, tk_orf_rf, tk_c2, tk_ls, Value.category, tk_isR_ref, tk_isR_rf, tk_isR_null, i_new, hx, hk, h1]
  refine ⟨fun w2 => ?_, fun w2 => ?_⟩
  · have hn := zn.mp w2
    have H0 := H0 hn
    refine ⟨by omega, by omega, fun q hq => ?_⟩
    have hxq : x ≠ q := fun z => hq (z ▸ hx)
    have hs1 : ∀ b, b ∈ q_L S → sameAt S (s_new S 11 q) b := fun b hb => new_same hb hq
    have hLn : q_L (s_new S 11 q) = q_L S ++ [q] := rfl
    refine ⟨by simp, by simp [Value.category], 1, 2, 16, by omega, by omega, by omega, ?_⟩
    refine tk_M.out (m_TravI (Nat.le_refl 1) (by simp -implicitDefEqProofs [z_q_L_s_I, z_q_K_s_I, z_q_I_s_I, z_q_J_s_I, z_q_R_s_I, z_q_n_s_I, z_q_aI_s_I, z_q_aJ_s_I, z_q_aR_s_I, z_q_L_s_J, z_q_K_s_J, z_q_I_s_J, z_q_J_s_J, z_q_R_s_J, z_q_n_s_J, z_q_aI_s_J, z_q_aJ_s_J, z_q_aR_s_J, z_q_L_s_R, z_q_K_s_R, z_q_I_s_R, z_q_J_s_R, z_q_R_s_R, z_q_n_s_R, z_q_aI_s_R, z_q_aJ_s_R, z_q_aR_s_R, z_q_L_s_aI, z_q_K_s_aI, z_q_I_s_aI, z_q_J_s_aI, z_q_R_s_aI, z_q_n_s_aI, z_q_aI_s_aI, z_q_aJ_s_aI, z_q_aR_s_aI, z_q_L_s_aJ, z_q_K_s_aJ, z_q_I_s_aJ, z_q_J_s_aJ, z_q_R_s_aJ, z_q_n_s_aJ, z_q_aI_s_aJ, z_q_aJ_s_aJ, z_q_aR_s_aJ, z_q_L_s_aR, z_q_K_s_aR, z_q_I_s_aR, z_q_J_s_aR, z_q_R_s_aR, z_q_n_s_aR, z_q_aI_s_aR, z_q_aJ_s_aR, z_q_aR_s_aR, z_q_L_s_new, z_q_K_s_new, z_q_I_s_new, z_q_J_s_new, z_q_R_s_new, z_q_n_s_new, z_q_aI_s_new, z_q_aJ_s_new, z_q_aR_s_new, z_q_L_s_arr, z_q_K_s_arr, z_q_I_s_arr, z_q_J_s_arr, z_q_R_s_arr, z_q_n_s_arr, z_q_aI_s_arr, z_q_aJ_s_arr, z_q_aR_s_arr]) (by simp -implicitDefEqProofs [z_q_L_s_I, z_q_K_s_I, z_q_I_s_I, z_q_J_s_I, z_q_R_s_I, z_q_n_s_I, z_q_aI_s_I, z_q_aJ_s_I, z_q_aR_s_I, z_q_L_s_J, z_q_K_s_J, z_q_I_s_J, z_q_J_s_J, z_q_R_s_J, z_q_n_s_J, z_q_aI_s_J, z_q_aJ_s_J, z_q_aR_s_J, z_q_L_s_R, z_q_K_s_R, z_q_I_s_R, z_q_J_s_R, z_q_R_s_R, z_q_n_s_R, z_q_aI_s_R, z_q_aJ_s_R, z_q_aR_s_R, z_q_L_s_aI, z_q_K_s_aI, z_q_I_s_aI, z_q_J_s_aI, z_q_R_s_aI, z_q_n_s_aI, z_q_aI_s_aI, z_q_aJ_s_aI, z_q_aR_s_aI, z_q_L_s_aJ, z_q_K_s_aJ, z_q_I_s_aJ, z_q_J_s_aJ, z_q_R_s_aJ, z_q_n_s_aJ, z_q_aI_s_aJ, z_q_aJ_s_aJ, z_q_aR_s_aJ, z_q_L_s_aR, z_q_K_s_aR, z_q_I_s_aR, z_q_J_s_aR, z_q_R_s_aR, z_q_n_s_aR, z_q_aI_s_aR, z_q_aJ_s_aR, z_q_aR_s_aR, z_q_L_s_new, z_q_K_s_new, z_q_I_s_new, z_q_J_s_new, z_q_R_s_new, z_q_n_s_new, z_q_aI_s_new, z_q_aJ_s_new, z_q_aR_s_new, z_q_L_s_arr, z_q_K_s_arr, z_q_I_s_arr, z_q_J_s_arr, z_q_R_s_arr, z_q_n_s_arr, z_q_aI_s_arr, z_q_aJ_s_arr, z_q_aR_s_arr]) (Nat.le_refl 2) (Nat.le_refl 16) (fun q5 q6 S2 n5 n6 n56 L2 s2 b1 b2 b3 b4 b5 b6 b7 b8 b9 b10 b11 b12 b13 b14 hZ2 => ?_))
    have m1 : q ∈ q_L (s_new S 11 q) := by rw [hLn]; simp
    have n5q : q ≠ q5 := fun z => n5 (z ▸ m1)
    have n6q : q ≠ q6 := fun z => n6 (z ▸ m1)
    have n5S : ∀ b, b ∈ q_L S → b ≠ q5 := fun b hb z => n5 (by rw [hLn, ← z]; simp [hb])
    have n6S : ∀ b, b ∈ q_L S → b ≠ q6 := fun b hb z => n6 (by rw [hLn, ← z]; simp [hb])
    have hs2 : ∀ b, b ∈ q_L S → sameAt S S2 b := fun b hb => (hs1 b hb).trans (s2 b (hs1 b hb).1 (fun z => hq (z ▸ hb)))
    have mq : q ∈ q_L S2 := by rw [L2, hLn]; simp
    have m5 : q5 ∈ q_L S2 := by rw [L2]; simp
    have m6 : q6 ∈ q_L S2 := by rw [L2]; simp
    generalize hρ1 : (fun b => if b = q5 then 46 else if b = q6 then 47 else rnew ρ S 45 b : Nat → Nat) = ρ1
    have r1 : rx ρ ρ1 S := fun b hb => by rw [← hρ1]; simp [n5S b hb, n6S b hb, rx_new ρ S 45 b hb]
    have rq : ρ1 q = 45 := by rw [← hρ1]; simp [n5q, n6q, rnew_n hq]
    have rq5 : ρ1 q5 = 46 := by rw [← hρ1]; simp
    have rq6 : ρ1 q6 = 47 := by rw [← hρ1]; simp [Ne.symm n56]
    clear hρ1
    have hL1 := h2.mv hs2 r1
    refine ⟨by simp, hL1.1.1, hL1.1.2.1, by simp [Value.category], 7, 1, 10 + 2 * nV, by omega, by omega, by omega, ?_⟩
    refine tk_M.out (l_add_2 (k := 11) (f := fV) (Nat.le_refl 7) hL1.1 (by omega) (by decide) ⟨mq, b1⟩ (Nat.le_refl 1) (Nat.le_refl _) (fun e2 S3 hg hZ3 => ?_))
    obtain ⟨hA, g3, f3⟩ := hL1.add hZ2 hg mq rq
    have gA : gr S S3 := fun b hb => g3 b (hs2 b hb).1
    have rA : rx ρ (rnew ρ1 S2 14) S := fun b hb => by rw [rx_new _ S2 14 b (hs2 b hb).1, r1 b hb]
    have s1 : ∀ b, b ∈ q_L S → ρ b ∉ [8, 14] → sameAt S S3 b := fun b hb hn => (hs2 b hb).trans (f3 b (hs2 b hb).1 (by rw [r1 b hb]; exact hn))
    have sx := s1 x hx (by rw [hρ]; simp)
    have sq := f3 q mq (by rw [rq]; simp)
    have s5 := f3 q5 m5 (by rw [rq5]; simp)
    have s6 := f3 q6 m6 (by rw [rq6]; simp)
    simp -implicitDefEqProofs [i_aload, i_iload, i_lload, i_istore, i_lstore, i_astore, i_iinc, i_push, i_getI, i_getJ, i_getR, i_putI, i_putJ, i_putR, i_iadd, i_isub, i_imul, i_iand, i_ior, i_ixor, i_ishl, i_ishr, i_iushr, i_idiv, i_irem, i_ladd, i_lsub, i_lmul, i_land, i_lor, i_lxor, i_ldiv, i_lrem, i_lshl, i_lshr, i_lcmp, i_ineg, i_lneg, i_i2l, i_l2i, i_i2b, i_i2c, i_dup, i_pop, i_dup_x1, i_dup2, i_icmp_eq, i_icmp_lt, i_icmp_ge, i_icmp_gt, i_icmp_le, i_if_eq, i_if_lt, i_if_ge, i_if_gt, i_if_le, i_goto, i_ifnull, i_iald, i_bald, i_zald, i_lald, i_aald, i_iast, i_bast, i_zast, i_last, i_alen, i_iret, i_lret, i_aret, i_vret, i_oinit, i_cast, i_tsw, i_cases, i_mmin, i_mmax, i_lmin, i_throw, nb0, nb1, nint, nby0, rf_s, rf_n, of_r, of_n, tk_orf_rf, tk_c2, tk_ls, Value.category, tk_isR_ref, tk_isR_rf, tk_isR_null, sx.1, sx.2.1.trans hk, (sx.2.2.2.2.1 12 6).trans h1]
    refine ⟨by simp, hA.1.1, hA.1.2.1, by simp [Value.category], 0, 0, 0, by omega, by omega, by omega, ?_⟩
    refine l_size hA.1 ?_
    simp -implicitDefEqProofs [i_aload, i_iload, i_lload, i_istore, i_lstore, i_astore, i_iinc, i_push, i_getI, i_getJ, i_getR, i_putI, i_putJ, i_putR, i_iadd, i_isub, i_imul, i_iand, i_ior, i_ixor, i_ishl, i_ishr, i_iushr, i_idiv, i_irem, i_ladd, i_lsub, i_lmul, i_land, i_lor, i_lxor, i_ldiv, i_lrem, i_lshl, i_lshr, i_lcmp, i_ineg, i_lneg, i_i2l, i_l2i, i_i2b, i_i2c, i_dup, i_pop, i_dup_x1, i_dup2, i_icmp_eq, i_icmp_lt, i_icmp_ge, i_icmp_gt, i_icmp_le, i_if_eq, i_if_lt, i_if_ge, i_if_gt, i_if_le, i_goto, i_ifnull, i_iald, i_bald, i_zald, i_lald, i_aald, i_iast, i_bast, i_zast, i_last, i_alen, i_iret, i_lret, i_aret, i_vret, i_oinit, i_cast, i_tsw, i_cases, i_mmin, i_mmax, i_lmin, i_throw, nb0, nb1, nint, nby0, rf_s, rf_n, of_r, of_n, tk_orf_rf, tk_c2, tk_ls, Value.category, tk_isR_ref, tk_isR_rf, tk_isR_null]
    refine ⟨by omega, by omega, ?_⟩
    rw [nI_pred]
    refine H0 (fun j => if j < 8 * nV then pa j else -1) (fun j => if j < 8 * nV then pd j else -1) (fun j hj => ⟨if_pos hj, if_pos hj⟩) (fun g hg => ⟨if_neg (by omega), if_neg (by omega)⟩) S3 _ (fS, fG, va_up fV nV q, va_up p nV q5, va_up p2 nV q6, fF, fL, bl) (FO.of gA rA s1 (by simp)) ?_
    have cV1 : cV Z (rnew ρ1 S2 14) S3 x (va_up fV nV q) (va_up p nV q5) (va_up p2 nV q6) (nV + 1) (upd kd nV k) (upd wh nV w0) (upd be nV b0) (upd bi nV t0) (fun j => if j < 8 * nV then pa j else -1) (fun j => if j < 8 * nV then pd j else -1) (upd la nV (-1)) := by
      refine ⟨l, e2, (sx.2.2.2.2.1 12 6).trans h1, hA, inj_add h3 (fun j hj z => hq (by rw [← z]; exact (hl.2.2.2.2.2.2.1 j hj).1)), inj_add h31 (fun j hj => n5S _ (h5 j hj).1.2.2.1.2.1), inj_add h32 (fun j hj => n6S _ (h5 j hj).1.2.2.2.1.2.1), by omega, fun j hj => ?_⟩
      by_cases hjn : j = nV
      · rw [hjn, va_up_self, va_up_self, va_up_self, pk_us, pk_us, pk_us, pk_us, pk_us, rx_new _ S2 14 _ m5, rx_new _ S2 14 _ m6]
        refine ⟨⟨sq.1, sq.2.1.trans b1, ⟨(sq.2.2.2.2.1 _ _).trans b7, s5.1, s5.2.1.trans b9, s5.2.2.2.2.2.1.trans b10⟩, ⟨(sq.2.2.2.2.1 _ _).trans b8, s6.1, s6.2.1.trans b11, s6.2.2.2.2.2.1.trans b12⟩, (sq.2.2.1 _ _).trans b2, (sq.2.2.1 _ _).trans b3, (sq.2.2.1 _ _).trans b4, (sq.2.2.1 _ _).trans b5⟩, rq5, rq6, (sq.2.2.1 _ _).trans b6, fun g hg => ?_⟩
        rw [s5.2.2.2.2.2.2.1, s6.2.2.2.2.2.2.1, b13 g hg, b14 g hg]
        dsimp only
        rw [if_neg (by omega), if_neg (by omega)]
        exact ⟨rfl, rfl⟩
      · have hj2 : j < nV := by omega
        rw [va_up_ne _ _ hjn, va_up_ne _ _ hjn, va_up_ne _ _ hjn, pk_un hjn, pk_un hjn, pk_un hjn, pk_un hjn, pk_un hjn]
        obtain ⟨y1, y2, y3, y4, y5⟩ := h5 j hj2
        have sj := s1 _ y1.1 (by rw [h2.2.2.2 j hj2]; simp)
        have sj1 := s1 _ y1.2.2.1.2.1 (by rw [y2]; simp)
        have sj2 := s1 _ y1.2.2.2.1.2.1 (by rw [y3]; simp)
        refine ⟨y1.same sj sj1 sj2, by rw [rA _ y1.2.2.1.2.1]; exact y2, by rw [rA _ y1.2.2.2.1.2.1]; exact y3, (sj.2.2.1 _ _).trans y4, fun g hg => ?_⟩
        rw [sj1.2.2.2.2.2.2.1, sj2.2.2.2.2.2.2.1]
        dsimp only
        rw [if_pos (by omega), if_pos (by omega)]
        exact y5 g hg
    exact ⟨cD.same ⟨hx, hk, hρ, htd, ht, hdry, hlc⟩ sx (rA x hx), cT0.same (xr.of sx) (sm.no s1 (by simp)) rA, cK0.same (xr.of sx) (sm.no s1 (by simp)) rA, cA0.same hZ (xr.of sx) (sm.no s1 (by simp)) rA, cS0.same hZ (xr.of sx) (sm.no s1 (by simp)) rA, cG0.same hZ (xr.of sx) (sm.no s1 (by simp)) rA, cV1, cF0.same hZ (xr.of sx) (sm.no s1 (by simp)) rA, cL0.same hZ (xr.of sx) (sm.no s1 (by simp)) rA, cJ0.same (xr.of sx) (sm.no s1 (by simp)) rA⟩
  · have hn : 60 ≤ nV := Nat.le_of_not_lt (fun z => absurd (zn.mpr z) (Int32.not_lt.mpr w2))
    exact ⟨by omega, by omega, H2 hn⟩
/-- the index of an object of a list is tested -/
theorem ix_lt {i : Int32} {n : Nat} (hn : n < 2 ^ 31) : (i < 0 ∨ nI n ≤ i) ∨ ∃ j, j < n ∧ i = nI j := by
  rcases pk_ix i hn with h | h | h
  · exact Or.inl (Or.inl h)
  · exact Or.inl (Or.inr h)
  · exact Or.inr h
set_option maxHeartbeats 4000000 in
theorem c_gate {i : Int32} (hst : Z.1.stackTraces = false) (hd : 8 ≤ d) (hZ : Z.2.2.2.2.2.1 ∉ q_L S) (hC : CI Z ρ S x gh M) (hp0 : M.2.2.2.1.2.2.1 M.2.2.2.1.1 = 0) (hb0 : M.2.2.2.1.2.2.2.2.2.2.2.2.1 M.2.2.2.1.1 = 0) (hmc : 3 ≤ mc) (hms : 60 ≤ ms)
    (H1 : (i < 0 ∨ nI M.2.2.1.1 ≤ i) → QX "java/lang/IndexOutOfBoundsException" S) (H2 : ¬ (i < 0 ∨ nI M.2.2.1.1 ≤ i) → 8 ≤ M.2.2.2.1.1 → QX "java/lang/IllegalStateException" S)
    (H0 : ∀ j, j < M.2.2.1.1 → i = nI j → M.2.2.2.1.1 < 8 → okC Z ρ S x QR (.int (nI M.2.2.2.1.1)) (M.1, M.2.1, M.2.2.1, (M.2.2.2.1.1 + 1, va_up M.2.2.2.1.2.1 M.2.2.2.1.1 j, M.2.2.2.1.2.2.1, va_up M.2.2.2.1.2.2.2.1 M.2.2.2.1.1 none, M.2.2.2.1.2.2.2.2), M.2.2.2.2)) : tk_M Z mX11_gate d mc ms [.ref x, .int i] S QR QX := by
  have hC0 := hC
  obtain ⟨fS, fG, fV, p, p2, fF, fL, bl⟩ := gh
  obtain ⟨⟨tn, tg, tp⟩, acts, ⟨nS, pr, wo⟩, ⟨nG, os, ps, ls, re, su, du, le, nb, bf, br, bs⟩, ⟨nV, kd, wh, be, bi, pa, pd, la⟩, ⟨nF, mo⟩, ⟨nL, lsu, lra, lrk, ldu⟩, J, ⟨td, dry, lc⟩⟩ := M
  obtain ⟨cD0, cT0, cK0, cA0, cS0, cG0, cV0, cF0, cL0, cJ0⟩ := hC
  obtain ⟨hx, hk, hρ, htd, ht, hdry, hlc⟩ := cD0
  refine M_X11_gate hst hd (Nat.le_of_ble_eq_true rfl) (fun E hE => hE _ _ _ _ _ ?_)
  show t_X11_gate_0 Z d mc ms QR QX E [some (.ref x), some (.int i)] [] S 0 0
  obtain ⟨lS, eS, k1, k2, k3, k4, k5⟩ := id cS0
  obtain ⟨l, e, h1, h2, h3, h31, h4, h5⟩ := id cG0
  have hl := h2.1
  have hlS := k2.1
  dsimp only at H1 H2 H0 hp0 hb0
  rcases pk_ix i (n := nS) (by omega) with w | w | ⟨j, hj, rfl⟩
  · simp -implicitDefEqProofs [t_X11_gate_0, i_aload, i_iload, i_lload, i_istore, i_lstore, i_astore, i_iinc, i_push, i_getI, i_getJ, i_getR, i_putI, i_putJ, i_putR, i_iadd, i_isub, i_imul, i_iand, i_ior, i_ixor, i_ishl, i_ishr, i_iushr, i_idiv, i_irem, i_ladd, i_lsub, i_lmul, i_land, i_lor, i_lxor, i_ldiv, i_lrem, i_lshl, i_lshr, i_lcmp, i_ineg, i_lneg, i_i2l, i_l2i, i_i2b, i_i2c, i_dup, i_pop, i_dup_x1, i_dup2, i_icmp_eq, i_icmp_lt, i_icmp_ge, i_icmp_gt, i_icmp_le, i_if_eq, i_if_lt, i_if_ge, i_if_gt, i_if_le, i_goto, i_ifnull, i_iald, i_bald, i_zald, i_lald, i_aald, i_iast, i_bast, i_zast, i_last, i_alen, i_iret, i_lret, i_aret, i_vret, i_oinit, i_cast, i_tsw, i_cases, i_mmin, i_mmax, i_lmin, i_throw, nb0, nb1, nint, nby0, rf_s, rf_n, of_r, of_n, tk_orf_rf, tk_c2, tk_ls, Value.category, tk_isR_ref, tk_isR_rf, tk_isR_null, i_throw, w]
    exact ⟨by omega, by omega, H1 (Or.inl w)⟩
  · have w0 : ¬ i < 0 := fun q => absurd (Int32.lt_of_le_of_lt w q) (nI_pos (by omega))
    simp -implicitDefEqProofs [t_X11_gate_0, i_aload, i_iload, i_lload, i_istore, i_lstore, i_astore, i_iinc, i_push, i_getI, i_getJ, i_getR, i_putI, i_putJ, i_putR, i_iadd, i_isub, i_imul, i_iand, i_ior, i_ixor, i_ishl, i_ishr, i_iushr, i_idiv, i_irem, i_ladd, i_lsub, i_lmul, i_land, i_lor, i_lxor, i_ldiv, i_lrem, i_lshl, i_lshr, i_lcmp, i_ineg, i_lneg, i_i2l, i_l2i, i_i2b, i_i2c, i_dup, i_pop, i_dup_x1, i_dup2, i_icmp_eq, i_icmp_lt, i_icmp_ge, i_icmp_gt, i_icmp_le, i_if_eq, i_if_lt, i_if_ge, i_if_gt, i_if_le, i_goto, i_ifnull, i_iald, i_bald, i_zald, i_lald, i_aald, i_iast, i_bast, i_zast, i_last, i_alen, i_iret, i_lret, i_aret, i_vret, i_oinit, i_cast, i_tsw, i_cases, i_mmin, i_mmax, i_lmin, i_throw, nb0, nb1, nint, nby0, rf_s, rf_n, of_r, of_n, tk_orf_rf, tk_c2, tk_ls, Value.category, tk_isR_ref, tk_isR_rf, tk_isR_null, w0, hx, hk, k1]
    refine ⟨by simp, hlS.1, hlS.2.1, by simp [Value.category], 0, 0, 0, by omega, by omega, by omega, ?_⟩
    refine l_size hlS ?_
    simp -implicitDefEqProofs [i_aload, i_iload, i_lload, i_istore, i_lstore, i_astore, i_iinc, i_push, i_getI, i_getJ, i_getR, i_putI, i_putJ, i_putR, i_iadd, i_isub, i_imul, i_iand, i_ior, i_ixor, i_ishl, i_ishr, i_iushr, i_idiv, i_irem, i_ladd, i_lsub, i_lmul, i_land, i_lor, i_lxor, i_ldiv, i_lrem, i_lshl, i_lshr, i_lcmp, i_ineg, i_lneg, i_i2l, i_l2i, i_i2b, i_i2c, i_dup, i_pop, i_dup_x1, i_dup2, i_icmp_eq, i_icmp_lt, i_icmp_ge, i_icmp_gt, i_icmp_le, i_if_eq, i_if_lt, i_if_ge, i_if_gt, i_if_le, i_goto, i_ifnull, i_iald, i_bald, i_zald, i_lald, i_aald, i_iast, i_bast, i_zast, i_last, i_alen, i_iret, i_lret, i_aret, i_vret, i_oinit, i_cast, i_tsw, i_cases, i_mmin, i_mmax, i_lmin, i_throw, nb0, nb1, nint, nby0, rf_s, rf_n, of_r, of_n, tk_orf_rf, tk_c2, tk_ls, Value.category, tk_isR_ref, tk_isR_rf, tk_isR_null, i_throw, Int32.not_lt.mpr w]
    exact ⟨by omega, by omega, H1 (Or.inr w)⟩
  have hw0 : ¬ nI j < 0 := nI_pos (by omega)
  have hw1 : nI j < nI nS := nI_lt hj (by omega)
  have H2 := H2 (fun q => q.elim hw0 (Int32.not_le.mpr hw1))
  have H0 := H0 j hj rfl
  simp -implicitDefEqProofs [t_X11_gate_0, i_aload, i_iload, i_lload, i_istore, i_lstore, i_astore, i_iinc, i_push, i_getI, i_getJ, i_getR, i_putI, i_putJ, i_putR, i_iadd, i_isub, i_imul, i_iand, i_ior, i_ixor, i_ishl, i_ishr, i_iushr, i_idiv, i_irem, i_ladd, i_lsub, i_lmul, i_land, i_lor, i_lxor, i_ldiv, i_lrem, i_lshl, i_lshr, i_lcmp, i_ineg, i_lneg, i_i2l, i_l2i, i_i2b, i_i2c, i_dup, i_pop, i_dup_x1, i_dup2, i_icmp_eq, i_icmp_lt, i_icmp_ge, i_icmp_gt, i_icmp_le, i_if_eq, i_if_lt, i_if_ge, i_if_gt, i_if_le, i_goto, i_ifnull, i_iald, i_bald, i_zald, i_lald, i_aald, i_iast, i_bast, i_zast, i_last, i_alen, i_iret, i_lret, i_aret, i_vret, i_oinit, i_cast, i_tsw, i_cases, i_mmin, i_mmax, i_lmin, i_throw, nb0, nb1, nint, nby0, rf_s, rf_n, of_r, of_n, tk_orf_rf, tk_c2, tk_ls, Value.category, tk_isR_ref, tk_isR_rf, tk_isR_null, hw0, hx, hk, k1]
  refine ⟨by simp, hlS.1, hlS.2.1, by simp [Value.category], 0, 0, 0, by omega, by omega, by omega, ?_⟩
  refine l_size hlS ?_
  simp -implicitDefEqProofs [i_aload, i_iload, i_lload, i_istore, i_lstore, i_astore, i_iinc, i_push, i_getI, i_getJ, i_getR, i_putI, i_putJ, i_putR, i_iadd, i_isub, i_imul, i_iand, i_ior, i_ixor, i_ishl, i_ishr, i_iushr, i_idiv, i_irem, i_ladd, i_lsub, i_lmul, i_land, i_lor, i_lxor, i_ldiv, i_lrem, i_lshl, i_lshr, i_lcmp, i_ineg, i_lneg, i_i2l, i_l2i, i_i2b, i_i2c, i_dup, i_pop, i_dup_x1, i_dup2, i_icmp_eq, i_icmp_lt, i_icmp_ge, i_icmp_gt, i_icmp_le, i_if_eq, i_if_lt, i_if_ge, i_if_gt, i_if_le, i_goto, i_ifnull, i_iald, i_bald, i_zald, i_lald, i_aald, i_iast, i_bast, i_zast, i_last, i_alen, i_iret, i_lret, i_aret, i_vret, i_oinit, i_cast, i_tsw, i_cases, i_mmin, i_mmax, i_lmin, i_throw, nb0, nb1, nint, nby0, rf_s, rf_n, of_r, of_n, tk_orf_rf, tk_c2, tk_ls, Value.category, tk_isR_ref, tk_isR_rf, tk_isR_null, hw1, hx, hk, h1]
  refine ⟨by simp, hl.1, hl.2.1, by simp [Value.category], 0, 0, 0, by omega, by omega, by omega, ?_⟩
  refine l_size hl ?_
  have zn : (nI nG < 8 ↔ nG < 8) := nI_ltI (b := 8) (by omega) (by omega)
  simp -implicitDefEqProofs [i_aload, i_iload, i_lload, i_istore, i_lstore, i_astore, i_iinc, i_push, i_getI, i_getJ, i_getR, i_putI, i_putJ, i_putR, i_iadd, i_isub, i_imul, i_iand, i_ior, i_ixor, i_ishl, i_ishr, i_iushr, i_idiv, i_irem, i_ladd, i_lsub, i_lmul, i_land, i_lor, i_lxor, i_ldiv, i_lrem, i_lshl, i_lshr, i_lcmp, i_ineg, i_lneg, i_i2l, i_l2i, i_i2b, i_i2c, i_dup, i_pop, i_dup_x1, i_dup2, i_icmp_eq, i_icmp_lt, i_icmp_ge, i_icmp_gt, i_icmp_le, i_if_eq, i_if_lt, i_if_ge, i_if_gt, i_if_le, i_goto, i_ifnull, i_iald, i_bald, i_zald, i_lald, i_aald, i_iast, i_bast, i_zast, i_last, i_alen, i_iret, i_lret, i_aret, i_vret, i_oinit, i_cast, i_tsw, i_cases, i_mmin, i_mmax, i_lmin, i_throw, nb0, nb1, nint, nby0, rf_s, rf_n, of_r, of_n, tk_orf_rf, tk_c2, tk_ls, Value.category, tk_isR_ref, tk_isR_rf, tk_isR_null, i_new, hx, hk, h1]
  refine ⟨fun w2 => ?_, fun w2 => ?_⟩
  · have hn := zn.mp w2
    have H0 := H0 hn
    refine ⟨by omega, by omega, fun q hq => ?_⟩
    have hxq : x ≠ q := fun z => hq (z ▸ hx)
    simp -implicitDefEqProofs [i_aload, i_iload, i_lload, i_istore, i_lstore, i_astore, i_iinc, i_push, i_getI, i_getJ, i_getR, i_putI, i_putJ, i_putR, i_iadd, i_isub, i_imul, i_iand, i_ior, i_ixor, i_ishl, i_ishr, i_iushr, i_idiv, i_irem, i_ladd, i_lsub, i_lmul, i_land, i_lor, i_lxor, i_ldiv, i_lrem, i_lshl, i_lshr, i_lcmp, i_ineg, i_lneg, i_i2l, i_l2i, i_i2b, i_i2c, i_dup, i_pop, i_dup_x1, i_dup2, i_icmp_eq, i_icmp_lt, i_icmp_ge, i_icmp_gt, i_icmp_le, i_if_eq, i_if_lt, i_if_ge, i_if_gt, i_if_le, i_goto, i_ifnull, i_iald, i_bald, i_zald, i_lald, i_aald, i_iast, i_bast, i_zast, i_last, i_alen, i_iret, i_lret, i_aret, i_vret, i_oinit, i_cast, i_tsw, i_cases, i_mmin, i_mmax, i_lmin, i_throw, nb0, nb1, nint, nby0, rf_s, rf_n, of_r, of_n, tk_orf_rf, tk_c2, tk_ls, Value.category, tk_isR_ref, tk_isR_rf, tk_isR_null, z_q_L_s_I, z_q_K_s_I, z_q_I_s_I, z_q_J_s_I, z_q_R_s_I, z_q_n_s_I, z_q_aI_s_I, z_q_aJ_s_I, z_q_aR_s_I, z_q_L_s_J, z_q_K_s_J, z_q_I_s_J, z_q_J_s_J, z_q_R_s_J, z_q_n_s_J, z_q_aI_s_J, z_q_aJ_s_J, z_q_aR_s_J, z_q_L_s_R, z_q_K_s_R, z_q_I_s_R, z_q_J_s_R, z_q_R_s_R, z_q_n_s_R, z_q_aI_s_R, z_q_aJ_s_R, z_q_aR_s_R, z_q_L_s_aI, z_q_K_s_aI, z_q_I_s_aI, z_q_J_s_aI, z_q_R_s_aI, z_q_n_s_aI, z_q_aI_s_aI, z_q_aJ_s_aI, z_q_aR_s_aI, z_q_L_s_aJ, z_q_K_s_aJ, z_q_I_s_aJ, z_q_J_s_aJ, z_q_R_s_aJ, z_q_n_s_aJ, z_q_aI_s_aJ, z_q_aJ_s_aJ, z_q_aR_s_aJ, z_q_L_s_aR, z_q_K_s_aR, z_q_I_s_aR, z_q_J_s_aR, z_q_R_s_aR, z_q_n_s_aR, z_q_aI_s_aR, z_q_aJ_s_aR, z_q_aR_s_aR, z_q_L_s_new, z_q_K_s_new, z_q_I_s_new, z_q_J_s_new, z_q_R_s_new, z_q_n_s_new, z_q_aI_s_new, z_q_aJ_s_new, z_q_aR_s_new, z_q_L_s_arr, z_q_K_s_arr, z_q_I_s_arr, z_q_J_s_arr, z_q_R_s_arr, z_q_n_s_arr, z_q_aI_s_arr, z_q_aJ_s_arr, z_q_aR_s_arr, hx, hk, h1, k1, hxq]
    have hs1 : ∀ b, b ∈ q_L S → sameAt S (s_new S 6 q) b := fun b hb => new_same hb hq
    have hLn : q_L (s_new S 6 q) = q_L S ++ [q] := rfl
    have hl1 := hl.same (hs1 l hl.1) (fun z _ => hs1 e z) (fun i hi => hs1 _ (hl.2.2.2.2.2.2.1 i hi).1)
    have hlS1 := hlS.same (hs1 lS hlS.1) (fun z _ => hs1 eS z) (fun i hi => hs1 _ (hlS.2.2.2.2.2.2.1 i hi).1)
    refine ⟨by simp, hl1.1, hl1.2.1, by simp [Value.category], 0, 0, 0, by omega, by omega, by omega, ?_⟩
    refine l_size hl1 ?_
    simp -implicitDefEqProofs [i_aload, i_iload, i_lload, i_istore, i_lstore, i_astore, i_iinc, i_push, i_getI, i_getJ, i_getR, i_putI, i_putJ, i_putR, i_iadd, i_isub, i_imul, i_iand, i_ior, i_ixor, i_ishl, i_ishr, i_iushr, i_idiv, i_irem, i_ladd, i_lsub, i_lmul, i_land, i_lor, i_lxor, i_ldiv, i_lrem, i_lshl, i_lshr, i_lcmp, i_ineg, i_lneg, i_i2l, i_l2i, i_i2b, i_i2c, i_dup, i_pop, i_dup_x1, i_dup2, i_icmp_eq, i_icmp_lt, i_icmp_ge, i_icmp_gt, i_icmp_le, i_if_eq, i_if_lt, i_if_ge, i_if_gt, i_if_le, i_goto, i_ifnull, i_iald, i_bald, i_zald, i_lald, i_aald, i_iast, i_bast, i_zast, i_last, i_alen, i_iret, i_lret, i_aret, i_vret, i_oinit, i_cast, i_tsw, i_cases, i_mmin, i_mmax, i_lmin, i_throw, nb0, nb1, nint, nby0, rf_s, rf_n, of_r, of_n, tk_orf_rf, tk_c2, tk_ls, Value.category, tk_isR_ref, tk_isR_rf, tk_isR_null, z_q_L_s_I, z_q_K_s_I, z_q_I_s_I, z_q_J_s_I, z_q_R_s_I, z_q_n_s_I, z_q_aI_s_I, z_q_aJ_s_I, z_q_aR_s_I, z_q_L_s_J, z_q_K_s_J, z_q_I_s_J, z_q_J_s_J, z_q_R_s_J, z_q_n_s_J, z_q_aI_s_J, z_q_aJ_s_J, z_q_aR_s_J, z_q_L_s_R, z_q_K_s_R, z_q_I_s_R, z_q_J_s_R, z_q_R_s_R, z_q_n_s_R, z_q_aI_s_R, z_q_aJ_s_R, z_q_aR_s_R, z_q_L_s_aI, z_q_K_s_aI, z_q_I_s_aI, z_q_J_s_aI, z_q_R_s_aI, z_q_n_s_aI, z_q_aI_s_aI, z_q_aJ_s_aI, z_q_aR_s_aI, z_q_L_s_aJ, z_q_K_s_aJ, z_q_I_s_aJ, z_q_J_s_aJ, z_q_R_s_aJ, z_q_n_s_aJ, z_q_aI_s_aJ, z_q_aJ_s_aJ, z_q_aR_s_aJ, z_q_L_s_aR, z_q_K_s_aR, z_q_I_s_aR, z_q_J_s_aR, z_q_R_s_aR, z_q_n_s_aR, z_q_aI_s_aR, z_q_aJ_s_aR, z_q_aR_s_aR, z_q_L_s_new, z_q_K_s_new, z_q_I_s_new, z_q_J_s_new, z_q_R_s_new, z_q_n_s_new, z_q_aI_s_new, z_q_aJ_s_new, z_q_aR_s_new, z_q_L_s_arr, z_q_K_s_arr, z_q_I_s_arr, z_q_J_s_arr, z_q_R_s_arr, z_q_n_s_arr, z_q_aI_s_arr, z_q_aJ_s_arr, z_q_aR_s_arr, hx, hk, h1, k1, hxq]
    refine ⟨by simp, hlS1.1, hlS1.2.1, by simp [Value.category], 3, 0, 0, by omega, by omega, by omega, ?_⟩
    refine l_get (Nat.le_refl 3) hlS1 hj ?_
    obtain ⟨y1, y2⟩ := hlS1.2.2.2.2.2.2.1 j hj
    simp -implicitDefEqProofs [i_aload, i_iload, i_lload, i_istore, i_lstore, i_astore, i_iinc, i_push, i_getI, i_getJ, i_getR, i_putI, i_putJ, i_putR, i_iadd, i_isub, i_imul, i_iand, i_ior, i_ixor, i_ishl, i_ishr, i_iushr, i_idiv, i_irem, i_ladd, i_lsub, i_lmul, i_land, i_lor, i_lxor, i_ldiv, i_lrem, i_lshl, i_lshr, i_lcmp, i_ineg, i_lneg, i_i2l, i_l2i, i_i2b, i_i2c, i_dup, i_pop, i_dup_x1, i_dup2, i_icmp_eq, i_icmp_lt, i_icmp_ge, i_icmp_gt, i_icmp_le, i_if_eq, i_if_lt, i_if_ge, i_if_gt, i_if_le, i_goto, i_ifnull, i_iald, i_bald, i_zald, i_lald, i_aald, i_iast, i_bast, i_zast, i_last, i_alen, i_iret, i_lret, i_aret, i_vret, i_oinit, i_cast, i_tsw, i_cases, i_mmin, i_mmax, i_lmin, i_throw, nb0, nb1, nint, nby0, rf_s, rf_n, of_r, of_n, tk_orf_rf, tk_c2, tk_ls, Value.category, tk_isR_ref, tk_isR_rf, tk_isR_null, y1, y2]
    refine ⟨by simp, by simp [Value.category], 4, 1, 3, by omega, by omega, by omega, ?_⟩
    refine tk_M.out (m_GateI (Nat.le_refl 4) (by simp -implicitDefEqProofs [z_q_L_s_I, z_q_K_s_I, z_q_I_s_I, z_q_J_s_I, z_q_R_s_I, z_q_n_s_I, z_q_aI_s_I, z_q_aJ_s_I, z_q_aR_s_I, z_q_L_s_J, z_q_K_s_J, z_q_I_s_J, z_q_J_s_J, z_q_R_s_J, z_q_n_s_J, z_q_aI_s_J, z_q_aJ_s_J, z_q_aR_s_J, z_q_L_s_R, z_q_K_s_R, z_q_I_s_R, z_q_J_s_R, z_q_R_s_R, z_q_n_s_R, z_q_aI_s_R, z_q_aJ_s_R, z_q_aR_s_R, z_q_L_s_aI, z_q_K_s_aI, z_q_I_s_aI, z_q_J_s_aI, z_q_R_s_aI, z_q_n_s_aI, z_q_aI_s_aI, z_q_aJ_s_aI, z_q_aR_s_aI, z_q_L_s_aJ, z_q_K_s_aJ, z_q_I_s_aJ, z_q_J_s_aJ, z_q_R_s_aJ, z_q_n_s_aJ, z_q_aI_s_aJ, z_q_aJ_s_aJ, z_q_aR_s_aJ, z_q_L_s_aR, z_q_K_s_aR, z_q_I_s_aR, z_q_J_s_aR, z_q_R_s_aR, z_q_n_s_aR, z_q_aI_s_aR, z_q_aJ_s_aR, z_q_aR_s_aR, z_q_L_s_new, z_q_K_s_new, z_q_I_s_new, z_q_J_s_new, z_q_R_s_new, z_q_n_s_new, z_q_aI_s_new, z_q_aJ_s_new, z_q_aR_s_new, z_q_L_s_arr, z_q_K_s_arr, z_q_I_s_arr, z_q_J_s_arr, z_q_R_s_arr, z_q_n_s_arr, z_q_aI_s_arr, z_q_aJ_s_arr, z_q_aR_s_arr]) (by simp -implicitDefEqProofs [z_q_L_s_I, z_q_K_s_I, z_q_I_s_I, z_q_J_s_I, z_q_R_s_I, z_q_n_s_I, z_q_aI_s_I, z_q_aJ_s_I, z_q_aR_s_I, z_q_L_s_J, z_q_K_s_J, z_q_I_s_J, z_q_J_s_J, z_q_R_s_J, z_q_n_s_J, z_q_aI_s_J, z_q_aJ_s_J, z_q_aR_s_J, z_q_L_s_R, z_q_K_s_R, z_q_I_s_R, z_q_J_s_R, z_q_R_s_R, z_q_n_s_R, z_q_aI_s_R, z_q_aJ_s_R, z_q_aR_s_R, z_q_L_s_aI, z_q_K_s_aI, z_q_I_s_aI, z_q_J_s_aI, z_q_R_s_aI, z_q_n_s_aI, z_q_aI_s_aI, z_q_aJ_s_aI, z_q_aR_s_aI, z_q_L_s_aJ, z_q_K_s_aJ, z_q_I_s_aJ, z_q_J_s_aJ, z_q_R_s_aJ, z_q_n_s_aJ, z_q_aI_s_aJ, z_q_aJ_s_aJ, z_q_aR_s_aJ, z_q_L_s_aR, z_q_K_s_aR, z_q_I_s_aR, z_q_J_s_aR, z_q_R_s_aR, z_q_n_s_aR, z_q_aI_s_aR, z_q_aJ_s_aR, z_q_aR_s_aR, z_q_L_s_new, z_q_K_s_new, z_q_I_s_new, z_q_J_s_new, z_q_R_s_new, z_q_n_s_new, z_q_aI_s_new, z_q_aJ_s_new, z_q_aR_s_new, z_q_L_s_arr, z_q_K_s_arr, z_q_I_s_arr, z_q_J_s_arr, z_q_R_s_arr, z_q_n_s_arr, z_q_aI_s_arr, z_q_aJ_s_arr, z_q_aR_s_arr]) (Nat.le_refl 1) (Nat.le_refl 3) (fun q5 S2 n5 L2 s2 b1 b2 b3 b4 b5 b6 b7 b8 b9 b10 b11 hZ2 => ?_))
    simp -implicitDefEqProofs [i_aload, i_iload, i_lload, i_istore, i_lstore, i_astore, i_iinc, i_push, i_getI, i_getJ, i_getR, i_putI, i_putJ, i_putR, i_iadd, i_isub, i_imul, i_iand, i_ior, i_ixor, i_ishl, i_ishr, i_iushr, i_idiv, i_irem, i_ladd, i_lsub, i_lmul, i_land, i_lor, i_lxor, i_ldiv, i_lrem, i_lshl, i_lshr, i_lcmp, i_ineg, i_lneg, i_i2l, i_l2i, i_i2b, i_i2c, i_dup, i_pop, i_dup_x1, i_dup2, i_icmp_eq, i_icmp_lt, i_icmp_ge, i_icmp_gt, i_icmp_le, i_if_eq, i_if_lt, i_if_ge, i_if_gt, i_if_le, i_goto, i_ifnull, i_iald, i_bald, i_zald, i_lald, i_aald, i_iast, i_bast, i_zast, i_last, i_alen, i_iret, i_lret, i_aret, i_vret, i_oinit, i_cast, i_tsw, i_cases, i_mmin, i_mmax, i_lmin, i_throw, nb0, nb1, nint, nby0, rf_s, rf_n, of_r, of_n, tk_orf_rf, tk_c2, tk_ls, Value.category, tk_isR_ref, tk_isR_rf, tk_isR_null]
    have m1 : q ∈ q_L (s_new S 6 q) := by rw [hLn]; simp
    have n5q : q ≠ q5 := fun z => n5 (z ▸ m1)
    have n5S : ∀ b, b ∈ q_L S → b ≠ q5 := fun b hb z => n5 (by rw [hLn, ← z]; simp [hb])
    have hs2 : ∀ b, b ∈ q_L S → sameAt S S2 b := fun b hb => (hs1 b hb).trans (s2 b (hs1 b hb).1 (fun z => hq (z ▸ hb)))
    have mq : q ∈ q_L S2 := by rw [L2, hLn]; simp
    have m5 : q5 ∈ q_L S2 := by rw [L2]; simp
    generalize hρ1 : (fun b => if b = q5 then 50 + nG else rnew ρ S 41 b : Nat → Nat) = ρ1
    have r1 : rx ρ ρ1 S := fun b hb => by rw [← hρ1]; simp [n5S b hb, rx_new ρ S 41 b hb]
    have rq : ρ1 q = 41 := by rw [← hρ1]; simp [n5q, rnew_n hq]
    have rq5 : ρ1 q5 = 50 + nG := by rw [← hρ1]; simp
    clear hρ1
    have hL1 := h2.mv hs2 r1
    refine ⟨by simp, hL1.1.1, hL1.1.2.1, by simp [Value.category], 7, 1, 10 + 2 * nG, by omega, by omega, by omega, ?_⟩
    refine tk_M.out (l_add_2 (k := 6) (f := fG) (Nat.le_refl 7) hL1.1 (by omega) (by decide) ⟨mq, b1⟩ (Nat.le_refl 1) (Nat.le_refl _) (fun e2 S3 hg hZ3 => ?_))
    obtain ⟨hA, g3, f3⟩ := hL1.add hZ2 hg mq rq
    have gA : gr S S3 := fun b hb => g3 b (hs2 b hb).1
    have rA : rx ρ (rnew ρ1 S2 13) S := fun b hb => by rw [rx_new _ S2 13 b (hs2 b hb).1, r1 b hb]
    have s1 : ∀ b, b ∈ q_L S → ρ b ∉ [7, 13] → sameAt S S3 b := fun b hb hn => (hs2 b hb).trans (f3 b (hs2 b hb).1 (by rw [r1 b hb]; exact hn))
    have sx := s1 x hx (by rw [hρ]; simp)
    have sq := f3 q mq (by rw [rq]; simp)
    have s5 := f3 q5 m5 (by rw [rq5]; simp; omega)
    simp -implicitDefEqProofs [i_aload, i_iload, i_lload, i_istore, i_lstore, i_astore, i_iinc, i_push, i_getI, i_getJ, i_getR, i_putI, i_putJ, i_putR, i_iadd, i_isub, i_imul, i_iand, i_ior, i_ixor, i_ishl, i_ishr, i_iushr, i_idiv, i_irem, i_ladd, i_lsub, i_lmul, i_land, i_lor, i_lxor, i_ldiv, i_lrem, i_lshl, i_lshr, i_lcmp, i_ineg, i_lneg, i_i2l, i_l2i, i_i2b, i_i2c, i_dup, i_pop, i_dup_x1, i_dup2, i_icmp_eq, i_icmp_lt, i_icmp_ge, i_icmp_gt, i_icmp_le, i_if_eq, i_if_lt, i_if_ge, i_if_gt, i_if_le, i_goto, i_ifnull, i_iald, i_bald, i_zald, i_lald, i_aald, i_iast, i_bast, i_zast, i_last, i_alen, i_iret, i_lret, i_aret, i_vret, i_oinit, i_cast, i_tsw, i_cases, i_mmin, i_mmax, i_lmin, i_throw, nb0, nb1, nint, nby0, rf_s, rf_n, of_r, of_n, tk_orf_rf, tk_c2, tk_ls, Value.category, tk_isR_ref, tk_isR_rf, tk_isR_null, sx.1, sx.2.1.trans hk, (sx.2.2.2.2.1 12 5).trans h1]
    refine ⟨by simp, hA.1.1, hA.1.2.1, by simp [Value.category], 0, 0, 0, by omega, by omega, by omega, ?_⟩
    refine l_size hA.1 ?_
    simp -implicitDefEqProofs [i_aload, i_iload, i_lload, i_istore, i_lstore, i_astore, i_iinc, i_push, i_getI, i_getJ, i_getR, i_putI, i_putJ, i_putR, i_iadd, i_isub, i_imul, i_iand, i_ior, i_ixor, i_ishl, i_ishr, i_iushr, i_idiv, i_irem, i_ladd, i_lsub, i_lmul, i_land, i_lor, i_lxor, i_ldiv, i_lrem, i_lshl, i_lshr, i_lcmp, i_ineg, i_lneg, i_i2l, i_l2i, i_i2b, i_i2c, i_dup, i_pop, i_dup_x1, i_dup2, i_icmp_eq, i_icmp_lt, i_icmp_ge, i_icmp_gt, i_icmp_le, i_if_eq, i_if_lt, i_if_ge, i_if_gt, i_if_le, i_goto, i_ifnull, i_iald, i_bald, i_zald, i_lald, i_aald, i_iast, i_bast, i_zast, i_last, i_alen, i_iret, i_lret, i_aret, i_vret, i_oinit, i_cast, i_tsw, i_cases, i_mmin, i_mmax, i_lmin, i_throw, nb0, nb1, nint, nby0, rf_s, rf_n, of_r, of_n, tk_orf_rf, tk_c2, tk_ls, Value.category, tk_isR_ref, tk_isR_rf, tk_isR_null]
    refine ⟨by omega, by omega, ?_⟩
    rw [nI_pred]
    refine H0 S3 _ (fS, va_up fG nG q, fV, p, p2, fF, fL, va_up bl nG q5) (FO.of gA rA s1 (by simp)) ?_
    have cG1 : cG Z (rnew ρ1 S2 13) S3 x (va_up fG nG q) fS fF (va_up bl nG q5) nS nF (nG + 1) (va_up os nG j) ps (va_up ls nG none) re su du le nb bf br bs := by
      refine ⟨l, e2, (sx.2.2.2.2.1 12 5).trans h1, hA, inj_add h3 (fun j hj z => hq (by rw [← z]; exact (hl.2.2.2.2.2.2.1 j hj).1)), inj_add h31 (fun k hk z => n5S _ (h5 k hk).2.choose_spec.choose_spec.1.1.1 z), by omega, fun k hkn => ?_⟩
      by_cases hk2 : k = nG
      · subst hk2
        rw [va_up_self, va_up_self]
        refine ⟨⟨(sq.2.2.1 _ _).trans b2, ⟨?_, ?_⟩, (sq.2.2.2.2.1 _ _).trans b4, ?_, Or.inl ⟨va_up_self _ _ _, (sq.2.2.2.2.1 _ _).trans b7, (sq.2.2.1 _ _).trans b8, (sq.2.2.1 _ _).trans b9, (sq.2.2.1 _ _).trans b10⟩⟩, Z.2.2.2.2.2.1, (fun _ => 0), ⟨?_, ?_, Or.inl ⟨hb0, rfl⟩, fun i hi => ?_⟩, by omega, fun i hi => ?_⟩
        · rw [va_up_self]; exact (sq.2.2.2.2.1 _ _).trans b3
        · rw [va_up_self]; exact hj
        · rw [hp0]; exact (sq.2.2.1 _ _).trans b6
        · rw [hb0]
          exact (b5 2 (fun _ => 0) (by decide)).same s5 (fun z1 z2 => absurd z1 hZ2) (fun i hi => absurd hi (by omega))
        · rw [rx_new _ S2 13 _ m5]; exact rq5
        · omega
        · omega
      · have hk3 : k < nG := by omega
        rw [va_up_ne _ _ hk2, va_up_ne _ _ hk2]
        obtain ⟨c1, c2⟩ := h5 k hk3
        have hkL := (hl.2.2.2.2.2.2.1 k hk3).1
        obtain ⟨p1, p2', p3, p4, p5⟩ := c1.same (s1 _ hkL (by rw [h2.2.2.2 k hk3]; simp))
        refine ⟨⟨p1, ?_, p3, p4, ?_⟩, c2.same (R := [44, 50, 51, 52, 53, 54, 55, 56, 57, 60, 61, 62, 63, 64, 65, 66, 67]) hZ (sm.no s1 (by simp)) rA (by simp; omega) (by simp; omega) (by simp)⟩
        · rw [va_up_ne _ _ hk2]; exact p2'
        · rw [va_up_ne _ _ hk2]; exact p5
    exact ⟨cD.same ⟨hx, hk, hρ, htd, ht, hdry, hlc⟩ sx (rA x hx), cT0.same (xr.of sx) (sm.no s1 (by simp)) rA, cK0.same (xr.of sx) (sm.no s1 (by simp)) rA, cA0.same hZ (xr.of sx) (sm.no s1 (by simp)) rA, cS0.same hZ (xr.of sx) (sm.no s1 (by simp)) rA, cG1, cV0.same hZ (xr.of sx) (sm.no s1 (by simp)) rA, cF0.same hZ (xr.of sx) (sm.no s1 (by simp)) rA, cL0.same hZ (xr.of sx) (sm.no s1 (by simp)) rA, cJ0.same (xr.of sx) (sm.no s1 (by simp)) rA⟩
  · have hn : 8 ≤ nG := Nat.le_of_not_lt (fun z => absurd (zn.mpr z) (Int32.not_lt.mpr w2))
    exact ⟨by omega, by omega, H2 hn⟩
end PUB3

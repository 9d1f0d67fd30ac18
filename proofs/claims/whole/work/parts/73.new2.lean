/-! THE CLASS'S CALLS: a new object -/
section PUB13
variable {Z : tk_Z} {d mc ms : Nat} {S : tk_S} {QR : tk_R} {ρ : Nat → Nat} {x : Nat}
/-- nothing has happened yet -/
abbrev M0 : Mt := ((0, fun _ => 0, -1), [], (0, fun _ => 0, fun _ => 0), (0, fun _ => 0, fun _ => 0, fun _ => none, fun _ => 0, fun _ => 0, fun _ => 0, fun _ => 0, fun _ => 0, fun _ => 0, fun _ => 0, fun _ => 0), (0, fun _ => 0, fun _ => 0, fun _ => 0, fun _ => 0, fun _ => 0, fun _ => 0, fun _ => 0), (0, fun _ => 0), (0, fun _ => 0, fun _ => 0, fun _ => 0, fun _ => 0), (0, 0, fun _ => 0, fun _ => 0, fun _ => 0, fun _ => 0, fun _ => 0), (0, 0, -1))
theorem isL.lr {ρ9 : Nat → Nat} {S' : tk_S} {c q r re rf : Nat} {f : Nat → Nat} (h : isL Z c S q 0 f Z.2.2.2.2.2.1) (hZ : Z.2.2.2.2.2.1 ∉ q_L S) (hs : sameAt S S' q) (hr : ρ9 q = r) : isLr Z ρ9 c S' q 0 f Z.2.2.2.2.2.1 r re rf := ⟨h.same hs (fun z _ => absurd z hZ) (fun i hi => absurd hi (Nat.not_lt_zero i)), hr, Or.inl ⟨rfl, rfl⟩, fun i hi => absurd hi (Nat.not_lt_zero i)⟩
set_option maxHeartbeats 4000000 in
theorem c_new (hx : x ∈ q_L S) (hk : q_K S x = 12) (hρ : ρ x = 1) (hd : 5 ≤ d) (hmc : 18 ≤ mc) (hms : 4413 ≤ ms)
    (H : ∀ S' ρ' gh', gr S S' → rx ρ ρ' S → (∀ b, b ∈ q_L S → b ≠ x → sameAt S S' b) → CI Z ρ' S' x gh' M0 → QR none S') : tk_M Z mX11_init d mc ms [.ref x] S QR tk_noX := by
  refine M_X11_init (Nat.le_of_ble_eq_true rfl) (fun E hE => hE _ _ _ _ _ ?_)
  show t_X11_init_0 Z d mc ms QR E [some (.ref x)] [] S 0 0
  simp -implicitDefEqProofs [t_X11_init_0, i_oinit, i_aload, i_iload, i_lload, i_istore, i_lstore, i_astore, i_iinc, i_push, i_getI, i_getJ, i_getR, i_putI, i_putJ, i_putR, i_iadd, i_isub, i_imul, i_iand, i_ior, i_ixor, i_ishl, i_ishr, i_iushr, i_idiv, i_irem, i_ladd, i_lsub, i_lmul, i_land, i_lor, i_lxor, i_ldiv, i_lrem, i_lshl, i_lshr, i_lcmp, i_ineg, i_lneg, i_i2l, i_l2i, i_i2b, i_i2c, i_dup, i_pop, i_dup_x1, i_dup2, i_icmp_eq, i_icmp_lt, i_icmp_ge, i_icmp_gt, i_icmp_le, i_if_eq, i_if_lt, i_if_ge, i_if_gt, i_if_le, i_goto, i_ifnull, i_iald, i_bald, i_zald, i_lald, i_aald, i_iast, i_bast, i_zast, i_last, i_alen, i_iret, i_lret, i_aret, i_vret, i_oinit, i_cast, i_tsw, i_cases, i_mmin, i_mmax, i_lmin, i_throw, nb0, nb1, nint, nby0, rf_s, rf_n, of_r, of_n, tk_orf_rf, tk_c2, tk_ls, Value.category, tk_isR_ref, tk_isR_rf, tk_isR_null]
  refine ⟨by omega, ?_⟩
  refine new_T hx hk (by omega) (by omega) (by omega) (fun a qt qs S1 m1 hZ1 t1 t2 t3 t4 t5 t6 t7 t8 t9 t10 t11 => ?_)
  simp -implicitDefEqProofs [i_aload, i_iload, i_lload, i_istore, i_lstore, i_astore, i_iinc, i_push, i_getI, i_getJ, i_getR, i_putI, i_putJ, i_putR, i_iadd, i_isub, i_imul, i_iand, i_ior, i_ixor, i_ishl, i_ishr, i_iushr, i_idiv, i_irem, i_ladd, i_lsub, i_lmul, i_land, i_lor, i_lxor, i_ldiv, i_lrem, i_lshl, i_lshr, i_lcmp, i_ineg, i_lneg, i_i2l, i_l2i, i_i2b, i_i2c, i_dup, i_pop, i_dup_x1, i_dup2, i_icmp_eq, i_icmp_lt, i_icmp_ge, i_icmp_gt, i_icmp_le, i_if_eq, i_if_lt, i_if_ge, i_if_gt, i_if_le, i_goto, i_ifnull, i_iald, i_bald, i_zald, i_lald, i_aald, i_iast, i_bast, i_zast, i_last, i_alen, i_iret, i_lret, i_aret, i_vret, i_oinit, i_cast, i_tsw, i_cases, i_mmin, i_mmax, i_lmin, i_throw, nb0, nb1, nint, nby0, rf_s, rf_n, of_r, of_n, tk_orf_rf, tk_c2, tk_ls, Value.category, tk_isR_ref, tk_isR_rf, tk_isR_null]
  refine new_K (m1.1 x hx) m1.2.2.1 (by omega) (by omega) (by omega) (fun a2 q q2 S2 m2 hZ2 k1 k2 k3 k4 k5 => ?_)
  have hx2 := m2.1 x (m1.1 x hx)
  simp -implicitDefEqProofs [i_aload, i_iload, i_lload, i_istore, i_lstore, i_astore, i_iinc, i_push, i_getI, i_getJ, i_getR, i_putI, i_putJ, i_putR, i_iadd, i_isub, i_imul, i_iand, i_ior, i_ixor, i_ishl, i_ishr, i_iushr, i_idiv, i_irem, i_ladd, i_lsub, i_lmul, i_land, i_lor, i_lxor, i_ldiv, i_lrem, i_lshl, i_lshr, i_lcmp, i_ineg, i_lneg, i_i2l, i_l2i, i_i2b, i_i2c, i_dup, i_pop, i_dup_x1, i_dup2, i_icmp_eq, i_icmp_lt, i_icmp_ge, i_icmp_gt, i_icmp_le, i_if_eq, i_if_lt, i_if_ge, i_if_gt, i_if_le, i_goto, i_ifnull, i_iald, i_bald, i_zald, i_lald, i_aald, i_iast, i_bast, i_zast, i_last, i_alen, i_iret, i_lret, i_aret, i_vret, i_oinit, i_cast, i_tsw, i_cases, i_mmin, i_mmax, i_lmin, i_throw, nb0, nb1, nint, nby0, rf_s, rf_n, of_r, of_n, tk_orf_rf, tk_c2, tk_ls, Value.category, tk_isR_ref, tk_isR_rf, tk_isR_null]
  refine new_J hx2 m2.2.2.1 (by omega) (by omega) (by omega) (fun a3 p2 p3 p4 p5 p6 S3 m3 hZ3 j1 j2 => ?_)
  have hx3 := m3.1 x hx2
  simp -implicitDefEqProofs [i_aload, i_iload, i_lload, i_istore, i_lstore, i_astore, i_iinc, i_push, i_getI, i_getJ, i_getR, i_putI, i_putJ, i_putR, i_iadd, i_isub, i_imul, i_iand, i_ior, i_ixor, i_ishl, i_ishr, i_iushr, i_idiv, i_irem, i_ladd, i_lsub, i_lmul, i_land, i_lor, i_lxor, i_ldiv, i_lrem, i_lshl, i_lshr, i_lcmp, i_ineg, i_lneg, i_i2l, i_l2i, i_i2b, i_i2c, i_dup, i_pop, i_dup_x1, i_dup2, i_icmp_eq, i_icmp_lt, i_icmp_ge, i_icmp_gt, i_icmp_le, i_if_eq, i_if_lt, i_if_ge, i_if_gt, i_if_le, i_goto, i_ifnull, i_iald, i_bald, i_zald, i_lald, i_aald, i_iast, i_bast, i_zast, i_last, i_alen, i_iret, i_lret, i_aret, i_vret, i_oinit, i_cast, i_tsw, i_cases, i_mmin, i_mmax, i_lmin, i_throw, nb0, nb1, nint, nby0, rf_s, rf_n, of_r, of_n, tk_orf_rf, tk_c2, tk_ls, Value.category, tk_isR_ref, tk_isR_rf, tk_isR_null]
  refine new_L hx3 m3.2.2.1 (by omega) (by omega) (by omega) (fun l4 S4 m4 hZ4 i4 => ?_)
  have hx4 := m4.1 x hx3
  simp -implicitDefEqProofs [i_aload, i_iload, i_lload, i_istore, i_lstore, i_astore, i_iinc, i_push, i_getI, i_getJ, i_getR, i_putI, i_putJ, i_putR, i_iadd, i_isub, i_imul, i_iand, i_ior, i_ixor, i_ishl, i_ishr, i_iushr, i_idiv, i_irem, i_ladd, i_lsub, i_lmul, i_land, i_lor, i_lxor, i_ldiv, i_lrem, i_lshl, i_lshr, i_lcmp, i_ineg, i_lneg, i_i2l, i_l2i, i_i2b, i_i2c, i_dup, i_pop, i_dup_x1, i_dup2, i_icmp_eq, i_icmp_lt, i_icmp_ge, i_icmp_gt, i_icmp_le, i_if_eq, i_if_lt, i_if_ge, i_if_gt, i_if_le, i_goto, i_ifnull, i_iald, i_bald, i_zald, i_lald, i_aald, i_iast, i_bast, i_zast, i_last, i_alen, i_iret, i_lret, i_aret, i_vret, i_oinit, i_cast, i_tsw, i_cases, i_mmin, i_mmax, i_lmin, i_throw, nb0, nb1, nint, nby0, rf_s, rf_n, of_r, of_n, tk_orf_rf, tk_c2, tk_ls, Value.category, tk_isR_ref, tk_isR_rf, tk_isR_null]
  refine new_L hx4 m4.2.2.1 (by omega) (by omega) (by omega) (fun l5 S5 m5 hZ5 i5 => ?_)
  have hx5 := m5.1 x hx4
  simp -implicitDefEqProofs [i_aload, i_iload, i_lload, i_istore, i_lstore, i_astore, i_iinc, i_push, i_getI, i_getJ, i_getR, i_putI, i_putJ, i_putR, i_iadd, i_isub, i_imul, i_iand, i_ior, i_ixor, i_ishl, i_ishr, i_iushr, i_idiv, i_irem, i_ladd, i_lsub, i_lmul, i_land, i_lor, i_lxor, i_ldiv, i_lrem, i_lshl, i_lshr, i_lcmp, i_ineg, i_lneg, i_i2l, i_l2i, i_i2b, i_i2c, i_dup, i_pop, i_dup_x1, i_dup2, i_icmp_eq, i_icmp_lt, i_icmp_ge, i_icmp_gt, i_icmp_le, i_if_eq, i_if_lt, i_if_ge, i_if_gt, i_if_le, i_goto, i_ifnull, i_iald, i_bald, i_zald, i_lald, i_aald, i_iast, i_bast, i_zast, i_last, i_alen, i_iret, i_lret, i_aret, i_vret, i_oinit, i_cast, i_tsw, i_cases, i_mmin, i_mmax, i_lmin, i_throw, nb0, nb1, nint, nby0, rf_s, rf_n, of_r, of_n, tk_orf_rf, tk_c2, tk_ls, Value.category, tk_isR_ref, tk_isR_rf, tk_isR_null]
  refine new_L hx5 m5.2.2.1 (by omega) (by omega) (by omega) (fun l6 S6 m6 hZ6 i6 => ?_)
  have hx6 := m6.1 x hx5
  simp -implicitDefEqProofs [i_aload, i_iload, i_lload, i_istore, i_lstore, i_astore, i_iinc, i_push, i_getI, i_getJ, i_getR, i_putI, i_putJ, i_putR, i_iadd, i_isub, i_imul, i_iand, i_ior, i_ixor, i_ishl, i_ishr, i_iushr, i_idiv, i_irem, i_ladd, i_lsub, i_lmul, i_land, i_lor, i_lxor, i_ldiv, i_lrem, i_lshl, i_lshr, i_lcmp, i_ineg, i_lneg, i_i2l, i_l2i, i_i2b, i_i2c, i_dup, i_pop, i_dup_x1, i_dup2, i_icmp_eq, i_icmp_lt, i_icmp_ge, i_icmp_gt, i_icmp_le, i_if_eq, i_if_lt, i_if_ge, i_if_gt, i_if_le, i_goto, i_ifnull, i_iald, i_bald, i_zald, i_lald, i_aald, i_iast, i_bast, i_zast, i_last, i_alen, i_iret, i_lret, i_aret, i_vret, i_oinit, i_cast, i_tsw, i_cases, i_mmin, i_mmax, i_lmin, i_throw, nb0, nb1, nint, nby0, rf_s, rf_n, of_r, of_n, tk_orf_rf, tk_c2, tk_ls, Value.category, tk_isR_ref, tk_isR_rf, tk_isR_null]
  refine new_L hx6 m6.2.2.1 (by omega) (by omega) (by omega) (fun l7 S7 m7 hZ7 i7 => ?_)
  have hx7 := m7.1 x hx6
  simp -implicitDefEqProofs [i_aload, i_iload, i_lload, i_istore, i_lstore, i_astore, i_iinc, i_push, i_getI, i_getJ, i_getR, i_putI, i_putJ, i_putR, i_iadd, i_isub, i_imul, i_iand, i_ior, i_ixor, i_ishl, i_ishr, i_iushr, i_idiv, i_irem, i_ladd, i_lsub, i_lmul, i_land, i_lor, i_lxor, i_ldiv, i_lrem, i_lshl, i_lshr, i_lcmp, i_ineg, i_lneg, i_i2l, i_l2i, i_i2b, i_i2c, i_dup, i_pop, i_dup_x1, i_dup2, i_icmp_eq, i_icmp_lt, i_icmp_ge, i_icmp_gt, i_icmp_le, i_if_eq, i_if_lt, i_if_ge, i_if_gt, i_if_le, i_goto, i_ifnull, i_iald, i_bald, i_zald, i_lald, i_aald, i_iast, i_bast, i_zast, i_last, i_alen, i_iret, i_lret, i_aret, i_vret, i_oinit, i_cast, i_tsw, i_cases, i_mmin, i_mmax, i_lmin, i_throw, nb0, nb1, nint, nby0, rf_s, rf_n, of_r, of_n, tk_orf_rf, tk_c2, tk_ls, Value.category, tk_isR_ref, tk_isR_rf, tk_isR_null]
  refine new_L hx7 m7.2.2.1 (by omega) (by omega) (by omega) (fun l8 S8 m8 hZ8 i8 => ?_)
  have hx8 := m8.1 x hx7
  simp -implicitDefEqProofs [i_aload, i_iload, i_lload, i_istore, i_lstore, i_astore, i_iinc, i_push, i_getI, i_getJ, i_getR, i_putI, i_putJ, i_putR, i_iadd, i_isub, i_imul, i_iand, i_ior, i_ixor, i_ishl, i_ishr, i_iushr, i_idiv, i_irem, i_ladd, i_lsub, i_lmul, i_land, i_lor, i_lxor, i_ldiv, i_lrem, i_lshl, i_lshr, i_lcmp, i_ineg, i_lneg, i_i2l, i_l2i, i_i2b, i_i2c, i_dup, i_pop, i_dup_x1, i_dup2, i_icmp_eq, i_icmp_lt, i_icmp_ge, i_icmp_gt, i_icmp_le, i_if_eq, i_if_lt, i_if_ge, i_if_gt, i_if_le, i_goto, i_ifnull, i_iald, i_bald, i_zald, i_lald, i_aald, i_iast, i_bast, i_zast, i_last, i_alen, i_iret, i_lret, i_aret, i_vret, i_oinit, i_cast, i_tsw, i_cases, i_mmin, i_mmax, i_lmin, i_throw, nb0, nb1, nint, nby0, rf_s, rf_n, of_r, of_n, tk_orf_rf, tk_c2, tk_ls, Value.category, tk_isR_ref, tk_isR_rf, tk_isR_null]
  refine new_L hx8 m8.2.2.1 (by omega) (by omega) (by omega) (fun l9 S9 m9 hZ9 i9 => ?_)
  have hx9 := m9.1 x hx8
  simp -implicitDefEqProofs [i_aload, i_iload, i_lload, i_istore, i_lstore, i_astore, i_iinc, i_push, i_getI, i_getJ, i_getR, i_putI, i_putJ, i_putR, i_iadd, i_isub, i_imul, i_iand, i_ior, i_ixor, i_ishl, i_ishr, i_iushr, i_idiv, i_irem, i_ladd, i_lsub, i_lmul, i_land, i_lor, i_lxor, i_ldiv, i_lrem, i_lshl, i_lshr, i_lcmp, i_ineg, i_lneg, i_i2l, i_l2i, i_i2b, i_i2c, i_dup, i_pop, i_dup_x1, i_dup2, i_icmp_eq, i_icmp_lt, i_icmp_ge, i_icmp_gt, i_icmp_le, i_if_eq, i_if_lt, i_if_ge, i_if_gt, i_if_le, i_goto, i_ifnull, i_iald, i_bald, i_zald, i_lald, i_aald, i_iast, i_bast, i_zast, i_last, i_alen, i_iret, i_lret, i_aret, i_vret, i_oinit, i_cast, i_tsw, i_cases, i_mmin, i_mmax, i_lmin, i_throw, nb0, nb1, nint, nby0, rf_s, rf_n, of_r, of_n, tk_orf_rf, tk_c2, tk_ls, Value.category, tk_isR_ref, tk_isR_rf, tk_isR_null, z_q_L_s_I, z_q_K_s_I, z_q_I_s_I, z_q_J_s_I, z_q_R_s_I, z_q_n_s_I, z_q_aI_s_I, z_q_aJ_s_I, z_q_aR_s_I, z_q_L_s_J, z_q_K_s_J, z_q_I_s_J, z_q_J_s_J, z_q_R_s_J, z_q_n_s_J, z_q_aI_s_J, z_q_aJ_s_J, z_q_aR_s_J, z_q_L_s_R, z_q_K_s_R, z_q_I_s_R, z_q_J_s_R, z_q_R_s_R, z_q_n_s_R, z_q_aI_s_R, z_q_aJ_s_R, z_q_aR_s_R, z_q_L_s_aI, z_q_K_s_aI, z_q_I_s_aI, z_q_J_s_aI, z_q_R_s_aI, z_q_n_s_aI, z_q_aI_s_aI, z_q_aJ_s_aI, z_q_aR_s_aI, z_q_L_s_aJ, z_q_K_s_aJ, z_q_I_s_aJ, z_q_J_s_aJ, z_q_R_s_aJ, z_q_n_s_aJ, z_q_aI_s_aJ, z_q_aJ_s_aJ, z_q_aR_s_aJ, z_q_L_s_aR, z_q_K_s_aR, z_q_I_s_aR, z_q_J_s_aR, z_q_R_s_aR, z_q_n_s_aR, z_q_aI_s_aR, z_q_aJ_s_aR, z_q_aR_s_aR, z_q_L_s_new, z_q_K_s_new, z_q_I_s_new, z_q_J_s_new, z_q_R_s_new, z_q_n_s_new, z_q_aI_s_new, z_q_aJ_s_new, z_q_aR_s_new, z_q_L_s_arr, z_q_K_s_arr, z_q_I_s_arr, z_q_J_s_arr, z_q_R_s_arr, z_q_n_s_arr, z_q_aI_s_arr, z_q_aJ_s_arr, z_q_aR_s_arr, hx9, m9.2.2.1]
  have r0 : q_R S9 12 0 x = some a := by
    rw [m9.2.2.2.2.1 0 (by decide), m8.2.2.2.2.1 0 (by decide), m7.2.2.2.2.1 0 (by decide), m6.2.2.2.2.1 0 (by decide), m5.2.2.2.2.1 0 (by decide), m4.2.2.2.2.1 0 (by decide), m3.2.2.2.2.1 0 (by decide), m2.2.2.2.2.1 0 (by decide)]
    exact m1.2.2.2.1
  have r1 : q_R S9 12 1 x = some a2 := by
    rw [m9.2.2.2.2.1 1 (by decide), m8.2.2.2.2.1 1 (by decide), m7.2.2.2.2.1 1 (by decide), m6.2.2.2.2.1 1 (by decide), m5.2.2.2.2.1 1 (by decide), m4.2.2.2.2.1 1 (by decide), m3.2.2.2.2.1 1 (by decide)]
    exact m2.2.2.2.1
  have r2 : q_R S9 12 2 x = some a3 := by
    rw [m9.2.2.2.2.1 2 (by decide), m8.2.2.2.2.1 2 (by decide), m7.2.2.2.2.1 2 (by decide), m6.2.2.2.2.1 2 (by decide), m5.2.2.2.2.1 2 (by decide), m4.2.2.2.2.1 2 (by decide)]
    exact m3.2.2.2.1
  have r3 : q_R S9 12 3 x = some l4 := by
    rw [m9.2.2.2.2.1 3 (by decide), m8.2.2.2.2.1 3 (by decide), m7.2.2.2.2.1 3 (by decide), m6.2.2.2.2.1 3 (by decide), m5.2.2.2.2.1 3 (by decide)]
    exact m4.2.2.2.1
  have r4 : q_R S9 12 4 x = some l5 := by
    rw [m9.2.2.2.2.1 4 (by decide), m8.2.2.2.2.1 4 (by decide), m7.2.2.2.2.1 4 (by decide), m6.2.2.2.2.1 4 (by decide)]
    exact m5.2.2.2.1
  have r5 : q_R S9 12 5 x = some l6 := by
    rw [m9.2.2.2.2.1 5 (by decide), m8.2.2.2.2.1 5 (by decide), m7.2.2.2.2.1 5 (by decide)]
    exact m6.2.2.2.1
  have r6 : q_R S9 12 6 x = some l7 := by
    rw [m9.2.2.2.2.1 6 (by decide), m8.2.2.2.2.1 6 (by decide)]
    exact m7.2.2.2.1
  have r7 : q_R S9 12 7 x = some l8 := by
    rw [m9.2.2.2.2.1 7 (by decide)]
    exact m8.2.2.2.1
  have r8 : q_R S9 12 8 x = some l9 := m9.2.2.2.1
  have sF9 : ∀ b, b ∈ q_L S9 → b ≠ x → sameAt S9 (s_I (s_I (s_I S9 12 9 x 0) 12 10 x 0) 12 11 x (-1)) b := fun b hb hn => by
    simp -implicitDefEqProofs [sameAt, z_q_L_s_I, z_q_K_s_I, z_q_I_s_I, z_q_J_s_I, z_q_R_s_I, z_q_n_s_I, z_q_aI_s_I, z_q_aJ_s_I, z_q_aR_s_I, z_q_L_s_J, z_q_K_s_J, z_q_I_s_J, z_q_J_s_J, z_q_R_s_J, z_q_n_s_J, z_q_aI_s_J, z_q_aJ_s_J, z_q_aR_s_J, z_q_L_s_R, z_q_K_s_R, z_q_I_s_R, z_q_J_s_R, z_q_R_s_R, z_q_n_s_R, z_q_aI_s_R, z_q_aJ_s_R, z_q_aR_s_R, z_q_L_s_aI, z_q_K_s_aI, z_q_I_s_aI, z_q_J_s_aI, z_q_R_s_aI, z_q_n_s_aI, z_q_aI_s_aI, z_q_aJ_s_aI, z_q_aR_s_aI, z_q_L_s_aJ, z_q_K_s_aJ, z_q_I_s_aJ, z_q_J_s_aJ, z_q_R_s_aJ, z_q_n_s_aJ, z_q_aI_s_aJ, z_q_aJ_s_aJ, z_q_aR_s_aJ, z_q_L_s_aR, z_q_K_s_aR, z_q_I_s_aR, z_q_J_s_aR, z_q_R_s_aR, z_q_n_s_aR, z_q_aI_s_aR, z_q_aJ_s_aR, z_q_aR_s_aR, z_q_L_s_new, z_q_K_s_new, z_q_I_s_new, z_q_J_s_new, z_q_R_s_new, z_q_n_s_new, z_q_aI_s_new, z_q_aJ_s_new, z_q_aR_s_new, z_q_L_s_arr, z_q_K_s_arr, z_q_I_s_arr, z_q_J_s_arr, z_q_R_s_arr, z_q_n_s_arr, z_q_aI_s_arr, z_q_aJ_s_arr, z_q_aR_s_arr, hb, hn]
  have hF : q_I (s_I (s_I (s_I S9 12 9 x 0) 12 10 x 0) 12 11 x (-1)) 12 9 x = 0 ∧ q_I (s_I (s_I (s_I S9 12 9 x 0) 12 10 x 0) 12 11 x (-1)) 12 10 x = 0 ∧ q_I (s_I (s_I (s_I S9 12 9 x 0) 12 10 x 0) 12 11 x (-1)) 12 11 x = -1 ∧ q_K (s_I (s_I (s_I S9 12 9 x 0) 12 10 x 0) 12 11 x (-1)) x = 12 ∧ x ∈ q_L (s_I (s_I (s_I S9 12 9 x 0) 12 10 x 0) 12 11 x (-1)) ∧ ∀ k, q_R (s_I (s_I (s_I S9 12 9 x 0) 12 10 x 0) 12 11 x (-1)) 12 k x = q_R S9 12 k x := by
    refine ⟨?_, ?_, ?_, m9.2.2.1, hx9, fun k => rfl⟩ <;> simp -implicitDefEqProofs [z_q_L_s_I, z_q_K_s_I, z_q_I_s_I, z_q_J_s_I, z_q_R_s_I, z_q_n_s_I, z_q_aI_s_I, z_q_aJ_s_I, z_q_aR_s_I, z_q_L_s_J, z_q_K_s_J, z_q_I_s_J, z_q_J_s_J, z_q_R_s_J, z_q_n_s_J, z_q_aI_s_J, z_q_aJ_s_J, z_q_aR_s_J, z_q_L_s_R, z_q_K_s_R, z_q_I_s_R, z_q_J_s_R, z_q_R_s_R, z_q_n_s_R, z_q_aI_s_R, z_q_aJ_s_R, z_q_aR_s_R, z_q_L_s_aI, z_q_K_s_aI, z_q_I_s_aI, z_q_J_s_aI, z_q_R_s_aI, z_q_n_s_aI, z_q_aI_s_aI, z_q_aJ_s_aI, z_q_aR_s_aI, z_q_L_s_aJ, z_q_K_s_aJ, z_q_I_s_aJ, z_q_J_s_aJ, z_q_R_s_aJ, z_q_n_s_aJ, z_q_aI_s_aJ, z_q_aJ_s_aJ, z_q_aR_s_aJ, z_q_L_s_aR, z_q_K_s_aR, z_q_I_s_aR, z_q_J_s_aR, z_q_R_s_aR, z_q_n_s_aR, z_q_aI_s_aR, z_q_aJ_s_aR, z_q_aR_s_aR, z_q_L_s_new, z_q_K_s_new, z_q_I_s_new, z_q_J_s_new, z_q_R_s_new, z_q_n_s_new, z_q_aI_s_new, z_q_aJ_s_new, z_q_aR_s_new, z_q_L_s_arr, z_q_K_s_arr, z_q_I_s_arr, z_q_J_s_arr, z_q_R_s_arr, z_q_n_s_arr, z_q_aI_s_arr, z_q_aJ_s_arr, z_q_aR_s_arr]
  generalize s_I (s_I (s_I S9 12 9 x 0) 12 10 x 0) 12 11 x (-1) = S' at sF9 hF ⊢
  obtain ⟨d1, d2, d3, d4, d5, d6⟩ := hF
  have sF8 : ∀ b, b ∈ q_L S8 → b ≠ x → sameAt S8 S' b := fun b hb hn => (m9.2.1 b hb hn).trans (sF9 b (m9.1 b hb) hn)
  have sF7 : ∀ b, b ∈ q_L S7 → b ≠ x → sameAt S7 S' b := fun b hb hn => (m8.2.1 b hb hn).trans (sF8 b (m8.1 b hb) hn)
  have sF6 : ∀ b, b ∈ q_L S6 → b ≠ x → sameAt S6 S' b := fun b hb hn => (m7.2.1 b hb hn).trans (sF7 b (m7.1 b hb) hn)
  have sF5 : ∀ b, b ∈ q_L S5 → b ≠ x → sameAt S5 S' b := fun b hb hn => (m6.2.1 b hb hn).trans (sF6 b (m6.1 b hb) hn)
  have sF4 : ∀ b, b ∈ q_L S4 → b ≠ x → sameAt S4 S' b := fun b hb hn => (m5.2.1 b hb hn).trans (sF5 b (m5.1 b hb) hn)
  have sF3 : ∀ b, b ∈ q_L S3 → b ≠ x → sameAt S3 S' b := fun b hb hn => (m4.2.1 b hb hn).trans (sF4 b (m4.1 b hb) hn)
  have sF2 : ∀ b, b ∈ q_L S2 → b ≠ x → sameAt S2 S' b := fun b hb hn => (m3.2.1 b hb hn).trans (sF3 b (m3.1 b hb) hn)
  have sF1 : ∀ b, b ∈ q_L S1 → b ≠ x → sameAt S1 S' b := fun b hb hn => (m2.2.1 b hb hn).trans (sF2 b (m2.1 b hb) hn)
  have sF0 : ∀ b, b ∈ q_L S → b ≠ x → sameAt S S' b := fun b hb hn => (m1.2.1 b hb hn).trans (sF1 b (m1.1 b hb) hn)
  have hG : gr S S' := fun b hb => by
    by_cases hn : b = x
    · rw [hn]; exact d5
    · exact (sF0 b hb hn).1
  obtain ⟨ρ1, R0, e1, e2, e3⟩ : ∃ ρ1 : Nat → Nat, rx ρ ρ1 S ∧ ρ1 a = 2 ∧ ρ1 qt = 17 ∧ ρ1 qs = 18 := by
    refine ⟨fun b => if b ∈ q_L S then ρ b else if b = a then 2 else if b = qt then 17 else 18, fun b hb => if_pos hb, ?_, ?_, ?_⟩
    · simp [m1.2.2.2.2.2.2]
    · simp [t6.2.1, t9]
    · simp [t7.2.1, t10, t11]
  obtain ⟨ρ2, R1, e4, e5, e6⟩ : ∃ ρ2 : Nat → Nat, rx ρ1 ρ2 S1 ∧ ρ2 a2 = 3 ∧ ρ2 q = 19 ∧ ρ2 q2 = 20 := by
    refine ⟨fun b => if b ∈ q_L S1 then ρ1 b else if b = a2 then 3 else if b = q then 19 else 20, fun b hb => if_pos hb, ?_, ?_, ?_⟩
    · simp [m2.2.2.2.2.2.2]
    · simp [k2, k4]
    · simp [k3, k5, Ne.symm k1.2.2.2.2]
  obtain ⟨ρ3, R2, e7, e8⟩ : ∃ ρ3 : Nat → Nat, rx ρ2 ρ3 S2 ∧ ρ3 a3 = 4 ∧ ∀ p, p ∈ [p2, p3, p4, p5, p6] → ρ3 p = 21 := by
    refine ⟨fun b => if b ∈ q_L S2 then ρ2 b else if b = a3 then 4 else 21, fun b hb => if_pos hb, ?_, fun p hp => ?_⟩
    · simp [m3.2.2.2.2.2.2]
    · simp [j2 p hp]
  obtain ⟨ρ4, R3, f4⟩ : ∃ ρ4 : Nat → Nat, rx ρ3 ρ4 S3 ∧ ρ4 l4 = 5 := ⟨rnew ρ3 S3 5, rx_new _ _ _, rnew_n m4.2.2.2.2.2.2⟩
  obtain ⟨ρ5, R4, f5⟩ : ∃ ρ5 : Nat → Nat, rx ρ4 ρ5 S4 ∧ ρ5 l5 = 6 := ⟨rnew ρ4 S4 6, rx_new _ _ _, rnew_n m5.2.2.2.2.2.2⟩
  obtain ⟨ρ6, R5, f6⟩ : ∃ ρ6 : Nat → Nat, rx ρ5 ρ6 S5 ∧ ρ6 l6 = 7 := ⟨rnew ρ5 S5 7, rx_new _ _ _, rnew_n m6.2.2.2.2.2.2⟩
  obtain ⟨ρ7, R6, f7⟩ : ∃ ρ7 : Nat → Nat, rx ρ6 ρ7 S6 ∧ ρ7 l7 = 8 := ⟨rnew ρ6 S6 8, rx_new _ _ _, rnew_n m7.2.2.2.2.2.2⟩
  obtain ⟨ρ8, R7, f8⟩ : ∃ ρ8 : Nat → Nat, rx ρ7 ρ8 S7 ∧ ρ8 l8 = 9 := ⟨rnew ρ7 S7 9, rx_new _ _ _, rnew_n m8.2.2.2.2.2.2⟩
  obtain ⟨ρ9, R8, f9⟩ : ∃ ρ9 : Nat → Nat, rx ρ8 ρ9 S8 ∧ ρ9 l9 = 10 := ⟨rnew ρ8 S8 10, rx_new _ _ _, rnew_n m9.2.2.2.2.2.2⟩
  have Q9 : rx ρ9 ρ9 S9 := fun _ _ => rfl
  have Q8 : rx ρ8 ρ9 S8 := fun b hb => (Q9 b (m9.1 b hb)).trans (R8 b hb)
  have Q7 : rx ρ7 ρ9 S7 := fun b hb => (Q8 b (m8.1 b hb)).trans (R7 b hb)
  have Q6 : rx ρ6 ρ9 S6 := fun b hb => (Q7 b (m7.1 b hb)).trans (R6 b hb)
  have Q5 : rx ρ5 ρ9 S5 := fun b hb => (Q6 b (m6.1 b hb)).trans (R5 b hb)
  have Q4 : rx ρ4 ρ9 S4 := fun b hb => (Q5 b (m5.1 b hb)).trans (R4 b hb)
  have Q3 : rx ρ3 ρ9 S3 := fun b hb => (Q4 b (m4.1 b hb)).trans (R3 b hb)
  have Q2 : rx ρ2 ρ9 S2 := fun b hb => (Q3 b (m3.1 b hb)).trans (R2 b hb)
  have Q1 : rx ρ1 ρ9 S1 := fun b hb => (Q2 b (m2.1 b hb)).trans (R1 b hb)
  have Q0 : rx ρ ρ9 S := fun b hb => (Q1 b (m1.1 b hb)).trans (R0 b hb)
  have nx : ∀ {S0 : tk_S} {b : Nat}, x ∈ q_L S0 → b ∉ q_L S0 → b ≠ x := fun h1 h2 z => h2 (z ▸ h1)
  have sa := sF1 a m1.2.2.2.2.2.1 (nx hx m1.2.2.2.2.2.2)
  have sqt := sF1 qt t6.1 (nx hx t6.2.1)
  have sqs := sF1 qs t7.1 (nx hx t7.2.1)
  have hx1 := m1.1 x hx
  have sk := sF2 a2 k1.1 (nx hx1 m2.2.2.2.2.2.2)
  have sq := sF2 q k1.2.2.1.2.1 (nx hx1 k2)
  have sq2 := sF2 q2 k1.2.2.2.1.2.1 (nx hx1 k3)
  have hT : cT ρ9 S' x 0 (fun _ => 0) (-1) := ⟨a, qt, qs, (d6 0).trans r0, ⟨sa.1, sa.2.1.trans t1, (Q1 a m1.2.2.2.2.2.1).trans e1⟩, ⟨(sa.2.2.2.2.1 _ _).trans t2, sqt.1, sqt.2.1.trans t6.2.2.1, sqt.2.2.2.2.2.1.trans t6.2.2.2, (Q1 qt t6.1).trans e2⟩, ⟨(sa.2.2.2.2.1 _ _).trans t5, sqs.1, sqs.2.1.trans t7.2.2.1, sqs.2.2.2.2.2.1.trans t7.2.2.2, (Q1 qs t7.1).trans e3⟩, (sa.2.2.1 _ _).trans (t3.trans rfl), by omega, (sa.2.2.1 _ _).trans t4, sqt.2.2.2.2.2.2.1.trans (funext t8)⟩
  obtain ⟨-, kk, ⟨o1, o2, o3, o4⟩, ⟨o5, o6, o7, o8⟩, o9⟩ := k1
  have hK : cK ρ9 S' x := ⟨a2, q, q2, (d6 1).trans r1, ⟨sk.1, sk.2.1.trans kk, ⟨(sk.2.2.2.2.1 _ _).trans o1, sq.1, sq.2.1.trans o3, sq.2.2.2.2.2.1.trans o4⟩, ⟨(sk.2.2.2.2.1 _ _).trans o5, sq2.1, sq2.2.1.trans o7, sq2.2.2.2.2.2.1.trans o8⟩, o9⟩, (Q2 a2 m2.2.2.2.2.2.1).trans e4, (Q2 q o2).trans e5, (Q2 q2 o6).trans e6⟩
  have hB0 := j1 (fun _ => 0) (fun _ => 0) (fun _ => 0) (fun _ => 0) (fun _ => 0)
  obtain ⟨⟨w0, -, ⟨-, w2, -⟩, ⟨-, w3, -⟩, ⟨-, w4, -⟩, ⟨-, w5, -⟩, ⟨-, w6, -⟩, -⟩, -⟩ := id hB0
  have sp : ∀ p, p ∈ [p2, p3, p4, p5, p6] → p ∈ q_L S3 → sameAt S3 S' p := fun p hp hL => sF3 p hL (nx hx2 (j2 p hp).1)
  have hJ : cJ' ρ9 S' x (0, 0, fun _ => 0, fun _ => 0, fun _ => 0, fun _ => 0, fun _ => 0) := ⟨a3, p2, p3, p4, p5, p6, (d6 2).trans r2, (Q3 a3 w0).trans e7, hB0.same (sF3 a3 w0 (nx hx2 m3.2.2.2.2.2.2)) (sp _ (by simp) w2) (sp _ (by simp) w3) (sp _ (by simp) w4) (sp _ (by simp) w5) (sp _ (by simp) w6), Nat.zero_le _, (Q3 p2 w2).trans (e8 _ (by simp)), (Q3 p3 w3).trans (e8 _ (by simp)), (Q3 p4 w4).trans (e8 _ (by simp)), (Q3 p5 w5).trans (e8 _ (by simp)), (Q3 p6 w6).trans (e8 _ (by simp))⟩
  have inj0 : ∀ f : Nat → Nat, inj f 0 := fun f i j hi => absurd hi (Nat.not_lt_zero i)
  have s4 := sF4 l4 m4.2.2.2.2.2.1 (nx hx3 m4.2.2.2.2.2.2)
  have g4 := (Q4 l4 m4.2.2.2.2.2.1).trans f4
  have s5 := sF5 l5 m5.2.2.2.2.2.1 (nx hx4 m5.2.2.2.2.2.2)
  have g5 := (Q5 l5 m5.2.2.2.2.2.1).trans f5
  have s6 := sF6 l6 m6.2.2.2.2.2.1 (nx hx5 m6.2.2.2.2.2.2)
  have g6 := (Q6 l6 m6.2.2.2.2.2.1).trans f6
  have s7 := sF7 l7 m7.2.2.2.2.2.1 (nx hx6 m7.2.2.2.2.2.2)
  have g7 := (Q7 l7 m7.2.2.2.2.2.1).trans f7
  have s8 := sF8 l8 m8.2.2.2.2.2.1 (nx hx7 m8.2.2.2.2.2.2)
  have g8 := (Q8 l8 m8.2.2.2.2.2.1).trans f8
  have s9 := sF9 l9 m9.2.2.2.2.2.1 (nx hx8 m9.2.2.2.2.2.2)
  have g9 := (Q9 l9 m9.2.2.2.2.2.1).trans f9
  have n0 : ∀ {P : Nat → Prop} (i : Nat), i < 0 → P i := fun i hi => absurd hi (Nat.not_lt_zero i)
  refine ⟨by omega, by omega, H S' ρ9 (fun _ => 0, fun _ => 0, fun _ => 0, fun _ => 0, fun _ => 0, fun _ => 0, fun _ => 0, fun _ => 0) hG Q0 sF0 ⟨⟨d5, d4, (Q0 x hx).trans hρ, d1.trans rfl, by omega, d2.trans rfl, d3⟩, hT, hK, ?_, ?_, ?_, ?_, ?_, ?_, hJ⟩⟩
  · exact ⟨l4, _, fun _ => 0, (d6 3).trans r3, (i4 1 _ (by decide)).lr hZ4 s4 g4, Nat.zero_le _, fun i A hi => by simp at hi⟩
  · exact ⟨l5, _, (d6 4).trans r4, (i5 10 _ (by decide)).lr hZ5 s5 g5, inj0 _, Nat.zero_le _, n0⟩
  · exact ⟨l6, _, (d6 5).trans r5, (i6 6 _ (by decide)).lr hZ6 s6 g6, inj0 _, inj0 _, Nat.zero_le _, n0⟩
  · exact ⟨l7, _, (d6 6).trans r6, (i7 11 _ (by decide)).lr hZ7 s7 g7, inj0 _, inj0 _, inj0 _, Nat.zero_le _, n0⟩
  · exact ⟨l8, _, (d6 7).trans r7, (i8 5 _ (by decide)).lr hZ8 s8 g8, inj0 _, Nat.zero_le _, n0⟩
  · exact ⟨l9, _, (d6 8).trans r8, (i9 7 _ (by decide)).lr hZ9 s9 g9, inj0 _, Nat.zero_le _, n0⟩
end PUB13

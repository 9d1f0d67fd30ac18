/-! THE LAW'S WRAPPERS -/
section WRAPS
variable {Z : tk_Z} {d mc ms c : Nat} {S : tk_S} {QR : tk_R} {ρ : Nat → Nat} {x r : Nat} {gh : gH} {M : Mt}
theorem w_off6 {w : Int32} (h : w ≠ 0 ∧ w ≠ 1 ∧ w ≠ 2 ∧ w ≠ 3 ∧ w ≠ 4 ∧ w ≠ 5 ∧ w ≠ 6) : ¬ (0 ≤ w ∧ w ≤ 6) := fun z => by
  obtain ⟨j, hj, rfl⟩ := nI_of2 (M := 6) (n := 6) rfl (Int32.not_lt.mpr z.1) z.2
  obtain ⟨a0, a1, a2, a3, a4, a5, a6⟩ := h
  have : j = 0 ∨ j = 1 ∨ j = 2 ∨ j = 3 ∨ j = 4 ∨ j = 5 ∨ j = 6 := by omega
  rcases this with rfl | rfl | rfl | rfl | rfl | rfl | rfl
  · exact a0 rfl
  · exact a1 rfl
  · exact a2 rfl
  · exact a3 rfl
  · exact a4 rfl
  · exact a5 rfl
  · exact a6 rfl
theorem w_off3 {w : Int32} (h : w ≠ 0 ∧ w ≠ 1 ∧ w ≠ 2 ∧ w ≠ 3) : ¬ (0 ≤ w ∧ w ≤ 3) := fun z => by
  obtain ⟨j, hj, rfl⟩ := nI_of2 (M := 3) (n := 3) rfl (Int32.not_lt.mpr z.1) z.2
  obtain ⟨a0, a1, a2, a3⟩ := h
  have : j = 0 ∨ j = 1 ∨ j = 2 ∨ j = 3 := by omega
  rcases this with rfl | rfl | rfl | rfl
  · exact a0 rfl
  · exact a1 rfl
  · exact a2 rfl
  · exact a3 rfl
set_option maxHeartbeats 2000000 in
theorem w_act {n0 day : Int32} (hst : Z.1.stackTraces = false) (hd : 60 ≤ d) (hZ : Z.2.2.2.2.2.1 ∉ q_L S) (hC : CI Z ρ S x gh M) (hO : oR ρ S r 100) (hIV : IV c M) (hJV : JV M) (hc : c ≤ 511) (hmc : 170 + 5 * (lvl (jnM (o_act M n0 day).2.2) - lvl (jnM M)) ≤ mc) (hms : 6060 + 60000 * (lvl (jnM (o_act M n0 day).2.2) - lvl (jnM M)) ≤ ms)
    (H : okW Z ρ S x r QR (o_act M n0 day)) : tk_MW Z mL_act hL_act d mc ms [.ref x, .int n0, .int day, .ref r] S QR := by
  refine M_L_act (Nat.le_of_ble_eq_true rfl) (fun E hE => hE _ _ _ _ _ ?_)
  show t_L_act_0 Z d mc ms QR E [some (.ref x), some (.int n0), some (.int day), some (.ref r), none] [] S 0 0
  have hx := hC.1.1
  have hk := hC.1.2.1
  simp -implicitDefEqProofs [t_L_act_0, i_aload, i_iload, i_lload, i_istore, i_lstore, i_astore, i_iinc, i_push, i_getI, i_getJ, i_getR, i_putI, i_putJ, i_putR, i_iadd, i_isub, i_imul, i_iand, i_ior, i_ixor, i_ishl, i_ishr, i_iushr, i_idiv, i_irem, i_ladd, i_lsub, i_lmul, i_land, i_lor, i_lxor, i_ldiv, i_lrem, i_lshl, i_lshr, i_lcmp, i_ineg, i_lneg, i_i2l, i_l2i, i_i2b, i_i2c, i_dup, i_pop, i_dup_x1, i_dup2, i_icmp_eq, i_icmp_lt, i_icmp_ge, i_icmp_gt, i_icmp_le, i_if_eq, i_if_lt, i_if_ge, i_if_gt, i_if_le, i_goto, i_ifnull, i_iald, i_bald, i_zald, i_lald, i_aald, i_iast, i_bast, i_zast, i_last, i_alen, i_iret, i_lret, i_aret, i_vret, i_oinit, i_cast, i_tsw, i_cases, i_mmin, i_mmax, i_lmin, i_throw, nb0, nb1, nint, nby0, rf_s, rf_n, of_r, of_n, tk_orf_rf, tk_c2, tk_ls, Value.category, tk_isR_ref, tk_isR_rf, tk_isR_null]
  refine ⟨by simp, hx, hk, by simp [Value.category], d - 1, mc, ms, by omega, by omega, by omega, tk_M.out (c_act hst (by omega) hZ hC (by omega) (by omega) (fun h1 => ?_) (fun h1 h2 => ?_) (fun n hn hn0 hday hlen => ?_))⟩
  · exact thr0 (fun q => by
      simp -implicitDefEqProofs [i_aload, i_iload, i_lload, i_istore, i_lstore, i_astore, i_iinc, i_push, i_getI, i_getJ, i_getR, i_putI, i_putJ, i_putR, i_iadd, i_isub, i_imul, i_iand, i_ior, i_ixor, i_ishl, i_ishr, i_iushr, i_idiv, i_irem, i_ladd, i_lsub, i_lmul, i_land, i_lor, i_lxor, i_ldiv, i_lrem, i_lshl, i_lshr, i_lcmp, i_ineg, i_lneg, i_i2l, i_l2i, i_i2b, i_i2c, i_dup, i_pop, i_dup_x1, i_dup2, i_icmp_eq, i_icmp_lt, i_icmp_ge, i_icmp_gt, i_icmp_le, i_if_eq, i_if_lt, i_if_ge, i_if_gt, i_if_le, i_goto, i_ifnull, i_iald, i_bald, i_zald, i_lald, i_aald, i_iast, i_bast, i_zast, i_last, i_alen, i_iret, i_lret, i_aret, i_vret, i_oinit, i_cast, i_tsw, i_cases, i_mmin, i_mmax, i_lmin, i_throw, nb0, nb1, nint, nby0, rf_s, rf_n, of_r, of_n, tk_orf_rf, tk_c2, tk_ls, Value.category, tk_isR_ref, tk_isR_rf, tk_isR_null]
      exact okW.thr (by have h := H; unfold o_act at h; rw [if_pos h1] at h; exact h) (by decide) hC hO hZ)
  · exact thr1 (fun q => by
      simp -implicitDefEqProofs [i_aload, i_iload, i_lload, i_istore, i_lstore, i_astore, i_iinc, i_push, i_getI, i_getJ, i_getR, i_putI, i_putJ, i_putR, i_iadd, i_isub, i_imul, i_iand, i_ior, i_ixor, i_ishl, i_ishr, i_iushr, i_idiv, i_irem, i_ladd, i_lsub, i_lmul, i_land, i_lor, i_lxor, i_ldiv, i_lrem, i_lshl, i_lshr, i_lcmp, i_ineg, i_lneg, i_i2l, i_l2i, i_i2b, i_i2c, i_dup, i_pop, i_dup_x1, i_dup2, i_icmp_eq, i_icmp_lt, i_icmp_ge, i_icmp_gt, i_icmp_le, i_if_eq, i_if_lt, i_if_ge, i_if_gt, i_if_le, i_goto, i_ifnull, i_iald, i_bald, i_zald, i_lald, i_aald, i_iast, i_bast, i_zast, i_last, i_alen, i_iret, i_lret, i_aret, i_vret, i_oinit, i_cast, i_tsw, i_cases, i_mmin, i_mmax, i_lmin, i_throw, nb0, nb1, nint, nby0, rf_s, rf_n, of_r, of_n, tk_orf_rf, tk_c2, tk_ls, Value.category, tk_isR_ref, tk_isR_rf, tk_isR_null]
      exact okW.thr (by have h := H; unfold o_act at h; rw [if_neg (fun z => z h1), if_pos h2] at h; exact h) (by decide) hC hO hZ)
  · subst hn0
    have b1 := hC.bd.tn
    have h1 : (0 ≤ nI n ∧ nI n ≤ nI M.1.1) ∧ (0 ≤ day ∧ day ≤ 9999) := ⟨⟨nI_pos' (by omega), nI_le hn (by omega)⟩, hday⟩
    have H2 : okW Z ρ S x r QR (match pActs M.1.2.1 n 2000 0 (tkStart M.1.2.1 n 0) with
  | .inl ps => (0, (nI M.2.1.length).toInt64, ((0, M.1.2.1, -1), M.2.1 ++ [(day, ps)], M.2.2))
  | .inr (kd, pl, _) => (0, (kd - 10).toInt64, ((0, M.1.2.1, nI pl), M.2))) := by
      have h := H
      unfold o_act at h
      rw [if_neg (fun z => z h1), if_neg (Nat.not_le.mpr hlen), nI_clamp (by omega)] at h
      exact h
    rcases hq : pActs M.1.2.1 n 2000 0 (tkStart M.1.2.1 n 0) with ps | ⟨kd, pl, jj⟩
    · rw [hq] at H2
      intro S' ρ' gh' hF hC' hZ'
      have F := hO.fo hF
      simp -implicitDefEqProofs [i_aload, i_iload, i_lload, i_istore, i_lstore, i_astore, i_iinc, i_push, i_getI, i_getJ, i_getR, i_putI, i_putJ, i_putR, i_iadd, i_isub, i_imul, i_iand, i_ior, i_ixor, i_ishl, i_ishr, i_iushr, i_idiv, i_irem, i_ladd, i_lsub, i_lmul, i_land, i_lor, i_lxor, i_ldiv, i_lrem, i_lshl, i_lshr, i_lcmp, i_ineg, i_lneg, i_i2l, i_l2i, i_i2b, i_i2c, i_dup, i_pop, i_dup_x1, i_dup2, i_icmp_eq, i_icmp_lt, i_icmp_ge, i_icmp_gt, i_icmp_le, i_if_eq, i_if_lt, i_if_ge, i_if_gt, i_if_le, i_goto, i_ifnull, i_iald, i_bald, i_zald, i_lald, i_aald, i_iast, i_bast, i_zast, i_last, i_alen, i_iret, i_lret, i_aret, i_vret, i_oinit, i_cast, i_tsw, i_cases, i_mmin, i_mmax, i_lmin, i_throw, nb0, nb1, nint, nby0, rf_s, rf_n, of_r, of_n, tk_orf_rf, tk_c2, tk_ls, Value.category, tk_isR_ref, tk_isR_rf, tk_isR_null, F.1, F.2.1, F.2.2, in01, c00]
      exact okW.val H2 hO hZ' hF hC'
    · rw [hq] at H2
      intro S' ρ' gh' hF hC' hZ'
      have F := hO.fo hF
      simp -implicitDefEqProofs [i_aload, i_iload, i_lload, i_istore, i_lstore, i_astore, i_iinc, i_push, i_getI, i_getJ, i_getR, i_putI, i_putJ, i_putR, i_iadd, i_isub, i_imul, i_iand, i_ior, i_ixor, i_ishl, i_ishr, i_iushr, i_idiv, i_irem, i_ladd, i_lsub, i_lmul, i_land, i_lor, i_lxor, i_ldiv, i_lrem, i_lshl, i_lshr, i_lcmp, i_ineg, i_lneg, i_i2l, i_l2i, i_i2b, i_i2c, i_dup, i_pop, i_dup_x1, i_dup2, i_icmp_eq, i_icmp_lt, i_icmp_ge, i_icmp_gt, i_icmp_le, i_if_eq, i_if_lt, i_if_ge, i_if_gt, i_if_le, i_goto, i_ifnull, i_iald, i_bald, i_zald, i_lald, i_aald, i_iast, i_bast, i_zast, i_last, i_alen, i_iret, i_lret, i_aret, i_vret, i_oinit, i_cast, i_tsw, i_cases, i_mmin, i_mmax, i_lmin, i_throw, nb0, nb1, nint, nby0, rf_s, rf_n, of_r, of_n, tk_orf_rf, tk_c2, tk_ls, Value.category, tk_isR_ref, tk_isR_rf, tk_isR_null, F.1, F.2.1, F.2.2, in01, c00]
      exact okW.val H2 hO hZ' hF hC'
set_option maxHeartbeats 2000000 in
theorem w_stretch {i : Int32} (hst : Z.1.stackTraces = false) (hd : 60 ≤ d) (hZ : Z.2.2.2.2.2.1 ∉ q_L S) (hC : CI Z ρ S x gh M) (hO : oR ρ S r 100) (hIV : IV c M) (hJV : JV M) (hc : c ≤ 511) (hmc : 170 + 5 * (lvl (jnM (o_stretch M i).2.2) - lvl (jnM M)) ≤ mc) (hms : 6060 + 60000 * (lvl (jnM (o_stretch M i).2.2) - lvl (jnM M)) ≤ ms)
    (H : okW Z ρ S x r QR (o_stretch M i)) : tk_MW Z mL_stretch hL_stretch d mc ms [.ref x, .int i, .ref r] S QR := by
  refine M_L_stretch (Nat.le_of_ble_eq_true rfl) (fun E hE => hE _ _ _ _ _ ?_)
  show t_L_stretch_0 Z d mc ms QR E [some (.ref x), some (.int i), some (.ref r), none] [] S 0 0
  have hx := hC.1.1
  have hk := hC.1.2.1
  simp -implicitDefEqProofs [t_L_stretch_0, i_aload, i_iload, i_lload, i_istore, i_lstore, i_astore, i_iinc, i_push, i_getI, i_getJ, i_getR, i_putI, i_putJ, i_putR, i_iadd, i_isub, i_imul, i_iand, i_ior, i_ixor, i_ishl, i_ishr, i_iushr, i_idiv, i_irem, i_ladd, i_lsub, i_lmul, i_land, i_lor, i_lxor, i_ldiv, i_lrem, i_lshl, i_lshr, i_lcmp, i_ineg, i_lneg, i_i2l, i_l2i, i_i2b, i_i2c, i_dup, i_pop, i_dup_x1, i_dup2, i_icmp_eq, i_icmp_lt, i_icmp_ge, i_icmp_gt, i_icmp_le, i_if_eq, i_if_lt, i_if_ge, i_if_gt, i_if_le, i_goto, i_ifnull, i_iald, i_bald, i_zald, i_lald, i_aald, i_iast, i_bast, i_zast, i_last, i_alen, i_iret, i_lret, i_aret, i_vret, i_oinit, i_cast, i_tsw, i_cases, i_mmin, i_mmax, i_lmin, i_throw, nb0, nb1, nint, nby0, rf_s, rf_n, of_r, of_n, tk_orf_rf, tk_c2, tk_ls, Value.category, tk_isR_ref, tk_isR_rf, tk_isR_null]
  refine ⟨by simp, hx, hk, by simp [Value.category], d - 1, mc, ms, by omega, by omega, by omega, tk_M.out (c_stretch hst (by omega) hZ hC hIV.wo0 (by omega) (by omega) (fun h1 => ?_) (fun h1 h2 => ?_) (fun h1 h2 => ?_))⟩
  · exact thr0 (fun q => by
      simp -implicitDefEqProofs [i_aload, i_iload, i_lload, i_istore, i_lstore, i_astore, i_iinc, i_push, i_getI, i_getJ, i_getR, i_putI, i_putJ, i_putR, i_iadd, i_isub, i_imul, i_iand, i_ior, i_ixor, i_ishl, i_ishr, i_iushr, i_idiv, i_irem, i_ladd, i_lsub, i_lmul, i_land, i_lor, i_lxor, i_ldiv, i_lrem, i_lshl, i_lshr, i_lcmp, i_ineg, i_lneg, i_i2l, i_l2i, i_i2b, i_i2c, i_dup, i_pop, i_dup_x1, i_dup2, i_icmp_eq, i_icmp_lt, i_icmp_ge, i_icmp_gt, i_icmp_le, i_if_eq, i_if_lt, i_if_ge, i_if_gt, i_if_le, i_goto, i_ifnull, i_iald, i_bald, i_zald, i_lald, i_aald, i_iast, i_bast, i_zast, i_last, i_alen, i_iret, i_lret, i_aret, i_vret, i_oinit, i_cast, i_tsw, i_cases, i_mmin, i_mmax, i_lmin, i_throw, nb0, nb1, nint, nby0, rf_s, rf_n, of_r, of_n, tk_orf_rf, tk_c2, tk_ls, Value.category, tk_isR_ref, tk_isR_rf, tk_isR_null]
      exact okW.thr (by have h := H; unfold o_stretch at h; rw [if_pos h1] at h; exact h) (by decide) hC hO hZ)
  · exact thr1 (fun q => by
      simp -implicitDefEqProofs [i_aload, i_iload, i_lload, i_istore, i_lstore, i_astore, i_iinc, i_push, i_getI, i_getJ, i_getR, i_putI, i_putJ, i_putR, i_iadd, i_isub, i_imul, i_iand, i_ior, i_ixor, i_ishl, i_ishr, i_iushr, i_idiv, i_irem, i_ladd, i_lsub, i_lmul, i_land, i_lor, i_lxor, i_ldiv, i_lrem, i_lshl, i_lshr, i_lcmp, i_ineg, i_lneg, i_i2l, i_l2i, i_i2b, i_i2c, i_dup, i_pop, i_dup_x1, i_dup2, i_icmp_eq, i_icmp_lt, i_icmp_ge, i_icmp_gt, i_icmp_le, i_if_eq, i_if_lt, i_if_ge, i_if_gt, i_if_le, i_goto, i_ifnull, i_iald, i_bald, i_zald, i_lald, i_aald, i_iast, i_bast, i_zast, i_last, i_alen, i_iret, i_lret, i_aret, i_vret, i_oinit, i_cast, i_tsw, i_cases, i_mmin, i_mmax, i_lmin, i_throw, nb0, nb1, nint, nby0, rf_s, rf_n, of_r, of_n, tk_orf_rf, tk_c2, tk_ls, Value.category, tk_isR_ref, tk_isR_rf, tk_isR_null]
      exact okW.thr (by have h := H; unfold o_stretch at h; rw [if_neg (fun z => z h1), if_pos h2] at h; exact h) (by decide) hC hO hZ)
  · intro S' ρ' gh' hF hC' hZ'
    have F := hO.fo hF
    simp -implicitDefEqProofs [i_aload, i_iload, i_lload, i_istore, i_lstore, i_astore, i_iinc, i_push, i_getI, i_getJ, i_getR, i_putI, i_putJ, i_putR, i_iadd, i_isub, i_imul, i_iand, i_ior, i_ixor, i_ishl, i_ishr, i_iushr, i_idiv, i_irem, i_ladd, i_lsub, i_lmul, i_land, i_lor, i_lxor, i_ldiv, i_lrem, i_lshl, i_lshr, i_lcmp, i_ineg, i_lneg, i_i2l, i_l2i, i_i2b, i_i2c, i_dup, i_pop, i_dup_x1, i_dup2, i_icmp_eq, i_icmp_lt, i_icmp_ge, i_icmp_gt, i_icmp_le, i_if_eq, i_if_lt, i_if_ge, i_if_gt, i_if_le, i_goto, i_ifnull, i_iald, i_bald, i_zald, i_lald, i_aald, i_iast, i_bast, i_zast, i_last, i_alen, i_iret, i_lret, i_aret, i_vret, i_oinit, i_cast, i_tsw, i_cases, i_mmin, i_mmax, i_lmin, i_throw, nb0, nb1, nint, nby0, rf_s, rf_n, of_r, of_n, tk_orf_rf, tk_c2, tk_ls, Value.category, tk_isR_ref, tk_isR_rf, tk_isR_null, F.1, F.2.1, F.2.2, in01, c00]
    exact okW.val (by have h := H; unfold o_stretch at h; rw [if_neg (fun z => z h1), if_neg (Nat.not_le.mpr h2)] at h; exact h) hO hZ' hF hC'
set_option maxHeartbeats 2000000 in
theorem w_gate {i : Int32} (hst : Z.1.stackTraces = false) (hd : 60 ≤ d) (hZ : Z.2.2.2.2.2.1 ∉ q_L S) (hC : CI Z ρ S x gh M) (hO : oR ρ S r 100) (hIV : IV c M) (hJV : JV M) (hc : c ≤ 511) (hmc : 170 + 5 * (lvl (jnM (o_gate M i).2.2) - lvl (jnM M)) ≤ mc) (hms : 6060 + 60000 * (lvl (jnM (o_gate M i).2.2) - lvl (jnM M)) ≤ ms)
    (H : okW Z ρ S x r QR (o_gate M i)) : tk_MW Z mL_gate hL_gate d mc ms [.ref x, .int i, .ref r] S QR := by
  refine M_L_gate (Nat.le_of_ble_eq_true rfl) (fun E hE => hE _ _ _ _ _ ?_)
  show t_L_gate_0 Z d mc ms QR E [some (.ref x), some (.int i), some (.ref r), none] [] S 0 0
  have hx := hC.1.1
  have hk := hC.1.2.1
  simp -implicitDefEqProofs [t_L_gate_0, i_aload, i_iload, i_lload, i_istore, i_lstore, i_astore, i_iinc, i_push, i_getI, i_getJ, i_getR, i_putI, i_putJ, i_putR, i_iadd, i_isub, i_imul, i_iand, i_ior, i_ixor, i_ishl, i_ishr, i_iushr, i_idiv, i_irem, i_ladd, i_lsub, i_lmul, i_land, i_lor, i_lxor, i_ldiv, i_lrem, i_lshl, i_lshr, i_lcmp, i_ineg, i_lneg, i_i2l, i_l2i, i_i2b, i_i2c, i_dup, i_pop, i_dup_x1, i_dup2, i_icmp_eq, i_icmp_lt, i_icmp_ge, i_icmp_gt, i_icmp_le, i_if_eq, i_if_lt, i_if_ge, i_if_gt, i_if_le, i_goto, i_ifnull, i_iald, i_bald, i_zald, i_lald, i_aald, i_iast, i_bast, i_zast, i_last, i_alen, i_iret, i_lret, i_aret, i_vret, i_oinit, i_cast, i_tsw, i_cases, i_mmin, i_mmax, i_lmin, i_throw, nb0, nb1, nint, nby0, rf_s, rf_n, of_r, of_n, tk_orf_rf, tk_c2, tk_ls, Value.category, tk_isR_ref, tk_isR_rf, tk_isR_null]
  refine ⟨by simp, hx, hk, by simp [Value.category], d - 1, mc, ms, by omega, by omega, by omega, tk_M.out (c_gate hst (by omega) hZ hC hIV.g0.1 hIV.g0.2 (by omega) (by omega) (fun h1 => ?_) (fun h1 h2 => ?_) (fun j hj hi h2 => ?_))⟩
  · exact thr0 (fun q => by
      simp -implicitDefEqProofs [i_aload, i_iload, i_lload, i_istore, i_lstore, i_astore, i_iinc, i_push, i_getI, i_getJ, i_getR, i_putI, i_putJ, i_putR, i_iadd, i_isub, i_imul, i_iand, i_ior, i_ixor, i_ishl, i_ishr, i_iushr, i_idiv, i_irem, i_ladd, i_lsub, i_lmul, i_land, i_lor, i_lxor, i_ldiv, i_lrem, i_lshl, i_lshr, i_lcmp, i_ineg, i_lneg, i_i2l, i_l2i, i_i2b, i_i2c, i_dup, i_pop, i_dup_x1, i_dup2, i_icmp_eq, i_icmp_lt, i_icmp_ge, i_icmp_gt, i_icmp_le, i_if_eq, i_if_lt, i_if_ge, i_if_gt, i_if_le, i_goto, i_ifnull, i_iald, i_bald, i_zald, i_lald, i_aald, i_iast, i_bast, i_zast, i_last, i_alen, i_iret, i_lret, i_aret, i_vret, i_oinit, i_cast, i_tsw, i_cases, i_mmin, i_mmax, i_lmin, i_throw, nb0, nb1, nint, nby0, rf_s, rf_n, of_r, of_n, tk_orf_rf, tk_c2, tk_ls, Value.category, tk_isR_ref, tk_isR_rf, tk_isR_null]
      exact okW.thr (by have h := H; unfold o_gate at h; rw [if_pos h1] at h; exact h) (by decide) hC hO hZ)
  · exact thr1 (fun q => by
      simp -implicitDefEqProofs [i_aload, i_iload, i_lload, i_istore, i_lstore, i_astore, i_iinc, i_push, i_getI, i_getJ, i_getR, i_putI, i_putJ, i_putR, i_iadd, i_isub, i_imul, i_iand, i_ior, i_ixor, i_ishl, i_ishr, i_iushr, i_idiv, i_irem, i_ladd, i_lsub, i_lmul, i_land, i_lor, i_lxor, i_ldiv, i_lrem, i_lshl, i_lshr, i_lcmp, i_ineg, i_lneg, i_i2l, i_l2i, i_i2b, i_i2c, i_dup, i_pop, i_dup_x1, i_dup2, i_icmp_eq, i_icmp_lt, i_icmp_ge, i_icmp_gt, i_icmp_le, i_if_eq, i_if_lt, i_if_ge, i_if_gt, i_if_le, i_goto, i_ifnull, i_iald, i_bald, i_zald, i_lald, i_aald, i_iast, i_bast, i_zast, i_last, i_alen, i_iret, i_lret, i_aret, i_vret, i_oinit, i_cast, i_tsw, i_cases, i_mmin, i_mmax, i_lmin, i_throw, nb0, nb1, nint, nby0, rf_s, rf_n, of_r, of_n, tk_orf_rf, tk_c2, tk_ls, Value.category, tk_isR_ref, tk_isR_rf, tk_isR_null]
      exact okW.thr (by have h := H; unfold o_gate at h; rw [if_neg h1, if_pos h2] at h; exact h) (by decide) hC hO hZ)
  · subst hi
    have b1 := hC.bd.nS
    intro S' ρ' gh' hF hC' hZ'
    have F := hO.fo hF
    simp -implicitDefEqProofs [i_aload, i_iload, i_lload, i_istore, i_lstore, i_astore, i_iinc, i_push, i_getI, i_getJ, i_getR, i_putI, i_putJ, i_putR, i_iadd, i_isub, i_imul, i_iand, i_ior, i_ixor, i_ishl, i_ishr, i_iushr, i_idiv, i_irem, i_ladd, i_lsub, i_lmul, i_land, i_lor, i_lxor, i_ldiv, i_lrem, i_lshl, i_lshr, i_lcmp, i_ineg, i_lneg, i_i2l, i_l2i, i_i2b, i_i2c, i_dup, i_pop, i_dup_x1, i_dup2, i_icmp_eq, i_icmp_lt, i_icmp_ge, i_icmp_gt, i_icmp_le, i_if_eq, i_if_lt, i_if_ge, i_if_gt, i_if_le, i_goto, i_ifnull, i_iald, i_bald, i_zald, i_lald, i_aald, i_iast, i_bast, i_zast, i_last, i_alen, i_iret, i_lret, i_aret, i_vret, i_oinit, i_cast, i_tsw, i_cases, i_mmin, i_mmax, i_lmin, i_throw, nb0, nb1, nint, nby0, rf_s, rf_n, of_r, of_n, tk_orf_rf, tk_c2, tk_ls, Value.category, tk_isR_ref, tk_isR_rf, tk_isR_null, F.1, F.2.1, F.2.2, in01, c00]
    exact okW.val (by have h := H; unfold o_gate at h; rw [if_neg (fun z => z.elim (nI_pos (by omega)) (nI_ge hj (by omega))), if_neg (Nat.not_le.mpr h2), nI_clamp (by omega)] at h; exact h) hO hZ' hF hC'
set_option maxHeartbeats 2000000 in
theorem w_traveller {k0 w0 b0 t0 : Int32} (hst : Z.1.stackTraces = false) (hd : 60 ≤ d) (hZ : Z.2.2.2.2.2.1 ∉ q_L S) (hC : CI Z ρ S x gh M) (hO : oR ρ S r 100) (hIV : IV c M) (hJV : JV M) (hc : c ≤ 511) (hmc : 170 + 5 * (lvl (jnM (o_traveller M k0 w0 b0 t0).2.2) - lvl (jnM M)) ≤ mc) (hms : 6060 + 60000 * (lvl (jnM (o_traveller M k0 w0 b0 t0).2.2) - lvl (jnM M)) ≤ ms)
    (H : okW Z ρ S x r QR (o_traveller M k0 w0 b0 t0)) : tk_MW Z mL_traveller hL_traveller d mc ms [.ref x, .int k0, .int w0, .int b0, .int t0, .ref r] S QR := by
  refine M_L_traveller (Nat.le_of_ble_eq_true rfl) (fun E hE => hE _ _ _ _ _ ?_)
  show t_L_traveller_0 Z d mc ms QR E [some (.ref x), some (.int k0), some (.int w0), some (.int b0), some (.int t0), some (.ref r), none] [] S 0 0
  have hx := hC.1.1
  have hk := hC.1.2.1
  simp -implicitDefEqProofs [t_L_traveller_0, i_aload, i_iload, i_lload, i_istore, i_lstore, i_astore, i_iinc, i_push, i_getI, i_getJ, i_getR, i_putI, i_putJ, i_putR, i_iadd, i_isub, i_imul, i_iand, i_ior, i_ixor, i_ishl, i_ishr, i_iushr, i_idiv, i_irem, i_ladd, i_lsub, i_lmul, i_land, i_lor, i_lxor, i_ldiv, i_lrem, i_lshl, i_lshr, i_lcmp, i_ineg, i_lneg, i_i2l, i_l2i, i_i2b, i_i2c, i_dup, i_pop, i_dup_x1, i_dup2, i_icmp_eq, i_icmp_lt, i_icmp_ge, i_icmp_gt, i_icmp_le, i_if_eq, i_if_lt, i_if_ge, i_if_gt, i_if_le, i_goto, i_ifnull, i_iald, i_bald, i_zald, i_lald, i_aald, i_iast, i_bast, i_zast, i_last, i_alen, i_iret, i_lret, i_aret, i_vret, i_oinit, i_cast, i_tsw, i_cases, i_mmin, i_mmax, i_lmin, i_throw, nb0, nb1, nint, nby0, rf_s, rf_n, of_r, of_n, tk_orf_rf, tk_c2, tk_ls, Value.category, tk_isR_ref, tk_isR_rf, tk_isR_null]
  refine ⟨by simp, hx, hk, by simp [Value.category], d - 1, mc, ms, by omega, by omega, by omega, tk_M.out (c_traveller hst (by omega) hZ hC (by omega) (by omega) (fun h1 => ?_) (fun h1 h2 => ?_) (fun h1 h2 pa' pd' e1 e2 => ?_))⟩
  · exact thr0 (fun q => by
      simp -implicitDefEqProofs [i_aload, i_iload, i_lload, i_istore, i_lstore, i_astore, i_iinc, i_push, i_getI, i_getJ, i_getR, i_putI, i_putJ, i_putR, i_iadd, i_isub, i_imul, i_iand, i_ior, i_ixor, i_ishl, i_ishr, i_iushr, i_idiv, i_irem, i_ladd, i_lsub, i_lmul, i_land, i_lor, i_lxor, i_ldiv, i_lrem, i_lshl, i_lshr, i_lcmp, i_ineg, i_lneg, i_i2l, i_l2i, i_i2b, i_i2c, i_dup, i_pop, i_dup_x1, i_dup2, i_icmp_eq, i_icmp_lt, i_icmp_ge, i_icmp_gt, i_icmp_le, i_if_eq, i_if_lt, i_if_ge, i_if_gt, i_if_le, i_goto, i_ifnull, i_iald, i_bald, i_zald, i_lald, i_aald, i_iast, i_bast, i_zast, i_last, i_alen, i_iret, i_lret, i_aret, i_vret, i_oinit, i_cast, i_tsw, i_cases, i_mmin, i_mmax, i_lmin, i_throw, nb0, nb1, nint, nby0, rf_s, rf_n, of_r, of_n, tk_orf_rf, tk_c2, tk_ls, Value.category, tk_isR_ref, tk_isR_rf, tk_isR_null]
      exact okW.thr (by have h := H; unfold o_traveller at h; rw [if_pos h1] at h; exact h) (by decide) hC hO hZ)
  · exact thr1 (fun q => by
      simp -implicitDefEqProofs [i_aload, i_iload, i_lload, i_istore, i_lstore, i_astore, i_iinc, i_push, i_getI, i_getJ, i_getR, i_putI, i_putJ, i_putR, i_iadd, i_isub, i_imul, i_iand, i_ior, i_ixor, i_ishl, i_ishr, i_iushr, i_idiv, i_irem, i_ladd, i_lsub, i_lmul, i_land, i_lor, i_lxor, i_ldiv, i_lrem, i_lshl, i_lshr, i_lcmp, i_ineg, i_lneg, i_i2l, i_l2i, i_i2b, i_i2c, i_dup, i_pop, i_dup_x1, i_dup2, i_icmp_eq, i_icmp_lt, i_icmp_ge, i_icmp_gt, i_icmp_le, i_if_eq, i_if_lt, i_if_ge, i_if_gt, i_if_le, i_goto, i_ifnull, i_iald, i_bald, i_zald, i_lald, i_aald, i_iast, i_bast, i_zast, i_last, i_alen, i_iret, i_lret, i_aret, i_vret, i_oinit, i_cast, i_tsw, i_cases, i_mmin, i_mmax, i_lmin, i_throw, nb0, nb1, nint, nby0, rf_s, rf_n, of_r, of_n, tk_orf_rf, tk_c2, tk_ls, Value.category, tk_isR_ref, tk_isR_rf, tk_isR_null]
      exact okW.thr (by have h := H; unfold o_traveller at h; rw [if_neg (fun z => z h1), if_pos h2] at h; exact h) (by decide) hC hO hZ)
  · intro S' ρ' gh' hF hC' hZ'
    have F := hO.fo hF
    simp -implicitDefEqProofs [i_aload, i_iload, i_lload, i_istore, i_lstore, i_astore, i_iinc, i_push, i_getI, i_getJ, i_getR, i_putI, i_putJ, i_putR, i_iadd, i_isub, i_imul, i_iand, i_ior, i_ixor, i_ishl, i_ishr, i_iushr, i_idiv, i_irem, i_ladd, i_lsub, i_lmul, i_land, i_lor, i_lxor, i_ldiv, i_lrem, i_lshl, i_lshr, i_lcmp, i_ineg, i_lneg, i_i2l, i_l2i, i_i2b, i_i2c, i_dup, i_pop, i_dup_x1, i_dup2, i_icmp_eq, i_icmp_lt, i_icmp_ge, i_icmp_gt, i_icmp_le, i_if_eq, i_if_lt, i_if_ge, i_if_gt, i_if_le, i_goto, i_ifnull, i_iald, i_bald, i_zald, i_lald, i_aald, i_iast, i_bast, i_zast, i_last, i_alen, i_iret, i_lret, i_aret, i_vret, i_oinit, i_cast, i_tsw, i_cases, i_mmin, i_mmax, i_lmin, i_throw, nb0, nb1, nint, nby0, rf_s, rf_n, of_r, of_n, tk_orf_rf, tk_c2, tk_ls, Value.category, tk_isR_ref, tk_isR_rf, tk_isR_null, F.1, F.2.1, F.2.2, in01, c00]
    have hC2 := CI.pv (pa' := (fun q => if q < 8 * M.2.2.2.2.1.1 then M.2.2.2.2.1.2.2.2.2.2.1 q else -1)) (pd' := (fun q => if q < 8 * M.2.2.2.2.1.1 then M.2.2.2.2.1.2.2.2.2.2.2.1 q else -1)) (fun j hj => ?_) hC'
    · exact okW.val (by have h := H; unfold o_traveller at h; rw [if_neg (fun z => z h1), if_neg (Nat.not_le.mpr h2)] at h; exact h) hO hZ' hF hC2
    · dsimp only at hj ⊢
      by_cases w : j < 8 * M.2.2.2.2.1.1
      · rw [if_pos w, if_pos w]
        exact ⟨(e1 j w).1.symm, (e1 j w).2.symm⟩
      · rw [if_neg w, if_neg w]
        have e3 := e2 (j - 8 * M.2.2.2.2.1.1) (by omega)
        rw [show 8 * M.2.2.2.2.1.1 + (j - 8 * M.2.2.2.2.1.1) = j by omega] at e3
        exact ⟨e3.1.symm, e3.2.symm⟩
set_option maxHeartbeats 2000000 in
theorem w_pass {t0 g0 : Int32} (hst : Z.1.stackTraces = false) (hd : 60 ≤ d) (hZ : Z.2.2.2.2.2.1 ∉ q_L S) (hC : CI Z ρ S x gh M) (hO : oR ρ S r 100) (hIV : IV c M) (hJV : JV M) (hc : c ≤ 511) (hmc : 170 + 5 * (lvl (jnM (o_pass M t0 g0).2.2) - lvl (jnM M)) ≤ mc) (hms : 6060 + 60000 * (lvl (jnM (o_pass M t0 g0).2.2) - lvl (jnM M)) ≤ ms)
    (H : okW Z ρ S x r QR (o_pass M t0 g0)) : tk_MW Z mL_pass hL_pass d mc ms [.ref x, .int t0, .int g0, .ref r] S QR := by
  refine M_L_pass (Nat.le_of_ble_eq_true rfl) (fun E hE => hE _ _ _ _ _ ?_)
  show t_L_pass_0 Z d mc ms QR E [some (.ref x), some (.int t0), some (.int g0), some (.ref r), none] [] S 0 0
  have hx := hC.1.1
  have hk := hC.1.2.1
  simp -implicitDefEqProofs [t_L_pass_0, i_aload, i_iload, i_lload, i_istore, i_lstore, i_astore, i_iinc, i_push, i_getI, i_getJ, i_getR, i_putI, i_putJ, i_putR, i_iadd, i_isub, i_imul, i_iand, i_ior, i_ixor, i_ishl, i_ishr, i_iushr, i_idiv, i_irem, i_ladd, i_lsub, i_lmul, i_land, i_lor, i_lxor, i_ldiv, i_lrem, i_lshl, i_lshr, i_lcmp, i_ineg, i_lneg, i_i2l, i_l2i, i_i2b, i_i2c, i_dup, i_pop, i_dup_x1, i_dup2, i_icmp_eq, i_icmp_lt, i_icmp_ge, i_icmp_gt, i_icmp_le, i_if_eq, i_if_lt, i_if_ge, i_if_gt, i_if_le, i_goto, i_ifnull, i_iald, i_bald, i_zald, i_lald, i_aald, i_iast, i_bast, i_zast, i_last, i_alen, i_iret, i_lret, i_aret, i_vret, i_oinit, i_cast, i_tsw, i_cases, i_mmin, i_mmax, i_lmin, i_throw, nb0, nb1, nint, nby0, rf_s, rf_n, of_r, of_n, tk_orf_rf, tk_c2, tk_ls, Value.category, tk_isR_ref, tk_isR_rf, tk_isR_null]
  refine ⟨by simp, hx, hk, by simp [Value.category], d - 1, mc, ms, by omega, by omega, by omega, tk_M.out (c_pass2 hst (by omega) hZ hC hIV.dry (by have := (hIV.lines hC.bd (by omega)).1; omega) (by omega) (by omega) (fun t g ht htt hg hgg => ?_) (fun t g ht htt hg hgg => ?_) (fun h1 => ?_) (fun t g ht htt hg hgg => ?_))⟩
  · subst htt hgg
    have b1 := hC.bd.nV
    have b2 := hC.bd.nG
    have h := hmc
    unfold o_pass at h
    rw [if_neg (fun z => z.elim (fun z => z.elim (nI_pos (by omega)) (nI_ge ht (by omega))) (fun z => z.elim (nI_pos (by omega)) (nI_ge hg (by omega)))), nI_clamp (n := t) (by omega), nI_clamp (n := g) (by omega)] at h
    have h2 : 170 + 5 * (lvl (passM M t g).2.2.2.2.2.2.2.1.1 - lvl M.2.2.2.2.2.2.2.1.1) ≤ mc := h
    omega
  · subst htt hgg
    have b1 := hC.bd.nV
    have b2 := hC.bd.nG
    have h := hms
    unfold o_pass at h
    rw [if_neg (fun z => z.elim (fun z => z.elim (nI_pos (by omega)) (nI_ge ht (by omega))) (fun z => z.elim (nI_pos (by omega)) (nI_ge hg (by omega)))), nI_clamp (n := t) (by omega), nI_clamp (n := g) (by omega)] at h
    have h2 : 6060 + 60000 * (lvl (passM M t g).2.2.2.2.2.2.2.1.1 - lvl M.2.2.2.2.2.2.2.1.1) ≤ ms := h
    omega
  · exact thr0 (fun q => by
      simp -implicitDefEqProofs [i_aload, i_iload, i_lload, i_istore, i_lstore, i_astore, i_iinc, i_push, i_getI, i_getJ, i_getR, i_putI, i_putJ, i_putR, i_iadd, i_isub, i_imul, i_iand, i_ior, i_ixor, i_ishl, i_ishr, i_iushr, i_idiv, i_irem, i_ladd, i_lsub, i_lmul, i_land, i_lor, i_lxor, i_ldiv, i_lrem, i_lshl, i_lshr, i_lcmp, i_ineg, i_lneg, i_i2l, i_l2i, i_i2b, i_i2c, i_dup, i_pop, i_dup_x1, i_dup2, i_icmp_eq, i_icmp_lt, i_icmp_ge, i_icmp_gt, i_icmp_le, i_if_eq, i_if_lt, i_if_ge, i_if_gt, i_if_le, i_goto, i_ifnull, i_iald, i_bald, i_zald, i_lald, i_aald, i_iast, i_bast, i_zast, i_last, i_alen, i_iret, i_lret, i_aret, i_vret, i_oinit, i_cast, i_tsw, i_cases, i_mmin, i_mmax, i_lmin, i_throw, nb0, nb1, nint, nby0, rf_s, rf_n, of_r, of_n, tk_orf_rf, tk_c2, tk_ls, Value.category, tk_isR_ref, tk_isR_rf, tk_isR_null]
      exact okW.thr (by have h := H; unfold o_pass at h; rw [if_pos h1] at h; exact h) (by decide) hC hO hZ)
  · subst htt hgg
    have b1 := hC.bd.nV
    have b2 := hC.bd.nG
    intro S' ρ' gh' hF hC' hZ'
    have F := hO.fo hF
    simp -implicitDefEqProofs [i_aload, i_iload, i_lload, i_istore, i_lstore, i_astore, i_iinc, i_push, i_getI, i_getJ, i_getR, i_putI, i_putJ, i_putR, i_iadd, i_isub, i_imul, i_iand, i_ior, i_ixor, i_ishl, i_ishr, i_iushr, i_idiv, i_irem, i_ladd, i_lsub, i_lmul, i_land, i_lor, i_lxor, i_ldiv, i_lrem, i_lshl, i_lshr, i_lcmp, i_ineg, i_lneg, i_i2l, i_l2i, i_i2b, i_i2c, i_dup, i_pop, i_dup_x1, i_dup2, i_icmp_eq, i_icmp_lt, i_icmp_ge, i_icmp_gt, i_icmp_le, i_if_eq, i_if_lt, i_if_ge, i_if_gt, i_if_le, i_goto, i_ifnull, i_iald, i_bald, i_zald, i_lald, i_aald, i_iast, i_bast, i_zast, i_last, i_alen, i_iret, i_lret, i_aret, i_vret, i_oinit, i_cast, i_tsw, i_cases, i_mmin, i_mmax, i_lmin, i_throw, nb0, nb1, nint, nby0, rf_s, rf_n, of_r, of_n, tk_orf_rf, tk_c2, tk_ls, Value.category, tk_isR_ref, tk_isR_rf, tk_isR_null, F.1, F.2.1, F.2.2, in01, c00]
    exact okW.val (by have h := H; unfold o_pass at h; rw [if_neg (fun z => z.elim (fun z => z.elim (nI_pos (by omega)) (nI_ge ht (by omega))) (fun z => z.elim (nI_pos (by omega)) (nI_ge hg (by omega)))), nI_clamp (n := t) (by omega), nI_clamp (n := g) (by omega)] at h; exact h) hO hZ' hF hC'
set_option maxHeartbeats 2000000 in
theorem w_asked {i t0 g0 : Int32} (hst : Z.1.stackTraces = false) (hd : 60 ≤ d) (hZ : Z.2.2.2.2.2.1 ∉ q_L S) (hC : CI Z ρ S x gh M) (hO : oR ρ S r 100) (hIV : IV c M) (hJV : JV M) (hc : c ≤ 511) (hmc : 170 + 5 * (lvl (jnM (o_asked M i t0 g0).2.2) - lvl (jnM M)) ≤ mc) (hms : 6060 + 60000 * (lvl (jnM (o_asked M i t0 g0).2.2) - lvl (jnM M)) ≤ ms)
    (H : okW Z ρ S x r QR (o_asked M i t0 g0)) : tk_MW Z mL_asked hL_asked d mc ms [.ref x, .int i, .int t0, .int g0, .ref r] S QR := by
  refine M_L_asked (Nat.le_of_ble_eq_true rfl) (fun E hE => hE _ _ _ _ _ ?_)
  show t_L_asked_0 Z d mc ms QR E [some (.ref x), some (.int i), some (.int t0), some (.int g0), some (.ref r), none] [] S 0 0
  have hx := hC.1.1
  have hk := hC.1.2.1
  simp -implicitDefEqProofs [t_L_asked_0, i_aload, i_iload, i_lload, i_istore, i_lstore, i_astore, i_iinc, i_push, i_getI, i_getJ, i_getR, i_putI, i_putJ, i_putR, i_iadd, i_isub, i_imul, i_iand, i_ior, i_ixor, i_ishl, i_ishr, i_iushr, i_idiv, i_irem, i_ladd, i_lsub, i_lmul, i_land, i_lor, i_lxor, i_ldiv, i_lrem, i_lshl, i_lshr, i_lcmp, i_ineg, i_lneg, i_i2l, i_l2i, i_i2b, i_i2c, i_dup, i_pop, i_dup_x1, i_dup2, i_icmp_eq, i_icmp_lt, i_icmp_ge, i_icmp_gt, i_icmp_le, i_if_eq, i_if_lt, i_if_ge, i_if_gt, i_if_le, i_goto, i_ifnull, i_iald, i_bald, i_zald, i_lald, i_aald, i_iast, i_bast, i_zast, i_last, i_alen, i_iret, i_lret, i_aret, i_vret, i_oinit, i_cast, i_tsw, i_cases, i_mmin, i_mmax, i_lmin, i_throw, nb0, nb1, nint, nby0, rf_s, rf_n, of_r, of_n, tk_orf_rf, tk_c2, tk_ls, Value.category, tk_isR_ref, tk_isR_rf, tk_isR_null]
  refine ⟨by simp, hx, hk, by simp [Value.category], d - 1, mc, ms, by omega, by omega, by omega, tk_M.out (c_asked hst (by omega) hZ hC (by omega) (by omega) (fun h1 => ?_) (fun j A t g hA hi ht htt hg hgg => ?_))⟩
  · exact thr0 (fun q => by
      simp -implicitDefEqProofs [i_aload, i_iload, i_lload, i_istore, i_lstore, i_astore, i_iinc, i_push, i_getI, i_getJ, i_getR, i_putI, i_putJ, i_putR, i_iadd, i_isub, i_imul, i_iand, i_ior, i_ixor, i_ishl, i_ishr, i_iushr, i_idiv, i_irem, i_ladd, i_lsub, i_lmul, i_land, i_lor, i_lxor, i_ldiv, i_lrem, i_lshl, i_lshr, i_lcmp, i_ineg, i_lneg, i_i2l, i_l2i, i_i2b, i_i2c, i_dup, i_pop, i_dup_x1, i_dup2, i_icmp_eq, i_icmp_lt, i_icmp_ge, i_icmp_gt, i_icmp_le, i_if_eq, i_if_lt, i_if_ge, i_if_gt, i_if_le, i_goto, i_ifnull, i_iald, i_bald, i_zald, i_lald, i_aald, i_iast, i_bast, i_zast, i_last, i_alen, i_iret, i_lret, i_aret, i_vret, i_oinit, i_cast, i_tsw, i_cases, i_mmin, i_mmax, i_lmin, i_throw, nb0, nb1, nint, nby0, rf_s, rf_n, of_r, of_n, tk_orf_rf, tk_c2, tk_ls, Value.category, tk_isR_ref, tk_isR_rf, tk_isR_null]
      exact okW.thr (by have h := H; unfold o_asked at h; rw [if_pos h1] at h; exact h) (by decide) hC hO hZ)
  · subst hi htt hgg
    have b1 := hC.bd.nV
    have b2 := hC.bd.nG
    have b3 := hC.bd.acts
    have hj := (List.getElem?_eq_some_iff.mp hA).1
    intro S' ρ' gh' hF hC' hZ'
    have F := hO.fo hF
    simp -implicitDefEqProofs [i_aload, i_iload, i_lload, i_istore, i_lstore, i_astore, i_iinc, i_push, i_getI, i_getJ, i_getR, i_putI, i_putJ, i_putR, i_iadd, i_isub, i_imul, i_iand, i_ior, i_ixor, i_ishl, i_ishr, i_iushr, i_idiv, i_irem, i_ladd, i_lsub, i_lmul, i_land, i_lor, i_lxor, i_ldiv, i_lrem, i_lshl, i_lshr, i_lcmp, i_ineg, i_lneg, i_i2l, i_l2i, i_i2b, i_i2c, i_dup, i_pop, i_dup_x1, i_dup2, i_icmp_eq, i_icmp_lt, i_icmp_ge, i_icmp_gt, i_icmp_le, i_if_eq, i_if_lt, i_if_ge, i_if_gt, i_if_le, i_goto, i_ifnull, i_iald, i_bald, i_zald, i_lald, i_aald, i_iast, i_bast, i_zast, i_last, i_alen, i_iret, i_lret, i_aret, i_vret, i_oinit, i_cast, i_tsw, i_cases, i_mmin, i_mmax, i_lmin, i_throw, nb0, nb1, nint, nby0, rf_s, rf_n, of_r, of_n, tk_orf_rf, tk_c2, tk_ls, Value.category, tk_isR_ref, tk_isR_rf, tk_isR_null, F.1, F.2.1, F.2.2, in01, c00]
    exact okW.val (by have h := H; unfold o_asked at h; rw [if_neg (fun z => z.elim (fun z => z.elim (nI_pos (by omega)) (nI_ge hj (by omega))) (fun z => z.elim (fun z => z.elim (nI_pos (by omega)) (nI_ge ht (by omega))) (fun z => z.elim (nI_pos (by omega)) (nI_ge hg (by omega))))), nI_clamp (n := j) (by omega), nI_clamp (n := t) (by omega), nI_clamp (n := g) (by omega), hA] at h; exact h) hO hZ' hF hC'
set_option maxHeartbeats 2000000 in
theorem w_force {i : Int32} (hst : Z.1.stackTraces = false) (hd : 60 ≤ d) (hZ : Z.2.2.2.2.2.1 ∉ q_L S) (hC : CI Z ρ S x gh M) (hO : oR ρ S r 100) (hIV : IV c M) (hJV : JV M) (hc : c ≤ 511) (hmc : 170 + 5 * (lvl (jnM (o_force M i).2.2) - lvl (jnM M)) ≤ mc) (hms : 6060 + 60000 * (lvl (jnM (o_force M i).2.2) - lvl (jnM M)) ≤ ms)
    (H : okW Z ρ S x r QR (o_force M i)) : tk_MW Z mL_force hL_force d mc ms [.ref x, .int i, .ref r] S QR := by
  refine M_L_force (Nat.le_of_ble_eq_true rfl) (fun E hE => hE _ _ _ _ _ ?_)
  show t_L_force_0 Z d mc ms QR E [some (.ref x), some (.int i), some (.ref r), none] [] S 0 0
  have hx := hC.1.1
  have hk := hC.1.2.1
  simp -implicitDefEqProofs [t_L_force_0, i_aload, i_iload, i_lload, i_istore, i_lstore, i_astore, i_iinc, i_push, i_getI, i_getJ, i_getR, i_putI, i_putJ, i_putR, i_iadd, i_isub, i_imul, i_iand, i_ior, i_ixor, i_ishl, i_ishr, i_iushr, i_idiv, i_irem, i_ladd, i_lsub, i_lmul, i_land, i_lor, i_lxor, i_ldiv, i_lrem, i_lshl, i_lshr, i_lcmp, i_ineg, i_lneg, i_i2l, i_l2i, i_i2b, i_i2c, i_dup, i_pop, i_dup_x1, i_dup2, i_icmp_eq, i_icmp_lt, i_icmp_ge, i_icmp_gt, i_icmp_le, i_if_eq, i_if_lt, i_if_ge, i_if_gt, i_if_le, i_goto, i_ifnull, i_iald, i_bald, i_zald, i_lald, i_aald, i_iast, i_bast, i_zast, i_last, i_alen, i_iret, i_lret, i_aret, i_vret, i_oinit, i_cast, i_tsw, i_cases, i_mmin, i_mmax, i_lmin, i_throw, nb0, nb1, nint, nby0, rf_s, rf_n, of_r, of_n, tk_orf_rf, tk_c2, tk_ls, Value.category, tk_isR_ref, tk_isR_rf, tk_isR_null]
  refine ⟨by simp, hx, hk, by simp [Value.category], d - 1, mc, ms, by omega, by omega, by omega, tk_M.out (c_force hst (by omega) hC (by omega) (by omega) (fun h1 => ?_) (fun h1 => ?_))⟩
  · exact thr0 (fun q => by
      simp -implicitDefEqProofs [i_aload, i_iload, i_lload, i_istore, i_lstore, i_astore, i_iinc, i_push, i_getI, i_getJ, i_getR, i_putI, i_putJ, i_putR, i_iadd, i_isub, i_imul, i_iand, i_ior, i_ixor, i_ishl, i_ishr, i_iushr, i_idiv, i_irem, i_ladd, i_lsub, i_lmul, i_land, i_lor, i_lxor, i_ldiv, i_lrem, i_lshl, i_lshr, i_lcmp, i_ineg, i_lneg, i_i2l, i_l2i, i_i2b, i_i2c, i_dup, i_pop, i_dup_x1, i_dup2, i_icmp_eq, i_icmp_lt, i_icmp_ge, i_icmp_gt, i_icmp_le, i_if_eq, i_if_lt, i_if_ge, i_if_gt, i_if_le, i_goto, i_ifnull, i_iald, i_bald, i_zald, i_lald, i_aald, i_iast, i_bast, i_zast, i_last, i_alen, i_iret, i_lret, i_aret, i_vret, i_oinit, i_cast, i_tsw, i_cases, i_mmin, i_mmax, i_lmin, i_throw, nb0, nb1, nint, nby0, rf_s, rf_n, of_r, of_n, tk_orf_rf, tk_c2, tk_ls, Value.category, tk_isR_ref, tk_isR_rf, tk_isR_null]
      exact okW.thr (by have h := H; unfold o_force at h; rw [if_pos h1] at h; exact h) (by decide) hC hO hZ)
  · intro hZ'
    simp -implicitDefEqProofs [i_aload, i_iload, i_lload, i_istore, i_lstore, i_astore, i_iinc, i_push, i_getI, i_getJ, i_getR, i_putI, i_putJ, i_putR, i_iadd, i_isub, i_imul, i_iand, i_ior, i_ixor, i_ishl, i_ishr, i_iushr, i_idiv, i_irem, i_ladd, i_lsub, i_lmul, i_land, i_lor, i_lxor, i_ldiv, i_lrem, i_lshl, i_lshr, i_lcmp, i_ineg, i_lneg, i_i2l, i_l2i, i_i2b, i_i2c, i_dup, i_pop, i_dup_x1, i_dup2, i_icmp_eq, i_icmp_lt, i_icmp_ge, i_icmp_gt, i_icmp_le, i_if_eq, i_if_lt, i_if_ge, i_if_gt, i_if_le, i_goto, i_ifnull, i_iald, i_bald, i_zald, i_lald, i_aald, i_iast, i_bast, i_zast, i_last, i_alen, i_iret, i_lret, i_aret, i_vret, i_oinit, i_cast, i_tsw, i_cases, i_mmin, i_mmax, i_lmin, i_throw, nb0, nb1, nint, nby0, rf_s, rf_n, of_r, of_n, tk_orf_rf, tk_c2, tk_ls, Value.category, tk_isR_ref, tk_isR_rf, tk_isR_null, hO.1, hO.2.1, hO.2.2.1, in01, c00]
    exact okW.val (by have h := H; unfold o_force at h; rw [if_neg (fun z => z h1)] at h; exact h) hO hZ FO.rfl' hC
set_option maxHeartbeats 2000000 in
theorem w_wait {i : Int32} (hst : Z.1.stackTraces = false) (hd : 60 ≤ d) (hZ : Z.2.2.2.2.2.1 ∉ q_L S) (hC : CI Z ρ S x gh M) (hO : oR ρ S r 100) (hIV : IV c M) (hJV : JV M) (hc : c ≤ 511) (hmc : 170 + 5 * (lvl (jnM (o_wait M i).2.2) - lvl (jnM M)) ≤ mc) (hms : 6060 + 60000 * (lvl (jnM (o_wait M i).2.2) - lvl (jnM M)) ≤ ms)
    (H : okW Z ρ S x r QR (o_wait M i)) : tk_MW Z mL_wait hL_wait d mc ms [.ref x, .int i, .ref r] S QR := by
  refine M_L_wait (Nat.le_of_ble_eq_true rfl) (fun E hE => hE _ _ _ _ _ ?_)
  show t_L_wait_0 Z d mc ms QR E [some (.ref x), some (.int i), some (.ref r), none] [] S 0 0
  have hx := hC.1.1
  have hk := hC.1.2.1
  simp -implicitDefEqProofs [t_L_wait_0, i_aload, i_iload, i_lload, i_istore, i_lstore, i_astore, i_iinc, i_push, i_getI, i_getJ, i_getR, i_putI, i_putJ, i_putR, i_iadd, i_isub, i_imul, i_iand, i_ior, i_ixor, i_ishl, i_ishr, i_iushr, i_idiv, i_irem, i_ladd, i_lsub, i_lmul, i_land, i_lor, i_lxor, i_ldiv, i_lrem, i_lshl, i_lshr, i_lcmp, i_ineg, i_lneg, i_i2l, i_l2i, i_i2b, i_i2c, i_dup, i_pop, i_dup_x1, i_dup2, i_icmp_eq, i_icmp_lt, i_icmp_ge, i_icmp_gt, i_icmp_le, i_if_eq, i_if_lt, i_if_ge, i_if_gt, i_if_le, i_goto, i_ifnull, i_iald, i_bald, i_zald, i_lald, i_aald, i_iast, i_bast, i_zast, i_last, i_alen, i_iret, i_lret, i_aret, i_vret, i_oinit, i_cast, i_tsw, i_cases, i_mmin, i_mmax, i_lmin, i_throw, nb0, nb1, nint, nby0, rf_s, rf_n, of_r, of_n, tk_orf_rf, tk_c2, tk_ls, Value.category, tk_isR_ref, tk_isR_rf, tk_isR_null]
  refine ⟨by simp, hx, hk, by simp [Value.category], d - 1, mc, ms, by omega, by omega, by omega, tk_M.out (c_wait2 hst (by omega) hZ hC (fun n hi hn hnt k hk => (((hIV.days hC.bd hc n hnt).2.2 k hk).1)) (fun n hi hn hnt => ?_) (fun n hi hn hnt => ?_) (by omega) (by omega) (fun h1 => ?_) (fun n hi hn hnt => ?_))⟩
  · subst hi
    have h := hmc
    unfold o_wait at h
    rw [if_neg (fun z => z.elim (fun z => z ⟨nI_pos' (by omega), (nI_leI (b := 1000) (by omega) (by omega)).mpr hn⟩) (fun z => z (by rw [nI_add]; exact (nI_leI (b := 9999) (by omega) (by omega)).mpr hnt))), nI_clamp (n := n) (by omega)] at h
    have h2 : 170 + 5 * (lvl (daysM n M).2.2.2.2.2.2.2.1.1 - lvl M.2.2.2.2.2.2.2.1.1) ≤ mc := h
    omega
  · subst hi
    have h := hms
    unfold o_wait at h
    rw [if_neg (fun z => z.elim (fun z => z ⟨nI_pos' (by omega), (nI_leI (b := 1000) (by omega) (by omega)).mpr hn⟩) (fun z => z (by rw [nI_add]; exact (nI_leI (b := 9999) (by omega) (by omega)).mpr hnt))), nI_clamp (n := n) (by omega)] at h
    have h2 : 6060 + 60000 * (lvl (daysM n M).2.2.2.2.2.2.2.1.1 - lvl M.2.2.2.2.2.2.2.1.1) ≤ ms := h
    omega
  · exact thr0 (fun q => by
      simp -implicitDefEqProofs [i_aload, i_iload, i_lload, i_istore, i_lstore, i_astore, i_iinc, i_push, i_getI, i_getJ, i_getR, i_putI, i_putJ, i_putR, i_iadd, i_isub, i_imul, i_iand, i_ior, i_ixor, i_ishl, i_ishr, i_iushr, i_idiv, i_irem, i_ladd, i_lsub, i_lmul, i_land, i_lor, i_lxor, i_ldiv, i_lrem, i_lshl, i_lshr, i_lcmp, i_ineg, i_lneg, i_i2l, i_l2i, i_i2b, i_i2c, i_dup, i_pop, i_dup_x1, i_dup2, i_icmp_eq, i_icmp_lt, i_icmp_ge, i_icmp_gt, i_icmp_le, i_if_eq, i_if_lt, i_if_ge, i_if_gt, i_if_le, i_goto, i_ifnull, i_iald, i_bald, i_zald, i_lald, i_aald, i_iast, i_bast, i_zast, i_last, i_alen, i_iret, i_lret, i_aret, i_vret, i_oinit, i_cast, i_tsw, i_cases, i_mmin, i_mmax, i_lmin, i_throw, nb0, nb1, nint, nby0, rf_s, rf_n, of_r, of_n, tk_orf_rf, tk_c2, tk_ls, Value.category, tk_isR_ref, tk_isR_rf, tk_isR_null]
      exact okW.thr (by have h := H; unfold o_wait at h; rw [if_pos h1] at h; exact h) (by decide) hC hO hZ)
  · subst hi
    intro S' ρ' gh' hF hC' hZ'
    have F := hO.fo hF
    simp -implicitDefEqProofs [i_aload, i_iload, i_lload, i_istore, i_lstore, i_astore, i_iinc, i_push, i_getI, i_getJ, i_getR, i_putI, i_putJ, i_putR, i_iadd, i_isub, i_imul, i_iand, i_ior, i_ixor, i_ishl, i_ishr, i_iushr, i_idiv, i_irem, i_ladd, i_lsub, i_lmul, i_land, i_lor, i_lxor, i_ldiv, i_lrem, i_lshl, i_lshr, i_lcmp, i_ineg, i_lneg, i_i2l, i_l2i, i_i2b, i_i2c, i_dup, i_pop, i_dup_x1, i_dup2, i_icmp_eq, i_icmp_lt, i_icmp_ge, i_icmp_gt, i_icmp_le, i_if_eq, i_if_lt, i_if_ge, i_if_gt, i_if_le, i_goto, i_ifnull, i_iald, i_bald, i_zald, i_lald, i_aald, i_iast, i_bast, i_zast, i_last, i_alen, i_iret, i_lret, i_aret, i_vret, i_oinit, i_cast, i_tsw, i_cases, i_mmin, i_mmax, i_lmin, i_throw, nb0, nb1, nint, nby0, rf_s, rf_n, of_r, of_n, tk_orf_rf, tk_c2, tk_ls, Value.category, tk_isR_ref, tk_isR_rf, tk_isR_null, F.1, F.2.1, F.2.2, in01, c00]
    exact okW.val (by have h := H; unfold o_wait at h; rw [if_neg (fun z => z.elim (fun z => z ⟨nI_pos' (by omega), (nI_leI (b := 1000) (by omega) (by omega)).mpr hn⟩) (fun z => z (by rw [nI_add]; exact (nI_leI (b := 9999) (by omega) (by omega)).mpr hnt))), nI_clamp (n := n) (by omega)] at h; exact h) hO hZ' hF hC'
set_option maxHeartbeats 2000000 in
theorem w_mend {i : Int32} (hst : Z.1.stackTraces = false) (hd : 60 ≤ d) (hZ : Z.2.2.2.2.2.1 ∉ q_L S) (hC : CI Z ρ S x gh M) (hO : oR ρ S r 100) (hIV : IV c M) (hJV : JV M) (hc : c ≤ 511) (hmc : 170 + 5 * (lvl (jnM (o_mend M i).2.2) - lvl (jnM M)) ≤ mc) (hms : 6060 + 60000 * (lvl (jnM (o_mend M i).2.2) - lvl (jnM M)) ≤ ms)
    (H : okW Z ρ S x r QR (o_mend M i)) : tk_MW Z mL_mend hL_mend d mc ms [.ref x, .int i, .ref r] S QR := by
  refine M_L_mend (Nat.le_of_ble_eq_true rfl) (fun E hE => hE _ _ _ _ _ ?_)
  show t_L_mend_0 Z d mc ms QR E [some (.ref x), some (.int i), some (.ref r), none] [] S 0 0
  have hx := hC.1.1
  have hk := hC.1.2.1
  simp -implicitDefEqProofs [t_L_mend_0, i_aload, i_iload, i_lload, i_istore, i_lstore, i_astore, i_iinc, i_push, i_getI, i_getJ, i_getR, i_putI, i_putJ, i_putR, i_iadd, i_isub, i_imul, i_iand, i_ior, i_ixor, i_ishl, i_ishr, i_iushr, i_idiv, i_irem, i_ladd, i_lsub, i_lmul, i_land, i_lor, i_lxor, i_ldiv, i_lrem, i_lshl, i_lshr, i_lcmp, i_ineg, i_lneg, i_i2l, i_l2i, i_i2b, i_i2c, i_dup, i_pop, i_dup_x1, i_dup2, i_icmp_eq, i_icmp_lt, i_icmp_ge, i_icmp_gt, i_icmp_le, i_if_eq, i_if_lt, i_if_ge, i_if_gt, i_if_le, i_goto, i_ifnull, i_iald, i_bald, i_zald, i_lald, i_aald, i_iast, i_bast, i_zast, i_last, i_alen, i_iret, i_lret, i_aret, i_vret, i_oinit, i_cast, i_tsw, i_cases, i_mmin, i_mmax, i_lmin, i_throw, nb0, nb1, nint, nby0, rf_s, rf_n, of_r, of_n, tk_orf_rf, tk_c2, tk_ls, Value.category, tk_isR_ref, tk_isR_rf, tk_isR_null]
  refine ⟨by simp, hx, hk, by simp [Value.category], d - 1, mc, ms, by omega, by omega, by omega, tk_M.out (c_mend hst (by omega) hZ hC ((hIV.lines hC.bd (by omega)).2 hc) (fun n hi hn => ?_) (fun n hi hn => ?_) (by omega) (by omega) (fun h1 => ?_) (fun n hi hn => ?_))⟩
  · subst hi
    have h := hmc
    unfold o_mend at h
    rw [if_neg (fun z => z ⟨nI_pos' (by omega), (nI_leI (b := 20) (by omega) (by omega)).mpr hn⟩), nI_clamp (n := n) (by omega)] at h
    have h2 : 170 + 5 * (lvl (mendM n 0 M).2.2.2.2.2.2.2.2.1.1 - lvl M.2.2.2.2.2.2.2.1.1) ≤ mc := h
    omega
  · subst hi
    have h := hms
    unfold o_mend at h
    rw [if_neg (fun z => z ⟨nI_pos' (by omega), (nI_leI (b := 20) (by omega) (by omega)).mpr hn⟩), nI_clamp (n := n) (by omega)] at h
    have h2 : 6060 + 60000 * (lvl (mendM n 0 M).2.2.2.2.2.2.2.2.1.1 - lvl M.2.2.2.2.2.2.2.1.1) ≤ ms := h
    omega
  · exact thr0 (fun q => by
      simp -implicitDefEqProofs [i_aload, i_iload, i_lload, i_istore, i_lstore, i_astore, i_iinc, i_push, i_getI, i_getJ, i_getR, i_putI, i_putJ, i_putR, i_iadd, i_isub, i_imul, i_iand, i_ior, i_ixor, i_ishl, i_ishr, i_iushr, i_idiv, i_irem, i_ladd, i_lsub, i_lmul, i_land, i_lor, i_lxor, i_ldiv, i_lrem, i_lshl, i_lshr, i_lcmp, i_ineg, i_lneg, i_i2l, i_l2i, i_i2b, i_i2c, i_dup, i_pop, i_dup_x1, i_dup2, i_icmp_eq, i_icmp_lt, i_icmp_ge, i_icmp_gt, i_icmp_le, i_if_eq, i_if_lt, i_if_ge, i_if_gt, i_if_le, i_goto, i_ifnull, i_iald, i_bald, i_zald, i_lald, i_aald, i_iast, i_bast, i_zast, i_last, i_alen, i_iret, i_lret, i_aret, i_vret, i_oinit, i_cast, i_tsw, i_cases, i_mmin, i_mmax, i_lmin, i_throw, nb0, nb1, nint, nby0, rf_s, rf_n, of_r, of_n, tk_orf_rf, tk_c2, tk_ls, Value.category, tk_isR_ref, tk_isR_rf, tk_isR_null]
      exact okW.thr (by have h := H; unfold o_mend at h; rw [if_pos h1] at h; exact h) (by decide) hC hO hZ)
  · subst hi
    intro S' ρ' gh' hF hC' hZ'
    have F := hO.fo hF
    simp -implicitDefEqProofs [i_aload, i_iload, i_lload, i_istore, i_lstore, i_astore, i_iinc, i_push, i_getI, i_getJ, i_getR, i_putI, i_putJ, i_putR, i_iadd, i_isub, i_imul, i_iand, i_ior, i_ixor, i_ishl, i_ishr, i_iushr, i_idiv, i_irem, i_ladd, i_lsub, i_lmul, i_land, i_lor, i_lxor, i_ldiv, i_lrem, i_lshl, i_lshr, i_lcmp, i_ineg, i_lneg, i_i2l, i_l2i, i_i2b, i_i2c, i_dup, i_pop, i_dup_x1, i_dup2, i_icmp_eq, i_icmp_lt, i_icmp_ge, i_icmp_gt, i_icmp_le, i_if_eq, i_if_lt, i_if_ge, i_if_gt, i_if_le, i_goto, i_ifnull, i_iald, i_bald, i_zald, i_lald, i_aald, i_iast, i_bast, i_zast, i_last, i_alen, i_iret, i_lret, i_aret, i_vret, i_oinit, i_cast, i_tsw, i_cases, i_mmin, i_mmax, i_lmin, i_throw, nb0, nb1, nint, nby0, rf_s, rf_n, of_r, of_n, tk_orf_rf, tk_c2, tk_ls, Value.category, tk_isR_ref, tk_isR_rf, tk_isR_null, F.1, F.2.1, F.2.2, in01, c00]
    exact okW.val (by have h := H; unfold o_mend at h; rw [if_neg (fun z => z ⟨nI_pos' (by omega), (nI_leI (b := 20) (by omega) (by omega)).mpr hn⟩), nI_clamp (n := n) (by omega)] at h; exact h) hO hZ' hF hC'
set_option maxHeartbeats 2000000 in
theorem w_farmer {i : Int32} (hst : Z.1.stackTraces = false) (hd : 60 ≤ d) (hZ : Z.2.2.2.2.2.1 ∉ q_L S) (hC : CI Z ρ S x gh M) (hO : oR ρ S r 100) (hIV : IV c M) (hJV : JV M) (hc : c ≤ 511) (hmc : 170 + 5 * (lvl (jnM (o_farmer M i).2.2) - lvl (jnM M)) ≤ mc) (hms : 6060 + 60000 * (lvl (jnM (o_farmer M i).2.2) - lvl (jnM M)) ≤ ms)
    (H : okW Z ρ S x r QR (o_farmer M i)) : tk_MW Z mL_farmer hL_farmer d mc ms [.ref x, .int i, .ref r] S QR := by
  refine M_L_farmer (Nat.le_of_ble_eq_true rfl) (fun E hE => hE _ _ _ _ _ ?_)
  show t_L_farmer_0 Z d mc ms QR E [some (.ref x), some (.int i), some (.ref r), none] [] S 0 0
  have hx := hC.1.1
  have hk := hC.1.2.1
  simp -implicitDefEqProofs [t_L_farmer_0, i_aload, i_iload, i_lload, i_istore, i_lstore, i_astore, i_iinc, i_push, i_getI, i_getJ, i_getR, i_putI, i_putJ, i_putR, i_iadd, i_isub, i_imul, i_iand, i_ior, i_ixor, i_ishl, i_ishr, i_iushr, i_idiv, i_irem, i_ladd, i_lsub, i_lmul, i_land, i_lor, i_lxor, i_ldiv, i_lrem, i_lshl, i_lshr, i_lcmp, i_ineg, i_lneg, i_i2l, i_l2i, i_i2b, i_i2c, i_dup, i_pop, i_dup_x1, i_dup2, i_icmp_eq, i_icmp_lt, i_icmp_ge, i_icmp_gt, i_icmp_le, i_if_eq, i_if_lt, i_if_ge, i_if_gt, i_if_le, i_goto, i_ifnull, i_iald, i_bald, i_zald, i_lald, i_aald, i_iast, i_bast, i_zast, i_last, i_alen, i_iret, i_lret, i_aret, i_vret, i_oinit, i_cast, i_tsw, i_cases, i_mmin, i_mmax, i_lmin, i_throw, nb0, nb1, nint, nby0, rf_s, rf_n, of_r, of_n, tk_orf_rf, tk_c2, tk_ls, Value.category, tk_isR_ref, tk_isR_rf, tk_isR_null]
  refine ⟨by simp, hx, hk, by simp [Value.category], d - 1, mc, ms, by omega, by omega, by omega, tk_M.out (c_farmer hst (by omega) hZ hC (by omega) (by omega) (fun h1 => ?_) (fun h1 h2 => ?_) (fun h1 h2 => ?_))⟩
  · exact thr0 (fun q => by
      simp -implicitDefEqProofs [i_aload, i_iload, i_lload, i_istore, i_lstore, i_astore, i_iinc, i_push, i_getI, i_getJ, i_getR, i_putI, i_putJ, i_putR, i_iadd, i_isub, i_imul, i_iand, i_ior, i_ixor, i_ishl, i_ishr, i_iushr, i_idiv, i_irem, i_ladd, i_lsub, i_lmul, i_land, i_lor, i_lxor, i_ldiv, i_lrem, i_lshl, i_lshr, i_lcmp, i_ineg, i_lneg, i_i2l, i_l2i, i_i2b, i_i2c, i_dup, i_pop, i_dup_x1, i_dup2, i_icmp_eq, i_icmp_lt, i_icmp_ge, i_icmp_gt, i_icmp_le, i_if_eq, i_if_lt, i_if_ge, i_if_gt, i_if_le, i_goto, i_ifnull, i_iald, i_bald, i_zald, i_lald, i_aald, i_iast, i_bast, i_zast, i_last, i_alen, i_iret, i_lret, i_aret, i_vret, i_oinit, i_cast, i_tsw, i_cases, i_mmin, i_mmax, i_lmin, i_throw, nb0, nb1, nint, nby0, rf_s, rf_n, of_r, of_n, tk_orf_rf, tk_c2, tk_ls, Value.category, tk_isR_ref, tk_isR_rf, tk_isR_null]
      exact okW.thr (by have h := H; unfold o_farmer at h; rw [if_pos h1] at h; exact h) (by decide) hC hO hZ)
  · exact thr1 (fun q => by
      simp -implicitDefEqProofs [i_aload, i_iload, i_lload, i_istore, i_lstore, i_astore, i_iinc, i_push, i_getI, i_getJ, i_getR, i_putI, i_putJ, i_putR, i_iadd, i_isub, i_imul, i_iand, i_ior, i_ixor, i_ishl, i_ishr, i_iushr, i_idiv, i_irem, i_ladd, i_lsub, i_lmul, i_land, i_lor, i_lxor, i_ldiv, i_lrem, i_lshl, i_lshr, i_lcmp, i_ineg, i_lneg, i_i2l, i_l2i, i_i2b, i_i2c, i_dup, i_pop, i_dup_x1, i_dup2, i_icmp_eq, i_icmp_lt, i_icmp_ge, i_icmp_gt, i_icmp_le, i_if_eq, i_if_lt, i_if_ge, i_if_gt, i_if_le, i_goto, i_ifnull, i_iald, i_bald, i_zald, i_lald, i_aald, i_iast, i_bast, i_zast, i_last, i_alen, i_iret, i_lret, i_aret, i_vret, i_oinit, i_cast, i_tsw, i_cases, i_mmin, i_mmax, i_lmin, i_throw, nb0, nb1, nint, nby0, rf_s, rf_n, of_r, of_n, tk_orf_rf, tk_c2, tk_ls, Value.category, tk_isR_ref, tk_isR_rf, tk_isR_null]
      exact okW.thr (by have h := H; unfold o_farmer at h; rw [if_neg (fun z => z h1), if_pos h2] at h; exact h) (by decide) hC hO hZ)
  · intro S' ρ' gh' hF hC' hZ'
    have F := hO.fo hF
    simp -implicitDefEqProofs [i_aload, i_iload, i_lload, i_istore, i_lstore, i_astore, i_iinc, i_push, i_getI, i_getJ, i_getR, i_putI, i_putJ, i_putR, i_iadd, i_isub, i_imul, i_iand, i_ior, i_ixor, i_ishl, i_ishr, i_iushr, i_idiv, i_irem, i_ladd, i_lsub, i_lmul, i_land, i_lor, i_lxor, i_ldiv, i_lrem, i_lshl, i_lshr, i_lcmp, i_ineg, i_lneg, i_i2l, i_l2i, i_i2b, i_i2c, i_dup, i_pop, i_dup_x1, i_dup2, i_icmp_eq, i_icmp_lt, i_icmp_ge, i_icmp_gt, i_icmp_le, i_if_eq, i_if_lt, i_if_ge, i_if_gt, i_if_le, i_goto, i_ifnull, i_iald, i_bald, i_zald, i_lald, i_aald, i_iast, i_bast, i_zast, i_last, i_alen, i_iret, i_lret, i_aret, i_vret, i_oinit, i_cast, i_tsw, i_cases, i_mmin, i_mmax, i_lmin, i_throw, nb0, nb1, nint, nby0, rf_s, rf_n, of_r, of_n, tk_orf_rf, tk_c2, tk_ls, Value.category, tk_isR_ref, tk_isR_rf, tk_isR_null, F.1, F.2.1, F.2.2, in01, c00]
    exact okW.val (by have h := H; unfold o_farmer at h; rw [if_neg (fun z => z h1), if_neg (Nat.not_le.mpr h2)] at h; exact h) hO hZ' hF hC'
set_option maxHeartbeats 2000000 in
theorem w_bid {i f0 r0 s0 : Int32} (hst : Z.1.stackTraces = false) (hd : 60 ≤ d) (hZ : Z.2.2.2.2.2.1 ∉ q_L S) (hC : CI Z ρ S x gh M) (hO : oR ρ S r 100) (hIV : IV c M) (hJV : JV M) (hc : c ≤ 511) (hmc : 170 + 5 * (lvl (jnM (o_bid M i f0 r0 s0).2.2) - lvl (jnM M)) ≤ mc) (hms : 6060 + 60000 * (lvl (jnM (o_bid M i f0 r0 s0).2.2) - lvl (jnM M)) ≤ ms)
    (H : okW Z ρ S x r QR (o_bid M i f0 r0 s0)) : tk_MW Z mL_bid hL_bid d mc ms [.ref x, .int i, .int f0, .int r0, .int s0, .ref r] S QR := by
  refine M_L_bid (Nat.le_of_ble_eq_true rfl) (fun E hE => hE _ _ _ _ _ ?_)
  show t_L_bid_0 Z d mc ms QR E [some (.ref x), some (.int i), some (.int f0), some (.int r0), some (.int s0), some (.ref r), none] [] S 0 0
  have hx := hC.1.1
  have hk := hC.1.2.1
  simp -implicitDefEqProofs [t_L_bid_0, i_aload, i_iload, i_lload, i_istore, i_lstore, i_astore, i_iinc, i_push, i_getI, i_getJ, i_getR, i_putI, i_putJ, i_putR, i_iadd, i_isub, i_imul, i_iand, i_ior, i_ixor, i_ishl, i_ishr, i_iushr, i_idiv, i_irem, i_ladd, i_lsub, i_lmul, i_land, i_lor, i_lxor, i_ldiv, i_lrem, i_lshl, i_lshr, i_lcmp, i_ineg, i_lneg, i_i2l, i_l2i, i_i2b, i_i2c, i_dup, i_pop, i_dup_x1, i_dup2, i_icmp_eq, i_icmp_lt, i_icmp_ge, i_icmp_gt, i_icmp_le, i_if_eq, i_if_lt, i_if_ge, i_if_gt, i_if_le, i_goto, i_ifnull, i_iald, i_bald, i_zald, i_lald, i_aald, i_iast, i_bast, i_zast, i_last, i_alen, i_iret, i_lret, i_aret, i_vret, i_oinit, i_cast, i_tsw, i_cases, i_mmin, i_mmax, i_lmin, i_throw, nb0, nb1, nint, nby0, rf_s, rf_n, of_r, of_n, tk_orf_rf, tk_c2, tk_ls, Value.category, tk_isR_ref, tk_isR_rf, tk_isR_null]
  refine ⟨by simp, hx, hk, by simp [Value.category], d - 1, mc, ms, by omega, by omega, by omega, tk_M.out (c_bid hst (by omega) hZ hC (by omega) (by omega) (fun h1 => ?_) (fun j f hj hi hf hfi h2 => ?_) (fun j f hj hi hf hfi h2 h3 => ?_) (fun j f hj hi hf hfi h2 h3 => ?_))⟩
  · exact thr0 (fun q => by
      simp -implicitDefEqProofs [i_aload, i_iload, i_lload, i_istore, i_lstore, i_astore, i_iinc, i_push, i_getI, i_getJ, i_getR, i_putI, i_putJ, i_putR, i_iadd, i_isub, i_imul, i_iand, i_ior, i_ixor, i_ishl, i_ishr, i_iushr, i_idiv, i_irem, i_ladd, i_lsub, i_lmul, i_land, i_lor, i_lxor, i_ldiv, i_lrem, i_lshl, i_lshr, i_lcmp, i_ineg, i_lneg, i_i2l, i_l2i, i_i2b, i_i2c, i_dup, i_pop, i_dup_x1, i_dup2, i_icmp_eq, i_icmp_lt, i_icmp_ge, i_icmp_gt, i_icmp_le, i_if_eq, i_if_lt, i_if_ge, i_if_gt, i_if_le, i_goto, i_ifnull, i_iald, i_bald, i_zald, i_lald, i_aald, i_iast, i_bast, i_zast, i_last, i_alen, i_iret, i_lret, i_aret, i_vret, i_oinit, i_cast, i_tsw, i_cases, i_mmin, i_mmax, i_lmin, i_throw, nb0, nb1, nint, nby0, rf_s, rf_n, of_r, of_n, tk_orf_rf, tk_c2, tk_ls, Value.category, tk_isR_ref, tk_isR_rf, tk_isR_null]
      exact okW.thr (by have h := H; unfold o_bid at h; rw [if_pos h1] at h; exact h) (by decide) hC hO hZ)
  · subst hi hfi
    have b1 := hC.bd.nG
    have b2 := hC.bd.nF
    exact thr1 (fun q => by
      simp -implicitDefEqProofs [i_aload, i_iload, i_lload, i_istore, i_lstore, i_astore, i_iinc, i_push, i_getI, i_getJ, i_getR, i_putI, i_putJ, i_putR, i_iadd, i_isub, i_imul, i_iand, i_ior, i_ixor, i_ishl, i_ishr, i_iushr, i_idiv, i_irem, i_ladd, i_lsub, i_lmul, i_land, i_lor, i_lxor, i_ldiv, i_lrem, i_lshl, i_lshr, i_lcmp, i_ineg, i_lneg, i_i2l, i_l2i, i_i2b, i_i2c, i_dup, i_pop, i_dup_x1, i_dup2, i_icmp_eq, i_icmp_lt, i_icmp_ge, i_icmp_gt, i_icmp_le, i_if_eq, i_if_lt, i_if_ge, i_if_gt, i_if_le, i_goto, i_ifnull, i_iald, i_bald, i_zald, i_lald, i_aald, i_iast, i_bast, i_zast, i_last, i_alen, i_iret, i_lret, i_aret, i_vret, i_oinit, i_cast, i_tsw, i_cases, i_mmin, i_mmax, i_lmin, i_throw, nb0, nb1, nint, nby0, rf_s, rf_n, of_r, of_n, tk_orf_rf, tk_c2, tk_ls, Value.category, tk_isR_ref, tk_isR_rf, tk_isR_null]
      exact okW.thr (by have h := H; unfold o_bid at h; rw [if_neg (fun z => z.elim (fun z => z.elim (nI_pos (by omega)) (nI_ge hj (by omega))) (fun z => z.elim (nI_pos (by omega)) (nI_ge hf (by omega)))), if_pos h2] at h; exact h) (by decide) hC hO hZ)
  · subst hi hfi
    have b1 := hC.bd.nG
    have b2 := hC.bd.nF
    exact thr2 (fun q => by
      simp -implicitDefEqProofs [i_aload, i_iload, i_lload, i_istore, i_lstore, i_astore, i_iinc, i_push, i_getI, i_getJ, i_getR, i_putI, i_putJ, i_putR, i_iadd, i_isub, i_imul, i_iand, i_ior, i_ixor, i_ishl, i_ishr, i_iushr, i_idiv, i_irem, i_ladd, i_lsub, i_lmul, i_land, i_lor, i_lxor, i_ldiv, i_lrem, i_lshl, i_lshr, i_lcmp, i_ineg, i_lneg, i_i2l, i_l2i, i_i2b, i_i2c, i_dup, i_pop, i_dup_x1, i_dup2, i_icmp_eq, i_icmp_lt, i_icmp_ge, i_icmp_gt, i_icmp_le, i_if_eq, i_if_lt, i_if_ge, i_if_gt, i_if_le, i_goto, i_ifnull, i_iald, i_bald, i_zald, i_lald, i_aald, i_iast, i_bast, i_zast, i_last, i_alen, i_iret, i_lret, i_aret, i_vret, i_oinit, i_cast, i_tsw, i_cases, i_mmin, i_mmax, i_lmin, i_throw, nb0, nb1, nint, nby0, rf_s, rf_n, of_r, of_n, tk_orf_rf, tk_c2, tk_ls, Value.category, tk_isR_ref, tk_isR_rf, tk_isR_null]
      exact okW.thr (by have h := H; unfold o_bid at h; rw [if_neg (fun z => z.elim (fun z => z.elim (nI_pos (by omega)) (nI_ge hj (by omega))) (fun z => z.elim (nI_pos (by omega)) (nI_ge hf (by omega)))), if_neg (fun z => z h2), nI_clamp (n := j) (by omega), if_pos h3] at h; exact h) (by decide) hC hO hZ)
  · subst hi hfi
    have b1 := hC.bd.nG
    have b2 := hC.bd.nF
    intro S' ρ' gh' hF hC' hZ'
    have F := hO.fo hF
    simp -implicitDefEqProofs [i_aload, i_iload, i_lload, i_istore, i_lstore, i_astore, i_iinc, i_push, i_getI, i_getJ, i_getR, i_putI, i_putJ, i_putR, i_iadd, i_isub, i_imul, i_iand, i_ior, i_ixor, i_ishl, i_ishr, i_iushr, i_idiv, i_irem, i_ladd, i_lsub, i_lmul, i_land, i_lor, i_lxor, i_ldiv, i_lrem, i_lshl, i_lshr, i_lcmp, i_ineg, i_lneg, i_i2l, i_l2i, i_i2b, i_i2c, i_dup, i_pop, i_dup_x1, i_dup2, i_icmp_eq, i_icmp_lt, i_icmp_ge, i_icmp_gt, i_icmp_le, i_if_eq, i_if_lt, i_if_ge, i_if_gt, i_if_le, i_goto, i_ifnull, i_iald, i_bald, i_zald, i_lald, i_aald, i_iast, i_bast, i_zast, i_last, i_alen, i_iret, i_lret, i_aret, i_vret, i_oinit, i_cast, i_tsw, i_cases, i_mmin, i_mmax, i_lmin, i_throw, nb0, nb1, nint, nby0, rf_s, rf_n, of_r, of_n, tk_orf_rf, tk_c2, tk_ls, Value.category, tk_isR_ref, tk_isR_rf, tk_isR_null, F.1, F.2.1, F.2.2, in01, c00]
    exact okW.val (by have h := H; unfold o_bid at h; rw [if_neg (fun z => z.elim (fun z => z.elim (nI_pos (by omega)) (nI_ge hj (by omega))) (fun z => z.elim (nI_pos (by omega)) (nI_ge hf (by omega)))), if_neg (fun z => z h2), nI_clamp (n := j) (by omega), nI_clamp (n := f) (by omega), if_neg h3] at h; exact h) hO hZ' hF hC'
set_option maxHeartbeats 2000000 in
theorem w_let {i q0 : Int32} (hst : Z.1.stackTraces = false) (hd : 60 ≤ d) (hZ : Z.2.2.2.2.2.1 ∉ q_L S) (hC : CI Z ρ S x gh M) (hO : oR ρ S r 100) (hIV : IV c M) (hJV : JV M) (hc : c ≤ 511) (hmc : 170 + 5 * (lvl (jnM (o_let M i q0).2.2) - lvl (jnM M)) ≤ mc) (hms : 6060 + 60000 * (lvl (jnM (o_let M i q0).2.2) - lvl (jnM M)) ≤ ms)
    (H : okW Z ρ S x r QR (o_let M i q0)) : tk_MW Z mL_let hL_let d mc ms [.ref x, .int i, .int q0, .ref r] S QR := by
  refine M_L_let (Nat.le_of_ble_eq_true rfl) (fun E hE => hE _ _ _ _ _ ?_)
  show t_L_let_0 Z d mc ms QR E [some (.ref x), some (.int i), some (.int q0), some (.ref r), none] [] S 0 0
  have hx := hC.1.1
  have hk := hC.1.2.1
  simp -implicitDefEqProofs [t_L_let_0, i_aload, i_iload, i_lload, i_istore, i_lstore, i_astore, i_iinc, i_push, i_getI, i_getJ, i_getR, i_putI, i_putJ, i_putR, i_iadd, i_isub, i_imul, i_iand, i_ior, i_ixor, i_ishl, i_ishr, i_iushr, i_idiv, i_irem, i_ladd, i_lsub, i_lmul, i_land, i_lor, i_lxor, i_ldiv, i_lrem, i_lshl, i_lshr, i_lcmp, i_ineg, i_lneg, i_i2l, i_l2i, i_i2b, i_i2c, i_dup, i_pop, i_dup_x1, i_dup2, i_icmp_eq, i_icmp_lt, i_icmp_ge, i_icmp_gt, i_icmp_le, i_if_eq, i_if_lt, i_if_ge, i_if_gt, i_if_le, i_goto, i_ifnull, i_iald, i_bald, i_zald, i_lald, i_aald, i_iast, i_bast, i_zast, i_last, i_alen, i_iret, i_lret, i_aret, i_vret, i_oinit, i_cast, i_tsw, i_cases, i_mmin, i_mmax, i_lmin, i_throw, nb0, nb1, nint, nby0, rf_s, rf_n, of_r, of_n, tk_orf_rf, tk_c2, tk_ls, Value.category, tk_isR_ref, tk_isR_rf, tk_isR_null]
  refine ⟨by simp, hx, hk, by simp [Value.category], d - 1, mc, ms, by omega, by omega, by omega, tk_M.out (c_let2 hst (by omega) hZ hC (by have := (hIV.lines hC.bd (by omega)).1; omega) (by omega) (by omega) (fun j n k hj hi hn1 hn2 hq h3 h4 => ?_) (fun j n k hj hi hn1 hn2 hq h3 h4 => ?_) (fun h1 => ?_) (fun j hj hi h2 => ?_) (fun j hj hi h2 h3 => ?_) (fun j hj hi h2 h3 h4 => ?_) (fun j n k hj hi hn1 hn2 hq h3 h4 => ?_))⟩
  · subst hi hq
    have b1 := hC.bd.nG
    have h := hmc
    unfold o_let at h
    rw [if_neg (fun z => z.elim (nI_pos (by omega)) (nI_ge hj (by omega))), if_neg (fun z => z ⟨(nI_leI (a := 1) (by omega) (by omega)).mpr hn1, (nI_leI (b := 40) (by omega) (by omega)).mpr hn2⟩), nI_clamp (n := j) (by omega), if_neg (fun z => z h3), h4, nI_clamp (n := n) (by omega)] at h
    have hk : (letM M j k n).2.2.2.2.2.2.2.1.1 = M.2.2.2.2.2.2.2.1.1 + 1 := by
      unfold letM
      dsimp only
      unfold keepM
      dsimp only
      rw [if_neg (show ¬ va_up M.2.2.2.1.2.2.2.2.2.2.2.1 j n j = 0 by rw [va_up_self]; omega)]
      split <;> rfl
    have h2 : 170 + 5 * (lvl (letM M j k n).2.2.2.2.2.2.2.1.1 - lvl M.2.2.2.2.2.2.2.1.1) ≤ mc := h
    rw [hk] at h2
    omega
  · subst hi hq
    have b1 := hC.bd.nG
    have h := hms
    unfold o_let at h
    rw [if_neg (fun z => z.elim (nI_pos (by omega)) (nI_ge hj (by omega))), if_neg (fun z => z ⟨(nI_leI (a := 1) (by omega) (by omega)).mpr hn1, (nI_leI (b := 40) (by omega) (by omega)).mpr hn2⟩), nI_clamp (n := j) (by omega), if_neg (fun z => z h3), h4, nI_clamp (n := n) (by omega)] at h
    have hk : (letM M j k n).2.2.2.2.2.2.2.1.1 = M.2.2.2.2.2.2.2.1.1 + 1 := by
      unfold letM
      dsimp only
      unfold keepM
      dsimp only
      rw [if_neg (show ¬ va_up M.2.2.2.1.2.2.2.2.2.2.2.1 j n j = 0 by rw [va_up_self]; omega)]
      split <;> rfl
    have h2 : 6060 + 60000 * (lvl (letM M j k n).2.2.2.2.2.2.2.1.1 - lvl M.2.2.2.2.2.2.2.1.1) ≤ ms := h
    rw [hk] at h2
    omega
  · exact thr0 (fun q => by
      simp -implicitDefEqProofs [i_aload, i_iload, i_lload, i_istore, i_lstore, i_astore, i_iinc, i_push, i_getI, i_getJ, i_getR, i_putI, i_putJ, i_putR, i_iadd, i_isub, i_imul, i_iand, i_ior, i_ixor, i_ishl, i_ishr, i_iushr, i_idiv, i_irem, i_ladd, i_lsub, i_lmul, i_land, i_lor, i_lxor, i_ldiv, i_lrem, i_lshl, i_lshr, i_lcmp, i_ineg, i_lneg, i_i2l, i_l2i, i_i2b, i_i2c, i_dup, i_pop, i_dup_x1, i_dup2, i_icmp_eq, i_icmp_lt, i_icmp_ge, i_icmp_gt, i_icmp_le, i_if_eq, i_if_lt, i_if_ge, i_if_gt, i_if_le, i_goto, i_ifnull, i_iald, i_bald, i_zald, i_lald, i_aald, i_iast, i_bast, i_zast, i_last, i_alen, i_iret, i_lret, i_aret, i_vret, i_oinit, i_cast, i_tsw, i_cases, i_mmin, i_mmax, i_lmin, i_throw, nb0, nb1, nint, nby0, rf_s, rf_n, of_r, of_n, tk_orf_rf, tk_c2, tk_ls, Value.category, tk_isR_ref, tk_isR_rf, tk_isR_null]
      exact okW.thr (by have h := H; unfold o_let at h; rw [if_pos h1] at h; exact h) (by decide) hC hO hZ)
  · subst hi
    have b1 := hC.bd.nG
    exact thr1 (fun q => by
      simp -implicitDefEqProofs [i_aload, i_iload, i_lload, i_istore, i_lstore, i_astore, i_iinc, i_push, i_getI, i_getJ, i_getR, i_putI, i_putJ, i_putR, i_iadd, i_isub, i_imul, i_iand, i_ior, i_ixor, i_ishl, i_ishr, i_iushr, i_idiv, i_irem, i_ladd, i_lsub, i_lmul, i_land, i_lor, i_lxor, i_ldiv, i_lrem, i_lshl, i_lshr, i_lcmp, i_ineg, i_lneg, i_i2l, i_l2i, i_i2b, i_i2c, i_dup, i_pop, i_dup_x1, i_dup2, i_icmp_eq, i_icmp_lt, i_icmp_ge, i_icmp_gt, i_icmp_le, i_if_eq, i_if_lt, i_if_ge, i_if_gt, i_if_le, i_goto, i_ifnull, i_iald, i_bald, i_zald, i_lald, i_aald, i_iast, i_bast, i_zast, i_last, i_alen, i_iret, i_lret, i_aret, i_vret, i_oinit, i_cast, i_tsw, i_cases, i_mmin, i_mmax, i_lmin, i_throw, nb0, nb1, nint, nby0, rf_s, rf_n, of_r, of_n, tk_orf_rf, tk_c2, tk_ls, Value.category, tk_isR_ref, tk_isR_rf, tk_isR_null]
      exact okW.thr (by have h := H; unfold o_let at h; rw [if_neg (fun z => z.elim (nI_pos (by omega)) (nI_ge hj (by omega))), if_pos h2] at h; exact h) (by decide) hC hO hZ)
  · subst hi
    have b1 := hC.bd.nG
    exact thr2 (fun q => by
      simp -implicitDefEqProofs [i_aload, i_iload, i_lload, i_istore, i_lstore, i_astore, i_iinc, i_push, i_getI, i_getJ, i_getR, i_putI, i_putJ, i_putR, i_iadd, i_isub, i_imul, i_iand, i_ior, i_ixor, i_ishl, i_ishr, i_iushr, i_idiv, i_irem, i_ladd, i_lsub, i_lmul, i_land, i_lor, i_lxor, i_ldiv, i_lrem, i_lshl, i_lshr, i_lcmp, i_ineg, i_lneg, i_i2l, i_l2i, i_i2b, i_i2c, i_dup, i_pop, i_dup_x1, i_dup2, i_icmp_eq, i_icmp_lt, i_icmp_ge, i_icmp_gt, i_icmp_le, i_if_eq, i_if_lt, i_if_ge, i_if_gt, i_if_le, i_goto, i_ifnull, i_iald, i_bald, i_zald, i_lald, i_aald, i_iast, i_bast, i_zast, i_last, i_alen, i_iret, i_lret, i_aret, i_vret, i_oinit, i_cast, i_tsw, i_cases, i_mmin, i_mmax, i_lmin, i_throw, nb0, nb1, nint, nby0, rf_s, rf_n, of_r, of_n, tk_orf_rf, tk_c2, tk_ls, Value.category, tk_isR_ref, tk_isR_rf, tk_isR_null]
      exact okW.thr (by have h := H; unfold o_let at h; rw [if_neg (fun z => z.elim (nI_pos (by omega)) (nI_ge hj (by omega))), if_neg (fun z => z h2), nI_clamp (n := j) (by omega), if_pos h3] at h; exact h) (by decide) hC hO hZ)
  · subst hi
    have b1 := hC.bd.nG
    intro S' ρ' gh' hF hC' hZ'
    have F := hO.fo hF
    simp -implicitDefEqProofs [i_aload, i_iload, i_lload, i_istore, i_lstore, i_astore, i_iinc, i_push, i_getI, i_getJ, i_getR, i_putI, i_putJ, i_putR, i_iadd, i_isub, i_imul, i_iand, i_ior, i_ixor, i_ishl, i_ishr, i_iushr, i_idiv, i_irem, i_ladd, i_lsub, i_lmul, i_land, i_lor, i_lxor, i_ldiv, i_lrem, i_lshl, i_lshr, i_lcmp, i_ineg, i_lneg, i_i2l, i_l2i, i_i2b, i_i2c, i_dup, i_pop, i_dup_x1, i_dup2, i_icmp_eq, i_icmp_lt, i_icmp_ge, i_icmp_gt, i_icmp_le, i_if_eq, i_if_lt, i_if_ge, i_if_gt, i_if_le, i_goto, i_ifnull, i_iald, i_bald, i_zald, i_lald, i_aald, i_iast, i_bast, i_zast, i_last, i_alen, i_iret, i_lret, i_aret, i_vret, i_oinit, i_cast, i_tsw, i_cases, i_mmin, i_mmax, i_lmin, i_throw, nb0, nb1, nint, nby0, rf_s, rf_n, of_r, of_n, tk_orf_rf, tk_c2, tk_ls, Value.category, tk_isR_ref, tk_isR_rf, tk_isR_null, F.1, F.2.1, F.2.2, in01, c00]
    exact okW.val (by have h := H; unfold o_let at h; rw [if_neg (fun z => z.elim (nI_pos (by omega)) (nI_ge hj (by omega))), if_neg (fun z => z h2), nI_clamp (n := j) (by omega), if_neg (fun z => z h3), h4] at h; exact h) hO hZ' hF hC'
  · subst hi hq
    have b1 := hC.bd.nG
    intro S' ρ' gh' hF hC' hZ'
    have F := hO.fo hF
    simp -implicitDefEqProofs [i_aload, i_iload, i_lload, i_istore, i_lstore, i_astore, i_iinc, i_push, i_getI, i_getJ, i_getR, i_putI, i_putJ, i_putR, i_iadd, i_isub, i_imul, i_iand, i_ior, i_ixor, i_ishl, i_ishr, i_iushr, i_idiv, i_irem, i_ladd, i_lsub, i_lmul, i_land, i_lor, i_lxor, i_ldiv, i_lrem, i_lshl, i_lshr, i_lcmp, i_ineg, i_lneg, i_i2l, i_l2i, i_i2b, i_i2c, i_dup, i_pop, i_dup_x1, i_dup2, i_icmp_eq, i_icmp_lt, i_icmp_ge, i_icmp_gt, i_icmp_le, i_if_eq, i_if_lt, i_if_ge, i_if_gt, i_if_le, i_goto, i_ifnull, i_iald, i_bald, i_zald, i_lald, i_aald, i_iast, i_bast, i_zast, i_last, i_alen, i_iret, i_lret, i_aret, i_vret, i_oinit, i_cast, i_tsw, i_cases, i_mmin, i_mmax, i_lmin, i_throw, nb0, nb1, nint, nby0, rf_s, rf_n, of_r, of_n, tk_orf_rf, tk_c2, tk_ls, Value.category, tk_isR_ref, tk_isR_rf, tk_isR_null, F.1, F.2.1, F.2.2, in01, c00]
    exact okW.val (by have h := H; unfold o_let at h; rw [if_neg (fun z => z.elim (nI_pos (by omega)) (nI_ge hj (by omega))), if_neg (fun z => z ⟨(nI_leI (a := 1) (by omega) (by omega)).mpr hn1, (nI_leI (b := 40) (by omega) (by omega)).mpr hn2⟩), nI_clamp (n := j) (by omega), if_neg (fun z => z h3), h4, nI_clamp (n := n) (by omega)] at h; exact h) hO hZ' hF hC'
set_option maxHeartbeats 2000000 in
theorem w_gateTold {i w0 : Int32} (hst : Z.1.stackTraces = false) (hd : 60 ≤ d) (hZ : Z.2.2.2.2.2.1 ∉ q_L S) (hC : CI Z ρ S x gh M) (hO : oR ρ S r 100) (hIV : IV c M) (hJV : JV M) (hc : c ≤ 511) (hmc : 170 + 5 * (lvl (jnM (o_gateTold M i w0).2.2) - lvl (jnM M)) ≤ mc) (hms : 6060 + 60000 * (lvl (jnM (o_gateTold M i w0).2.2) - lvl (jnM M)) ≤ ms)
    (H : okW Z ρ S x r QR (o_gateTold M i w0)) : tk_MW Z mL_gateTold hL_gateTold d mc ms [.ref x, .int i, .int w0, .ref r] S QR := by
  refine M_L_gateTold (Nat.le_of_ble_eq_true rfl) (fun E hE => hE _ _ _ _ _ ?_)
  show t_L_gateTold_0 Z d mc ms QR E [some (.ref x), some (.int i), some (.int w0), some (.ref r), none] [] S 0 0
  have hx := hC.1.1
  have hk := hC.1.2.1
  simp -implicitDefEqProofs [t_L_gateTold_0, i_aload, i_iload, i_lload, i_istore, i_lstore, i_astore, i_iinc, i_push, i_getI, i_getJ, i_getR, i_putI, i_putJ, i_putR, i_iadd, i_isub, i_imul, i_iand, i_ior, i_ixor, i_ishl, i_ishr, i_iushr, i_idiv, i_irem, i_ladd, i_lsub, i_lmul, i_land, i_lor, i_lxor, i_ldiv, i_lrem, i_lshl, i_lshr, i_lcmp, i_ineg, i_lneg, i_i2l, i_l2i, i_i2b, i_i2c, i_dup, i_pop, i_dup_x1, i_dup2, i_icmp_eq, i_icmp_lt, i_icmp_ge, i_icmp_gt, i_icmp_le, i_if_eq, i_if_lt, i_if_ge, i_if_gt, i_if_le, i_goto, i_ifnull, i_iald, i_bald, i_zald, i_lald, i_aald, i_iast, i_bast, i_zast, i_last, i_alen, i_iret, i_lret, i_aret, i_vret, i_oinit, i_cast, i_tsw, i_cases, i_mmin, i_mmax, i_lmin, i_throw, nb0, nb1, nint, nby0, rf_s, rf_n, of_r, of_n, tk_orf_rf, tk_c2, tk_ls, Value.category, tk_isR_ref, tk_isR_rf, tk_isR_null]
  refine ⟨by simp, hx, hk, by simp [Value.category], d - 1, mc, ms, by omega, by omega, by omega, tk_M.out (c_gateTold hst (by omega) hC (by omega) (by omega) (fun h1 => ?_) (fun h1 h2 => ?_) (fun j hj hi v v0 v1 v2 v3 v4 v5 v6 hw => ?_))⟩
  · exact thr0 (fun q => by
      simp -implicitDefEqProofs [i_aload, i_iload, i_lload, i_istore, i_lstore, i_astore, i_iinc, i_push, i_getI, i_getJ, i_getR, i_putI, i_putJ, i_putR, i_iadd, i_isub, i_imul, i_iand, i_ior, i_ixor, i_ishl, i_ishr, i_iushr, i_idiv, i_irem, i_ladd, i_lsub, i_lmul, i_land, i_lor, i_lxor, i_ldiv, i_lrem, i_lshl, i_lshr, i_lcmp, i_ineg, i_lneg, i_i2l, i_l2i, i_i2b, i_i2c, i_dup, i_pop, i_dup_x1, i_dup2, i_icmp_eq, i_icmp_lt, i_icmp_ge, i_icmp_gt, i_icmp_le, i_if_eq, i_if_lt, i_if_ge, i_if_gt, i_if_le, i_goto, i_ifnull, i_iald, i_bald, i_zald, i_lald, i_aald, i_iast, i_bast, i_zast, i_last, i_alen, i_iret, i_lret, i_aret, i_vret, i_oinit, i_cast, i_tsw, i_cases, i_mmin, i_mmax, i_lmin, i_throw, nb0, nb1, nint, nby0, rf_s, rf_n, of_r, of_n, tk_orf_rf, tk_c2, tk_ls, Value.category, tk_isR_ref, tk_isR_rf, tk_isR_null]
      exact okW.thr (by have h := H; unfold o_gateTold at h; rw [if_pos h1] at h; exact h) (by decide) hC hO hZ)
  · exact thr1 (fun q => by
      simp -implicitDefEqProofs [i_aload, i_iload, i_lload, i_istore, i_lstore, i_astore, i_iinc, i_push, i_getI, i_getJ, i_getR, i_putI, i_putJ, i_putR, i_iadd, i_isub, i_imul, i_iand, i_ior, i_ixor, i_ishl, i_ishr, i_iushr, i_idiv, i_irem, i_ladd, i_lsub, i_lmul, i_land, i_lor, i_lxor, i_ldiv, i_lrem, i_lshl, i_lshr, i_lcmp, i_ineg, i_lneg, i_i2l, i_l2i, i_i2b, i_i2c, i_dup, i_pop, i_dup_x1, i_dup2, i_icmp_eq, i_icmp_lt, i_icmp_ge, i_icmp_gt, i_icmp_le, i_if_eq, i_if_lt, i_if_ge, i_if_gt, i_if_le, i_goto, i_ifnull, i_iald, i_bald, i_zald, i_lald, i_aald, i_iast, i_bast, i_zast, i_last, i_alen, i_iret, i_lret, i_aret, i_vret, i_oinit, i_cast, i_tsw, i_cases, i_mmin, i_mmax, i_lmin, i_throw, nb0, nb1, nint, nby0, rf_s, rf_n, of_r, of_n, tk_orf_rf, tk_c2, tk_ls, Value.category, tk_isR_ref, tk_isR_rf, tk_isR_null]
      exact okW.thr (by have h := H; unfold o_gateTold at h; rw [if_neg h1, if_pos (w_off6 h2)] at h; exact h) (by decide) hC hO hZ)
  · subst hi
    have b1 := hC.bd.nG
    have hg : v = gtM M j w0 ∧ (0 ≤ w0 ∧ w0 ≤ 6) := by
      rcases hw with e | e | e | e | e | e | e
      · rw [v0 e, e]; exact ⟨rfl, by decide⟩
      · rw [v1 e, e]; exact ⟨rfl, by decide⟩
      · rw [v2 e, e]; exact ⟨rfl, by decide⟩
      · rw [v3 e, e]; exact ⟨rfl, by decide⟩
      · rw [v4 e, e]; exact ⟨rfl, by decide⟩
      · rw [v5 e, e]; exact ⟨rfl, by decide⟩
      · rw [v6 e, e]; exact ⟨rfl, by decide⟩
    obtain ⟨e, h2⟩ := hg
    subst e
    intro hZ'
    simp -implicitDefEqProofs [i_aload, i_iload, i_lload, i_istore, i_lstore, i_astore, i_iinc, i_push, i_getI, i_getJ, i_getR, i_putI, i_putJ, i_putR, i_iadd, i_isub, i_imul, i_iand, i_ior, i_ixor, i_ishl, i_ishr, i_iushr, i_idiv, i_irem, i_ladd, i_lsub, i_lmul, i_land, i_lor, i_lxor, i_ldiv, i_lrem, i_lshl, i_lshr, i_lcmp, i_ineg, i_lneg, i_i2l, i_l2i, i_i2b, i_i2c, i_dup, i_pop, i_dup_x1, i_dup2, i_icmp_eq, i_icmp_lt, i_icmp_ge, i_icmp_gt, i_icmp_le, i_if_eq, i_if_lt, i_if_ge, i_if_gt, i_if_le, i_goto, i_ifnull, i_iald, i_bald, i_zald, i_lald, i_aald, i_iast, i_bast, i_zast, i_last, i_alen, i_iret, i_lret, i_aret, i_vret, i_oinit, i_cast, i_tsw, i_cases, i_mmin, i_mmax, i_lmin, i_throw, nb0, nb1, nint, nby0, rf_s, rf_n, of_r, of_n, tk_orf_rf, tk_c2, tk_ls, Value.category, tk_isR_ref, tk_isR_rf, tk_isR_null, hO.1, hO.2.1, hO.2.2.1, in01, c00]
    exact okW.val (by have h := H; unfold o_gateTold at h; rw [if_neg (fun z => z.elim (nI_pos (by omega)) (nI_ge hj (by omega))), if_neg (fun z => z h2), nI_clamp (n := j) (by omega)] at h; exact h) hO hZ FO.rfl' hC
set_option maxHeartbeats 2000000 in
theorem w_borrow {i ra0 rk0 : Int32} (hst : Z.1.stackTraces = false) (hd : 60 ≤ d) (hZ : Z.2.2.2.2.2.1 ∉ q_L S) (hC : CI Z ρ S x gh M) (hO : oR ρ S r 100) (hIV : IV c M) (hJV : JV M) (hc : c ≤ 511) (hmc : 170 + 5 * (lvl (jnM (o_borrow M i ra0 rk0).2.2) - lvl (jnM M)) ≤ mc) (hms : 6060 + 60000 * (lvl (jnM (o_borrow M i ra0 rk0).2.2) - lvl (jnM M)) ≤ ms)
    (H : okW Z ρ S x r QR (o_borrow M i ra0 rk0)) : tk_MW Z mL_borrow hL_borrow d mc ms [.ref x, .int i, .int ra0, .int rk0, .ref r] S QR := by
  refine M_L_borrow (Nat.le_of_ble_eq_true rfl) (fun E hE => hE _ _ _ _ _ ?_)
  show t_L_borrow_0 Z d mc ms QR E [some (.ref x), some (.int i), some (.int ra0), some (.int rk0), some (.ref r), none] [] S 0 0
  have hx := hC.1.1
  have hk := hC.1.2.1
  simp -implicitDefEqProofs [t_L_borrow_0, i_aload, i_iload, i_lload, i_istore, i_lstore, i_astore, i_iinc, i_push, i_getI, i_getJ, i_getR, i_putI, i_putJ, i_putR, i_iadd, i_isub, i_imul, i_iand, i_ior, i_ixor, i_ishl, i_ishr, i_iushr, i_idiv, i_irem, i_ladd, i_lsub, i_lmul, i_land, i_lor, i_lxor, i_ldiv, i_lrem, i_lshl, i_lshr, i_lcmp, i_ineg, i_lneg, i_i2l, i_l2i, i_i2b, i_i2c, i_dup, i_pop, i_dup_x1, i_dup2, i_icmp_eq, i_icmp_lt, i_icmp_ge, i_icmp_gt, i_icmp_le, i_if_eq, i_if_lt, i_if_ge, i_if_gt, i_if_le, i_goto, i_ifnull, i_iald, i_bald, i_zald, i_lald, i_aald, i_iast, i_bast, i_zast, i_last, i_alen, i_iret, i_lret, i_aret, i_vret, i_oinit, i_cast, i_tsw, i_cases, i_mmin, i_mmax, i_lmin, i_throw, nb0, nb1, nint, nby0, rf_s, rf_n, of_r, of_n, tk_orf_rf, tk_c2, tk_ls, Value.category, tk_isR_ref, tk_isR_rf, tk_isR_null]
  refine ⟨by simp, hx, hk, by simp [Value.category], d - 1, mc, ms, by omega, by omega, by omega, tk_M.out (c_borrow2 hst (by omega) hZ hC hIV.du0 (by have := (hIV.lines hC.bd (by omega)).1; omega) (by omega) (by omega) (fun h1 h2 => ?_) (fun h1 h2 => ?_) (fun h1 => ?_) (fun h1 h2 => ?_) (fun h1 h2 => ?_))⟩
  · have h := hmc
    unfold o_borrow at h
    rw [if_neg (fun z => z h1), if_neg (Nat.not_le.mpr h2)] at h
    have h2 : 170 + 5 * (lvl (M.2.2.2.2.2.2.2.1.1 + 1) - lvl M.2.2.2.2.2.2.2.1.1) ≤ mc := h
    omega
  · have h := hms
    unfold o_borrow at h
    rw [if_neg (fun z => z h1), if_neg (Nat.not_le.mpr h2)] at h
    have h2 : 6060 + 60000 * (lvl (M.2.2.2.2.2.2.2.1.1 + 1) - lvl M.2.2.2.2.2.2.2.1.1) ≤ ms := h
    omega
  · exact thr0 (fun q => by
      simp -implicitDefEqProofs [i_aload, i_iload, i_lload, i_istore, i_lstore, i_astore, i_iinc, i_push, i_getI, i_getJ, i_getR, i_putI, i_putJ, i_putR, i_iadd, i_isub, i_imul, i_iand, i_ior, i_ixor, i_ishl, i_ishr, i_iushr, i_idiv, i_irem, i_ladd, i_lsub, i_lmul, i_land, i_lor, i_lxor, i_ldiv, i_lrem, i_lshl, i_lshr, i_lcmp, i_ineg, i_lneg, i_i2l, i_l2i, i_i2b, i_i2c, i_dup, i_pop, i_dup_x1, i_dup2, i_icmp_eq, i_icmp_lt, i_icmp_ge, i_icmp_gt, i_icmp_le, i_if_eq, i_if_lt, i_if_ge, i_if_gt, i_if_le, i_goto, i_ifnull, i_iald, i_bald, i_zald, i_lald, i_aald, i_iast, i_bast, i_zast, i_last, i_alen, i_iret, i_lret, i_aret, i_vret, i_oinit, i_cast, i_tsw, i_cases, i_mmin, i_mmax, i_lmin, i_throw, nb0, nb1, nint, nby0, rf_s, rf_n, of_r, of_n, tk_orf_rf, tk_c2, tk_ls, Value.category, tk_isR_ref, tk_isR_rf, tk_isR_null]
      exact okW.thr (by have h := H; unfold o_borrow at h; rw [if_pos h1] at h; exact h) (by decide) hC hO hZ)
  · exact thr1 (fun q => by
      simp -implicitDefEqProofs [i_aload, i_iload, i_lload, i_istore, i_lstore, i_astore, i_iinc, i_push, i_getI, i_getJ, i_getR, i_putI, i_putJ, i_putR, i_iadd, i_isub, i_imul, i_iand, i_ior, i_ixor, i_ishl, i_ishr, i_iushr, i_idiv, i_irem, i_ladd, i_lsub, i_lmul, i_land, i_lor, i_lxor, i_ldiv, i_lrem, i_lshl, i_lshr, i_lcmp, i_ineg, i_lneg, i_i2l, i_l2i, i_i2b, i_i2c, i_dup, i_pop, i_dup_x1, i_dup2, i_icmp_eq, i_icmp_lt, i_icmp_ge, i_icmp_gt, i_icmp_le, i_if_eq, i_if_lt, i_if_ge, i_if_gt, i_if_le, i_goto, i_ifnull, i_iald, i_bald, i_zald, i_lald, i_aald, i_iast, i_bast, i_zast, i_last, i_alen, i_iret, i_lret, i_aret, i_vret, i_oinit, i_cast, i_tsw, i_cases, i_mmin, i_mmax, i_lmin, i_throw, nb0, nb1, nint, nby0, rf_s, rf_n, of_r, of_n, tk_orf_rf, tk_c2, tk_ls, Value.category, tk_isR_ref, tk_isR_rf, tk_isR_null]
      exact okW.thr (by have h := H; unfold o_borrow at h; rw [if_neg (fun z => z h1), if_pos h2] at h; exact h) (by decide) hC hO hZ)
  · intro S' ρ' gh' hF hC' hZ'
    have F := hO.fo hF
    simp -implicitDefEqProofs [i_aload, i_iload, i_lload, i_istore, i_lstore, i_astore, i_iinc, i_push, i_getI, i_getJ, i_getR, i_putI, i_putJ, i_putR, i_iadd, i_isub, i_imul, i_iand, i_ior, i_ixor, i_ishl, i_ishr, i_iushr, i_idiv, i_irem, i_ladd, i_lsub, i_lmul, i_land, i_lor, i_lxor, i_ldiv, i_lrem, i_lshl, i_lshr, i_lcmp, i_ineg, i_lneg, i_i2l, i_l2i, i_i2b, i_i2c, i_dup, i_pop, i_dup_x1, i_dup2, i_icmp_eq, i_icmp_lt, i_icmp_ge, i_icmp_gt, i_icmp_le, i_if_eq, i_if_lt, i_if_ge, i_if_gt, i_if_le, i_goto, i_ifnull, i_iald, i_bald, i_zald, i_lald, i_aald, i_iast, i_bast, i_zast, i_last, i_alen, i_iret, i_lret, i_aret, i_vret, i_oinit, i_cast, i_tsw, i_cases, i_mmin, i_mmax, i_lmin, i_throw, nb0, nb1, nint, nby0, rf_s, rf_n, of_r, of_n, tk_orf_rf, tk_c2, tk_ls, Value.category, tk_isR_ref, tk_isR_rf, tk_isR_null, F.1, F.2.1, F.2.2, in01, c00]
    exact okW.val (by have h := H; unfold o_borrow at h; rw [if_neg (fun z => z h1), if_neg (Nat.not_le.mpr h2)] at h; exact h) hO hZ' hF hC'
set_option maxHeartbeats 2000000 in
theorem w_repay {i s0 : Int32} (hst : Z.1.stackTraces = false) (hd : 60 ≤ d) (hZ : Z.2.2.2.2.2.1 ∉ q_L S) (hC : CI Z ρ S x gh M) (hO : oR ρ S r 100) (hIV : IV c M) (hJV : JV M) (hc : c ≤ 511) (hmc : 170 + 5 * (lvl (jnM (o_repay M i s0).2.2) - lvl (jnM M)) ≤ mc) (hms : 6060 + 60000 * (lvl (jnM (o_repay M i s0).2.2) - lvl (jnM M)) ≤ ms)
    (H : okW Z ρ S x r QR (o_repay M i s0)) : tk_MW Z mL_repay hL_repay d mc ms [.ref x, .int i, .int s0, .ref r] S QR := by
  refine M_L_repay (Nat.le_of_ble_eq_true rfl) (fun E hE => hE _ _ _ _ _ ?_)
  show t_L_repay_0 Z d mc ms QR E [some (.ref x), some (.int i), some (.int s0), some (.ref r), none] [] S 0 0
  have hx := hC.1.1
  have hk := hC.1.2.1
  simp -implicitDefEqProofs [t_L_repay_0, i_aload, i_iload, i_lload, i_istore, i_lstore, i_astore, i_iinc, i_push, i_getI, i_getJ, i_getR, i_putI, i_putJ, i_putR, i_iadd, i_isub, i_imul, i_iand, i_ior, i_ixor, i_ishl, i_ishr, i_iushr, i_idiv, i_irem, i_ladd, i_lsub, i_lmul, i_land, i_lor, i_lxor, i_ldiv, i_lrem, i_lshl, i_lshr, i_lcmp, i_ineg, i_lneg, i_i2l, i_l2i, i_i2b, i_i2c, i_dup, i_pop, i_dup_x1, i_dup2, i_icmp_eq, i_icmp_lt, i_icmp_ge, i_icmp_gt, i_icmp_le, i_if_eq, i_if_lt, i_if_ge, i_if_gt, i_if_le, i_goto, i_ifnull, i_iald, i_bald, i_zald, i_lald, i_aald, i_iast, i_bast, i_zast, i_last, i_alen, i_iret, i_lret, i_aret, i_vret, i_oinit, i_cast, i_tsw, i_cases, i_mmin, i_mmax, i_lmin, i_throw, nb0, nb1, nint, nby0, rf_s, rf_n, of_r, of_n, tk_orf_rf, tk_c2, tk_ls, Value.category, tk_isR_ref, tk_isR_rf, tk_isR_null]
  refine ⟨by simp, hx, hk, by simp [Value.category], d - 1, mc, ms, by omega, by omega, by omega, tk_M.out (c_repay2 hst (by omega) hZ hC (by have := (hIV.lines hC.bd (by omega)).1; omega) (by omega) (by omega) (fun j hj hi h2 h3 => ?_) (fun j hj hi h2 h3 => ?_) (fun h1 => ?_) (fun h1 h2 => ?_) (fun j hj hi h2 h3 => ?_) (fun j hj hi h2 h3 => ?_))⟩
  · subst hi
    have b1 := hC.bd.nL
    have h := hmc
    unfold o_repay at h
    rw [if_neg (fun z => z.elim (nI_pos (by omega)) (nI_ge hj (by omega))), if_neg h2, nI_clamp (n := j) (by omega), if_neg h3] at h
    have h2 : 170 + 5 * (lvl (M.2.2.2.2.2.2.2.1.1 + 1) - lvl M.2.2.2.2.2.2.2.1.1) ≤ mc := h
    omega
  · subst hi
    have b1 := hC.bd.nL
    have h := hms
    unfold o_repay at h
    rw [if_neg (fun z => z.elim (nI_pos (by omega)) (nI_ge hj (by omega))), if_neg h2, nI_clamp (n := j) (by omega), if_neg h3] at h
    have h2 : 6060 + 60000 * (lvl (M.2.2.2.2.2.2.2.1.1 + 1) - lvl M.2.2.2.2.2.2.2.1.1) ≤ ms := h
    omega
  · exact thr0 (fun q => by
      simp -implicitDefEqProofs [i_aload, i_iload, i_lload, i_istore, i_lstore, i_astore, i_iinc, i_push, i_getI, i_getJ, i_getR, i_putI, i_putJ, i_putR, i_iadd, i_isub, i_imul, i_iand, i_ior, i_ixor, i_ishl, i_ishr, i_iushr, i_idiv, i_irem, i_ladd, i_lsub, i_lmul, i_land, i_lor, i_lxor, i_ldiv, i_lrem, i_lshl, i_lshr, i_lcmp, i_ineg, i_lneg, i_i2l, i_l2i, i_i2b, i_i2c, i_dup, i_pop, i_dup_x1, i_dup2, i_icmp_eq, i_icmp_lt, i_icmp_ge, i_icmp_gt, i_icmp_le, i_if_eq, i_if_lt, i_if_ge, i_if_gt, i_if_le, i_goto, i_ifnull, i_iald, i_bald, i_zald, i_lald, i_aald, i_iast, i_bast, i_zast, i_last, i_alen, i_iret, i_lret, i_aret, i_vret, i_oinit, i_cast, i_tsw, i_cases, i_mmin, i_mmax, i_lmin, i_throw, nb0, nb1, nint, nby0, rf_s, rf_n, of_r, of_n, tk_orf_rf, tk_c2, tk_ls, Value.category, tk_isR_ref, tk_isR_rf, tk_isR_null]
      exact okW.thr (by have h := H; unfold o_repay at h; rw [if_pos h1] at h; exact h) (by decide) hC hO hZ)
  · exact thr1 (fun q => by
      simp -implicitDefEqProofs [i_aload, i_iload, i_lload, i_istore, i_lstore, i_astore, i_iinc, i_push, i_getI, i_getJ, i_getR, i_putI, i_putJ, i_putR, i_iadd, i_isub, i_imul, i_iand, i_ior, i_ixor, i_ishl, i_ishr, i_iushr, i_idiv, i_irem, i_ladd, i_lsub, i_lmul, i_land, i_lor, i_lxor, i_ldiv, i_lrem, i_lshl, i_lshr, i_lcmp, i_ineg, i_lneg, i_i2l, i_l2i, i_i2b, i_i2c, i_dup, i_pop, i_dup_x1, i_dup2, i_icmp_eq, i_icmp_lt, i_icmp_ge, i_icmp_gt, i_icmp_le, i_if_eq, i_if_lt, i_if_ge, i_if_gt, i_if_le, i_goto, i_ifnull, i_iald, i_bald, i_zald, i_lald, i_aald, i_iast, i_bast, i_zast, i_last, i_alen, i_iret, i_lret, i_aret, i_vret, i_oinit, i_cast, i_tsw, i_cases, i_mmin, i_mmax, i_lmin, i_throw, nb0, nb1, nint, nby0, rf_s, rf_n, of_r, of_n, tk_orf_rf, tk_c2, tk_ls, Value.category, tk_isR_ref, tk_isR_rf, tk_isR_null]
      exact okW.thr (by have h := H; unfold o_repay at h; rw [if_neg h1, if_pos h2] at h; exact h) (by decide) hC hO hZ)
  · subst hi
    have b1 := hC.bd.nL
    intro hZ'
    simp -implicitDefEqProofs [i_aload, i_iload, i_lload, i_istore, i_lstore, i_astore, i_iinc, i_push, i_getI, i_getJ, i_getR, i_putI, i_putJ, i_putR, i_iadd, i_isub, i_imul, i_iand, i_ior, i_ixor, i_ishl, i_ishr, i_iushr, i_idiv, i_irem, i_ladd, i_lsub, i_lmul, i_land, i_lor, i_lxor, i_ldiv, i_lrem, i_lshl, i_lshr, i_lcmp, i_ineg, i_lneg, i_i2l, i_l2i, i_i2b, i_i2c, i_dup, i_pop, i_dup_x1, i_dup2, i_icmp_eq, i_icmp_lt, i_icmp_ge, i_icmp_gt, i_icmp_le, i_if_eq, i_if_lt, i_if_ge, i_if_gt, i_if_le, i_goto, i_ifnull, i_iald, i_bald, i_zald, i_lald, i_aald, i_iast, i_bast, i_zast, i_last, i_alen, i_iret, i_lret, i_aret, i_vret, i_oinit, i_cast, i_tsw, i_cases, i_mmin, i_mmax, i_lmin, i_throw, nb0, nb1, nint, nby0, rf_s, rf_n, of_r, of_n, tk_orf_rf, tk_c2, tk_ls, Value.category, tk_isR_ref, tk_isR_rf, tk_isR_null, hO.1, hO.2.1, hO.2.2.1, in01, c00]
    exact okW.val (by have h := H; unfold o_repay at h; rw [if_neg (fun z => z.elim (nI_pos (by omega)) (nI_ge hj (by omega))), if_neg h2, nI_clamp (n := j) (by omega), if_pos h3] at h; exact h) hO hZ FO.rfl' hC
  · subst hi
    have b1 := hC.bd.nL
    intro S' ρ' gh' hF hC' hZ'
    have F := hO.fo hF
    simp -implicitDefEqProofs [i_aload, i_iload, i_lload, i_istore, i_lstore, i_astore, i_iinc, i_push, i_getI, i_getJ, i_getR, i_putI, i_putJ, i_putR, i_iadd, i_isub, i_imul, i_iand, i_ior, i_ixor, i_ishl, i_ishr, i_iushr, i_idiv, i_irem, i_ladd, i_lsub, i_lmul, i_land, i_lor, i_lxor, i_ldiv, i_lrem, i_lshl, i_lshr, i_lcmp, i_ineg, i_lneg, i_i2l, i_l2i, i_i2b, i_i2c, i_dup, i_pop, i_dup_x1, i_dup2, i_icmp_eq, i_icmp_lt, i_icmp_ge, i_icmp_gt, i_icmp_le, i_if_eq, i_if_lt, i_if_ge, i_if_gt, i_if_le, i_goto, i_ifnull, i_iald, i_bald, i_zald, i_lald, i_aald, i_iast, i_bast, i_zast, i_last, i_alen, i_iret, i_lret, i_aret, i_vret, i_oinit, i_cast, i_tsw, i_cases, i_mmin, i_mmax, i_lmin, i_throw, nb0, nb1, nint, nby0, rf_s, rf_n, of_r, of_n, tk_orf_rf, tk_c2, tk_ls, Value.category, tk_isR_ref, tk_isR_rf, tk_isR_null, F.1, F.2.1, F.2.2, in01, c00]
    exact okW.val (by have h := H; unfold o_repay at h; rw [if_neg (fun z => z.elim (nI_pos (by omega)) (nI_ge hj (by omega))), if_neg h2, nI_clamp (n := j) (by omega), if_neg h3] at h; exact h) hO hZ' hF hC'
set_option maxHeartbeats 2000000 in
theorem w_loan {i w0 : Int32} (hst : Z.1.stackTraces = false) (hd : 60 ≤ d) (hZ : Z.2.2.2.2.2.1 ∉ q_L S) (hC : CI Z ρ S x gh M) (hO : oR ρ S r 100) (hIV : IV c M) (hJV : JV M) (hc : c ≤ 511) (hmc : 170 + 5 * (lvl (jnM (o_loan M i w0).2.2) - lvl (jnM M)) ≤ mc) (hms : 6060 + 60000 * (lvl (jnM (o_loan M i w0).2.2) - lvl (jnM M)) ≤ ms)
    (H : okW Z ρ S x r QR (o_loan M i w0)) : tk_MW Z mL_loan hL_loan d mc ms [.ref x, .int i, .int w0, .ref r] S QR := by
  refine M_L_loan (Nat.le_of_ble_eq_true rfl) (fun E hE => hE _ _ _ _ _ ?_)
  show t_L_loan_0 Z d mc ms QR E [some (.ref x), some (.int i), some (.int w0), some (.ref r), none] [] S 0 0
  have hx := hC.1.1
  have hk := hC.1.2.1
  simp -implicitDefEqProofs [t_L_loan_0, i_aload, i_iload, i_lload, i_istore, i_lstore, i_astore, i_iinc, i_push, i_getI, i_getJ, i_getR, i_putI, i_putJ, i_putR, i_iadd, i_isub, i_imul, i_iand, i_ior, i_ixor, i_ishl, i_ishr, i_iushr, i_idiv, i_irem, i_ladd, i_lsub, i_lmul, i_land, i_lor, i_lxor, i_ldiv, i_lrem, i_lshl, i_lshr, i_lcmp, i_ineg, i_lneg, i_i2l, i_l2i, i_i2b, i_i2c, i_dup, i_pop, i_dup_x1, i_dup2, i_icmp_eq, i_icmp_lt, i_icmp_ge, i_icmp_gt, i_icmp_le, i_if_eq, i_if_lt, i_if_ge, i_if_gt, i_if_le, i_goto, i_ifnull, i_iald, i_bald, i_zald, i_lald, i_aald, i_iast, i_bast, i_zast, i_last, i_alen, i_iret, i_lret, i_aret, i_vret, i_oinit, i_cast, i_tsw, i_cases, i_mmin, i_mmax, i_lmin, i_throw, nb0, nb1, nint, nby0, rf_s, rf_n, of_r, of_n, tk_orf_rf, tk_c2, tk_ls, Value.category, tk_isR_ref, tk_isR_rf, tk_isR_null]
  refine ⟨by simp, hx, hk, by simp [Value.category], d - 1, mc, ms, by omega, by omega, by omega, tk_M.out (c_loan hst (by omega) hC (by omega) (by omega) (fun h1 => ?_) (fun h1 h2 => ?_) (fun j hj hi => ?_))⟩
  · exact thr0 (fun q => by
      simp -implicitDefEqProofs [i_aload, i_iload, i_lload, i_istore, i_lstore, i_astore, i_iinc, i_push, i_getI, i_getJ, i_getR, i_putI, i_putJ, i_putR, i_iadd, i_isub, i_imul, i_iand, i_ior, i_ixor, i_ishl, i_ishr, i_iushr, i_idiv, i_irem, i_ladd, i_lsub, i_lmul, i_land, i_lor, i_lxor, i_ldiv, i_lrem, i_lshl, i_lshr, i_lcmp, i_ineg, i_lneg, i_i2l, i_l2i, i_i2b, i_i2c, i_dup, i_pop, i_dup_x1, i_dup2, i_icmp_eq, i_icmp_lt, i_icmp_ge, i_icmp_gt, i_icmp_le, i_if_eq, i_if_lt, i_if_ge, i_if_gt, i_if_le, i_goto, i_ifnull, i_iald, i_bald, i_zald, i_lald, i_aald, i_iast, i_bast, i_zast, i_last, i_alen, i_iret, i_lret, i_aret, i_vret, i_oinit, i_cast, i_tsw, i_cases, i_mmin, i_mmax, i_lmin, i_throw, nb0, nb1, nint, nby0, rf_s, rf_n, of_r, of_n, tk_orf_rf, tk_c2, tk_ls, Value.category, tk_isR_ref, tk_isR_rf, tk_isR_null]
      exact okW.thr (by have h := H; unfold o_loan at h; rw [if_pos h1] at h; exact h) (by decide) hC hO hZ)
  · exact thr1 (fun q => by
      simp -implicitDefEqProofs [i_aload, i_iload, i_lload, i_istore, i_lstore, i_astore, i_iinc, i_push, i_getI, i_getJ, i_getR, i_putI, i_putJ, i_putR, i_iadd, i_isub, i_imul, i_iand, i_ior, i_ixor, i_ishl, i_ishr, i_iushr, i_idiv, i_irem, i_ladd, i_lsub, i_lmul, i_land, i_lor, i_lxor, i_ldiv, i_lrem, i_lshl, i_lshr, i_lcmp, i_ineg, i_lneg, i_i2l, i_l2i, i_i2b, i_i2c, i_dup, i_pop, i_dup_x1, i_dup2, i_icmp_eq, i_icmp_lt, i_icmp_ge, i_icmp_gt, i_icmp_le, i_if_eq, i_if_lt, i_if_ge, i_if_gt, i_if_le, i_goto, i_ifnull, i_iald, i_bald, i_zald, i_lald, i_aald, i_iast, i_bast, i_zast, i_last, i_alen, i_iret, i_lret, i_aret, i_vret, i_oinit, i_cast, i_tsw, i_cases, i_mmin, i_mmax, i_lmin, i_throw, nb0, nb1, nint, nby0, rf_s, rf_n, of_r, of_n, tk_orf_rf, tk_c2, tk_ls, Value.category, tk_isR_ref, tk_isR_rf, tk_isR_null]
      exact okW.thr (by have h := H; unfold o_loan at h; rw [if_neg h1, if_pos (w_off3 h2)] at h; exact h) (by decide) hC hO hZ)
  · subst hi
    have b1 := hC.bd.nL
    have go : (0 ≤ w0 ∧ w0 ≤ 3) → okW Z ρ S x r QR (0, loM M j w0, M) := fun h2 => (by have h := H; unfold o_loan at h; rw [if_neg (fun z => z.elim (nI_pos (by omega)) (nI_ge hj (by omega))), if_neg (fun z => z h2), nI_clamp (n := j) (by omega)] at h; exact h)
    refine ⟨fun e => ?_, fun e => ?_, fun e => ?_, fun e => ?_⟩
    · subst e
      intro hZ'
      simp -implicitDefEqProofs [i_aload, i_iload, i_lload, i_istore, i_lstore, i_astore, i_iinc, i_push, i_getI, i_getJ, i_getR, i_putI, i_putJ, i_putR, i_iadd, i_isub, i_imul, i_iand, i_ior, i_ixor, i_ishl, i_ishr, i_iushr, i_idiv, i_irem, i_ladd, i_lsub, i_lmul, i_land, i_lor, i_lxor, i_ldiv, i_lrem, i_lshl, i_lshr, i_lcmp, i_ineg, i_lneg, i_i2l, i_l2i, i_i2b, i_i2c, i_dup, i_pop, i_dup_x1, i_dup2, i_icmp_eq, i_icmp_lt, i_icmp_ge, i_icmp_gt, i_icmp_le, i_if_eq, i_if_lt, i_if_ge, i_if_gt, i_if_le, i_goto, i_ifnull, i_iald, i_bald, i_zald, i_lald, i_aald, i_iast, i_bast, i_zast, i_last, i_alen, i_iret, i_lret, i_aret, i_vret, i_oinit, i_cast, i_tsw, i_cases, i_mmin, i_mmax, i_lmin, i_throw, nb0, nb1, nint, nby0, rf_s, rf_n, of_r, of_n, tk_orf_rf, tk_c2, tk_ls, Value.category, tk_isR_ref, tk_isR_rf, tk_isR_null, hO.1, hO.2.1, hO.2.2.1, in01, c00]
      exact okW.val (go (by decide)) hO hZ FO.rfl' hC
    · subst e
      intro hZ'
      simp -implicitDefEqProofs [i_aload, i_iload, i_lload, i_istore, i_lstore, i_astore, i_iinc, i_push, i_getI, i_getJ, i_getR, i_putI, i_putJ, i_putR, i_iadd, i_isub, i_imul, i_iand, i_ior, i_ixor, i_ishl, i_ishr, i_iushr, i_idiv, i_irem, i_ladd, i_lsub, i_lmul, i_land, i_lor, i_lxor, i_ldiv, i_lrem, i_lshl, i_lshr, i_lcmp, i_ineg, i_lneg, i_i2l, i_l2i, i_i2b, i_i2c, i_dup, i_pop, i_dup_x1, i_dup2, i_icmp_eq, i_icmp_lt, i_icmp_ge, i_icmp_gt, i_icmp_le, i_if_eq, i_if_lt, i_if_ge, i_if_gt, i_if_le, i_goto, i_ifnull, i_iald, i_bald, i_zald, i_lald, i_aald, i_iast, i_bast, i_zast, i_last, i_alen, i_iret, i_lret, i_aret, i_vret, i_oinit, i_cast, i_tsw, i_cases, i_mmin, i_mmax, i_lmin, i_throw, nb0, nb1, nint, nby0, rf_s, rf_n, of_r, of_n, tk_orf_rf, tk_c2, tk_ls, Value.category, tk_isR_ref, tk_isR_rf, tk_isR_null, hO.1, hO.2.1, hO.2.2.1, in01, c00]
      exact okW.val (go (by decide)) hO hZ FO.rfl' hC
    · subst e
      intro hZ'
      simp -implicitDefEqProofs [i_aload, i_iload, i_lload, i_istore, i_lstore, i_astore, i_iinc, i_push, i_getI, i_getJ, i_getR, i_putI, i_putJ, i_putR, i_iadd, i_isub, i_imul, i_iand, i_ior, i_ixor, i_ishl, i_ishr, i_iushr, i_idiv, i_irem, i_ladd, i_lsub, i_lmul, i_land, i_lor, i_lxor, i_ldiv, i_lrem, i_lshl, i_lshr, i_lcmp, i_ineg, i_lneg, i_i2l, i_l2i, i_i2b, i_i2c, i_dup, i_pop, i_dup_x1, i_dup2, i_icmp_eq, i_icmp_lt, i_icmp_ge, i_icmp_gt, i_icmp_le, i_if_eq, i_if_lt, i_if_ge, i_if_gt, i_if_le, i_goto, i_ifnull, i_iald, i_bald, i_zald, i_lald, i_aald, i_iast, i_bast, i_zast, i_last, i_alen, i_iret, i_lret, i_aret, i_vret, i_oinit, i_cast, i_tsw, i_cases, i_mmin, i_mmax, i_lmin, i_throw, nb0, nb1, nint, nby0, rf_s, rf_n, of_r, of_n, tk_orf_rf, tk_c2, tk_ls, Value.category, tk_isR_ref, tk_isR_rf, tk_isR_null, hO.1, hO.2.1, hO.2.2.1, in01, c00]
      exact okW.val (go (by decide)) hO hZ FO.rfl' hC
    · subst e
      intro hZ'
      simp -implicitDefEqProofs [i_aload, i_iload, i_lload, i_istore, i_lstore, i_astore, i_iinc, i_push, i_getI, i_getJ, i_getR, i_putI, i_putJ, i_putR, i_iadd, i_isub, i_imul, i_iand, i_ior, i_ixor, i_ishl, i_ishr, i_iushr, i_idiv, i_irem, i_ladd, i_lsub, i_lmul, i_land, i_lor, i_lxor, i_ldiv, i_lrem, i_lshl, i_lshr, i_lcmp, i_ineg, i_lneg, i_i2l, i_l2i, i_i2b, i_i2c, i_dup, i_pop, i_dup_x1, i_dup2, i_icmp_eq, i_icmp_lt, i_icmp_ge, i_icmp_gt, i_icmp_le, i_if_eq, i_if_lt, i_if_ge, i_if_gt, i_if_le, i_goto, i_ifnull, i_iald, i_bald, i_zald, i_lald, i_aald, i_iast, i_bast, i_zast, i_last, i_alen, i_iret, i_lret, i_aret, i_vret, i_oinit, i_cast, i_tsw, i_cases, i_mmin, i_mmax, i_lmin, i_throw, nb0, nb1, nint, nby0, rf_s, rf_n, of_r, of_n, tk_orf_rf, tk_c2, tk_ls, Value.category, tk_isR_ref, tk_isR_rf, tk_isR_null, hO.1, hO.2.1, hO.2.2.1, in01, c00]
      exact okW.val (go (by decide)) hO hZ FO.rfl' hC
set_option maxHeartbeats 2000000 in
theorem w_money {i : Int32} (hst : Z.1.stackTraces = false) (hd : 60 ≤ d) (hZ : Z.2.2.2.2.2.1 ∉ q_L S) (hC : CI Z ρ S x gh M) (hO : oR ρ S r 100) (hIV : IV c M) (hJV : JV M) (hc : c ≤ 511) (hmc : 170 + 5 * (lvl (jnM (o_money M i).2.2) - lvl (jnM M)) ≤ mc) (hms : 6060 + 60000 * (lvl (jnM (o_money M i).2.2) - lvl (jnM M)) ≤ ms)
    (H : okW Z ρ S x r QR (o_money M i)) : tk_MW Z mL_money hL_money d mc ms [.ref x, .int i, .ref r] S QR := by
  refine M_L_money (Nat.le_of_ble_eq_true rfl) (fun E hE => hE _ _ _ _ _ ?_)
  show t_L_money_0 Z d mc ms QR E [some (.ref x), some (.int i), some (.ref r), none] [] S 0 0
  have hx := hC.1.1
  have hk := hC.1.2.1
  simp -implicitDefEqProofs [t_L_money_0, i_aload, i_iload, i_lload, i_istore, i_lstore, i_astore, i_iinc, i_push, i_getI, i_getJ, i_getR, i_putI, i_putJ, i_putR, i_iadd, i_isub, i_imul, i_iand, i_ior, i_ixor, i_ishl, i_ishr, i_iushr, i_idiv, i_irem, i_ladd, i_lsub, i_lmul, i_land, i_lor, i_lxor, i_ldiv, i_lrem, i_lshl, i_lshr, i_lcmp, i_ineg, i_lneg, i_i2l, i_l2i, i_i2b, i_i2c, i_dup, i_pop, i_dup_x1, i_dup2, i_icmp_eq, i_icmp_lt, i_icmp_ge, i_icmp_gt, i_icmp_le, i_if_eq, i_if_lt, i_if_ge, i_if_gt, i_if_le, i_goto, i_ifnull, i_iald, i_bald, i_zald, i_lald, i_aald, i_iast, i_bast, i_zast, i_last, i_alen, i_iret, i_lret, i_aret, i_vret, i_oinit, i_cast, i_tsw, i_cases, i_mmin, i_mmax, i_lmin, i_throw, nb0, nb1, nint, nby0, rf_s, rf_n, of_r, of_n, tk_orf_rf, tk_c2, tk_ls, Value.category, tk_isR_ref, tk_isR_rf, tk_isR_null]
  refine ⟨by simp, hx, hk, by simp [Value.category], d - 1, mc, ms, by omega, by omega, by omega, tk_M.out (c_money hst (by omega) hC (by omega) (by omega) (fun h1 => ?_) (fun j hj hi => ?_))⟩
  · exact thr0 (fun q => by
      simp -implicitDefEqProofs [i_aload, i_iload, i_lload, i_istore, i_lstore, i_astore, i_iinc, i_push, i_getI, i_getJ, i_getR, i_putI, i_putJ, i_putR, i_iadd, i_isub, i_imul, i_iand, i_ior, i_ixor, i_ishl, i_ishr, i_iushr, i_idiv, i_irem, i_ladd, i_lsub, i_lmul, i_land, i_lor, i_lxor, i_ldiv, i_lrem, i_lshl, i_lshr, i_lcmp, i_ineg, i_lneg, i_i2l, i_l2i, i_i2b, i_i2c, i_dup, i_pop, i_dup_x1, i_dup2, i_icmp_eq, i_icmp_lt, i_icmp_ge, i_icmp_gt, i_icmp_le, i_if_eq, i_if_lt, i_if_ge, i_if_gt, i_if_le, i_goto, i_ifnull, i_iald, i_bald, i_zald, i_lald, i_aald, i_iast, i_bast, i_zast, i_last, i_alen, i_iret, i_lret, i_aret, i_vret, i_oinit, i_cast, i_tsw, i_cases, i_mmin, i_mmax, i_lmin, i_throw, nb0, nb1, nint, nby0, rf_s, rf_n, of_r, of_n, tk_orf_rf, tk_c2, tk_ls, Value.category, tk_isR_ref, tk_isR_rf, tk_isR_null]
      exact okW.thr (by have h := H; unfold o_money at h; rw [if_pos h1] at h; exact h) (by decide) hC hO hZ)
  · subst hi
    have b1 := hC.bd.nF
    intro hZ'
    simp -implicitDefEqProofs [i_aload, i_iload, i_lload, i_istore, i_lstore, i_astore, i_iinc, i_push, i_getI, i_getJ, i_getR, i_putI, i_putJ, i_putR, i_iadd, i_isub, i_imul, i_iand, i_ior, i_ixor, i_ishl, i_ishr, i_iushr, i_idiv, i_irem, i_ladd, i_lsub, i_lmul, i_land, i_lor, i_lxor, i_ldiv, i_lrem, i_lshl, i_lshr, i_lcmp, i_ineg, i_lneg, i_i2l, i_l2i, i_i2b, i_i2c, i_dup, i_pop, i_dup_x1, i_dup2, i_icmp_eq, i_icmp_lt, i_icmp_ge, i_icmp_gt, i_icmp_le, i_if_eq, i_if_lt, i_if_ge, i_if_gt, i_if_le, i_goto, i_ifnull, i_iald, i_bald, i_zald, i_lald, i_aald, i_iast, i_bast, i_zast, i_last, i_alen, i_iret, i_lret, i_aret, i_vret, i_oinit, i_cast, i_tsw, i_cases, i_mmin, i_mmax, i_lmin, i_throw, nb0, nb1, nint, nby0, rf_s, rf_n, of_r, of_n, tk_orf_rf, tk_c2, tk_ls, Value.category, tk_isR_ref, tk_isR_rf, tk_isR_null, hO.1, hO.2.1, hO.2.2.1, in01, c00]
    exact okW.val (by have h := H; unfold o_money at h; rw [if_neg (fun z => z.elim (nI_pos (by omega)) (nI_ge hj (by omega))), nI_clamp (n := j) (by omega)] at h; exact h) hO hZ FO.rfl' hC
set_option maxHeartbeats 2000000 in
theorem w_wear {i : Int32} (hst : Z.1.stackTraces = false) (hd : 60 ≤ d) (hZ : Z.2.2.2.2.2.1 ∉ q_L S) (hC : CI Z ρ S x gh M) (hO : oR ρ S r 100) (hIV : IV c M) (hJV : JV M) (hc : c ≤ 511) (hmc : 170 + 5 * (lvl (jnM (o_wear M i).2.2) - lvl (jnM M)) ≤ mc) (hms : 6060 + 60000 * (lvl (jnM (o_wear M i).2.2) - lvl (jnM M)) ≤ ms)
    (H : okW Z ρ S x r QR (o_wear M i)) : tk_MW Z mL_wear hL_wear d mc ms [.ref x, .int i, .ref r] S QR := by
  refine M_L_wear (Nat.le_of_ble_eq_true rfl) (fun E hE => hE _ _ _ _ _ ?_)
  show t_L_wear_0 Z d mc ms QR E [some (.ref x), some (.int i), some (.ref r), none] [] S 0 0
  have hx := hC.1.1
  have hk := hC.1.2.1
  simp -implicitDefEqProofs [t_L_wear_0, i_aload, i_iload, i_lload, i_istore, i_lstore, i_astore, i_iinc, i_push, i_getI, i_getJ, i_getR, i_putI, i_putJ, i_putR, i_iadd, i_isub, i_imul, i_iand, i_ior, i_ixor, i_ishl, i_ishr, i_iushr, i_idiv, i_irem, i_ladd, i_lsub, i_lmul, i_land, i_lor, i_lxor, i_ldiv, i_lrem, i_lshl, i_lshr, i_lcmp, i_ineg, i_lneg, i_i2l, i_l2i, i_i2b, i_i2c, i_dup, i_pop, i_dup_x1, i_dup2, i_icmp_eq, i_icmp_lt, i_icmp_ge, i_icmp_gt, i_icmp_le, i_if_eq, i_if_lt, i_if_ge, i_if_gt, i_if_le, i_goto, i_ifnull, i_iald, i_bald, i_zald, i_lald, i_aald, i_iast, i_bast, i_zast, i_last, i_alen, i_iret, i_lret, i_aret, i_vret, i_oinit, i_cast, i_tsw, i_cases, i_mmin, i_mmax, i_lmin, i_throw, nb0, nb1, nint, nby0, rf_s, rf_n, of_r, of_n, tk_orf_rf, tk_c2, tk_ls, Value.category, tk_isR_ref, tk_isR_rf, tk_isR_null]
  refine ⟨by simp, hx, hk, by simp [Value.category], d - 1, mc, ms, by omega, by omega, by omega, tk_M.out (c_wear hst (by omega) hC (by omega) (by omega) (fun h1 => ?_) (fun j hj hi => ?_))⟩
  · exact thr0 (fun q => by
      simp -implicitDefEqProofs [i_aload, i_iload, i_lload, i_istore, i_lstore, i_astore, i_iinc, i_push, i_getI, i_getJ, i_getR, i_putI, i_putJ, i_putR, i_iadd, i_isub, i_imul, i_iand, i_ior, i_ixor, i_ishl, i_ishr, i_iushr, i_idiv, i_irem, i_ladd, i_lsub, i_lmul, i_land, i_lor, i_lxor, i_ldiv, i_lrem, i_lshl, i_lshr, i_lcmp, i_ineg, i_lneg, i_i2l, i_l2i, i_i2b, i_i2c, i_dup, i_pop, i_dup_x1, i_dup2, i_icmp_eq, i_icmp_lt, i_icmp_ge, i_icmp_gt, i_icmp_le, i_if_eq, i_if_lt, i_if_ge, i_if_gt, i_if_le, i_goto, i_ifnull, i_iald, i_bald, i_zald, i_lald, i_aald, i_iast, i_bast, i_zast, i_last, i_alen, i_iret, i_lret, i_aret, i_vret, i_oinit, i_cast, i_tsw, i_cases, i_mmin, i_mmax, i_lmin, i_throw, nb0, nb1, nint, nby0, rf_s, rf_n, of_r, of_n, tk_orf_rf, tk_c2, tk_ls, Value.category, tk_isR_ref, tk_isR_rf, tk_isR_null]
      exact okW.thr (by have h := H; unfold o_wear at h; rw [if_pos h1] at h; exact h) (by decide) hC hO hZ)
  · subst hi
    have b1 := hC.bd.nS
    intro hZ'
    simp -implicitDefEqProofs [i_aload, i_iload, i_lload, i_istore, i_lstore, i_astore, i_iinc, i_push, i_getI, i_getJ, i_getR, i_putI, i_putJ, i_putR, i_iadd, i_isub, i_imul, i_iand, i_ior, i_ixor, i_ishl, i_ishr, i_iushr, i_idiv, i_irem, i_ladd, i_lsub, i_lmul, i_land, i_lor, i_lxor, i_ldiv, i_lrem, i_lshl, i_lshr, i_lcmp, i_ineg, i_lneg, i_i2l, i_l2i, i_i2b, i_i2c, i_dup, i_pop, i_dup_x1, i_dup2, i_icmp_eq, i_icmp_lt, i_icmp_ge, i_icmp_gt, i_icmp_le, i_if_eq, i_if_lt, i_if_ge, i_if_gt, i_if_le, i_goto, i_ifnull, i_iald, i_bald, i_zald, i_lald, i_aald, i_iast, i_bast, i_zast, i_last, i_alen, i_iret, i_lret, i_aret, i_vret, i_oinit, i_cast, i_tsw, i_cases, i_mmin, i_mmax, i_lmin, i_throw, nb0, nb1, nint, nby0, rf_s, rf_n, of_r, of_n, tk_orf_rf, tk_c2, tk_ls, Value.category, tk_isR_ref, tk_isR_rf, tk_isR_null, hO.1, hO.2.1, hO.2.2.1, in01, c00]
    exact okW.val (by have h := H; unfold o_wear at h; rw [if_neg (fun z => z.elim (nI_pos (by omega)) (nI_ge hj (by omega))), nI_clamp (n := j) (by omega)] at h; exact h) hO hZ FO.rfl' hC
set_option maxHeartbeats 2000000 in
theorem w_box {i : Int32} (hst : Z.1.stackTraces = false) (hd : 60 ≤ d) (hZ : Z.2.2.2.2.2.1 ∉ q_L S) (hC : CI Z ρ S x gh M) (hO : oR ρ S r 100) (hIV : IV c M) (hJV : JV M) (hc : c ≤ 511) (hmc : 170 + 5 * (lvl (jnM (o_box M i).2.2) - lvl (jnM M)) ≤ mc) (hms : 6060 + 60000 * (lvl (jnM (o_box M i).2.2) - lvl (jnM M)) ≤ ms)
    (H : okW Z ρ S x r QR (o_box M i)) : tk_MW Z mL_box hL_box d mc ms [.ref x, .int i, .ref r] S QR := by
  refine M_L_box (Nat.le_of_ble_eq_true rfl) (fun E hE => hE _ _ _ _ _ ?_)
  show t_L_box_0 Z d mc ms QR E [some (.ref x), some (.int i), some (.ref r), none] [] S 0 0
  have hx := hC.1.1
  have hk := hC.1.2.1
  simp -implicitDefEqProofs [t_L_box_0, i_aload, i_iload, i_lload, i_istore, i_lstore, i_astore, i_iinc, i_push, i_getI, i_getJ, i_getR, i_putI, i_putJ, i_putR, i_iadd, i_isub, i_imul, i_iand, i_ior, i_ixor, i_ishl, i_ishr, i_iushr, i_idiv, i_irem, i_ladd, i_lsub, i_lmul, i_land, i_lor, i_lxor, i_ldiv, i_lrem, i_lshl, i_lshr, i_lcmp, i_ineg, i_lneg, i_i2l, i_l2i, i_i2b, i_i2c, i_dup, i_pop, i_dup_x1, i_dup2, i_icmp_eq, i_icmp_lt, i_icmp_ge, i_icmp_gt, i_icmp_le, i_if_eq, i_if_lt, i_if_ge, i_if_gt, i_if_le, i_goto, i_ifnull, i_iald, i_bald, i_zald, i_lald, i_aald, i_iast, i_bast, i_zast, i_last, i_alen, i_iret, i_lret, i_aret, i_vret, i_oinit, i_cast, i_tsw, i_cases, i_mmin, i_mmax, i_lmin, i_throw, nb0, nb1, nint, nby0, rf_s, rf_n, of_r, of_n, tk_orf_rf, tk_c2, tk_ls, Value.category, tk_isR_ref, tk_isR_rf, tk_isR_null]
  refine ⟨by simp, hx, hk, by simp [Value.category], d - 1, mc, ms, by omega, by omega, by omega, tk_M.out (c_box hst (by omega) hC (by omega) (by omega) (fun h1 => ?_) (fun h1 => ?_))⟩
  · exact thr0 (fun q => by
      simp -implicitDefEqProofs [i_aload, i_iload, i_lload, i_istore, i_lstore, i_astore, i_iinc, i_push, i_getI, i_getJ, i_getR, i_putI, i_putJ, i_putR, i_iadd, i_isub, i_imul, i_iand, i_ior, i_ixor, i_ishl, i_ishr, i_iushr, i_idiv, i_irem, i_ladd, i_lsub, i_lmul, i_land, i_lor, i_lxor, i_ldiv, i_lrem, i_lshl, i_lshr, i_lcmp, i_ineg, i_lneg, i_i2l, i_l2i, i_i2b, i_i2c, i_dup, i_pop, i_dup_x1, i_dup2, i_icmp_eq, i_icmp_lt, i_icmp_ge, i_icmp_gt, i_icmp_le, i_if_eq, i_if_lt, i_if_ge, i_if_gt, i_if_le, i_goto, i_ifnull, i_iald, i_bald, i_zald, i_lald, i_aald, i_iast, i_bast, i_zast, i_last, i_alen, i_iret, i_lret, i_aret, i_vret, i_oinit, i_cast, i_tsw, i_cases, i_mmin, i_mmax, i_lmin, i_throw, nb0, nb1, nint, nby0, rf_s, rf_n, of_r, of_n, tk_orf_rf, tk_c2, tk_ls, Value.category, tk_isR_ref, tk_isR_rf, tk_isR_null]
      exact okW.thr (by have h := H; unfold o_box at h; rw [if_pos h1] at h; exact h) (by decide) hC hO hZ)
  · have e := box_eq (i := i) hJV
    rw [e]
    intro hZ'
    simp -implicitDefEqProofs [i_aload, i_iload, i_lload, i_istore, i_lstore, i_astore, i_iinc, i_push, i_getI, i_getJ, i_getR, i_putI, i_putJ, i_putR, i_iadd, i_isub, i_imul, i_iand, i_ior, i_ixor, i_ishl, i_ishr, i_iushr, i_idiv, i_irem, i_ladd, i_lsub, i_lmul, i_land, i_lor, i_lxor, i_ldiv, i_lrem, i_lshl, i_lshr, i_lcmp, i_ineg, i_lneg, i_i2l, i_l2i, i_i2b, i_i2c, i_dup, i_pop, i_dup_x1, i_dup2, i_icmp_eq, i_icmp_lt, i_icmp_ge, i_icmp_gt, i_icmp_le, i_if_eq, i_if_lt, i_if_ge, i_if_gt, i_if_le, i_goto, i_ifnull, i_iald, i_bald, i_zald, i_lald, i_aald, i_iast, i_bast, i_zast, i_last, i_alen, i_iret, i_lret, i_aret, i_vret, i_oinit, i_cast, i_tsw, i_cases, i_mmin, i_mmax, i_lmin, i_throw, nb0, nb1, nint, nby0, rf_s, rf_n, of_r, of_n, tk_orf_rf, tk_c2, tk_ls, Value.category, tk_isR_ref, tk_isR_rf, tk_isR_null, hO.1, hO.2.1, hO.2.2.1, in01, c00]
    exact okW.val (by have h := H; unfold o_box at h; rw [if_neg (fun z => z h1)] at h; exact h) hO hZ FO.rfl' hC
set_option maxHeartbeats 2000000 in
theorem w_journal {i w0 : Int32} (hst : Z.1.stackTraces = false) (hd : 60 ≤ d) (hZ : Z.2.2.2.2.2.1 ∉ q_L S) (hC : CI Z ρ S x gh M) (hO : oR ρ S r 100) (hIV : IV c M) (hJV : JV M) (hc : c ≤ 511) (hmc : 170 + 5 * (lvl (jnM (o_journal M i w0).2.2) - lvl (jnM M)) ≤ mc) (hms : 6060 + 60000 * (lvl (jnM (o_journal M i w0).2.2) - lvl (jnM M)) ≤ ms)
    (H : okW Z ρ S x r QR (o_journal M i w0)) : tk_MW Z mL_journal hL_journal d mc ms [.ref x, .int i, .int w0, .ref r] S QR := by
  refine M_L_journal (Nat.le_of_ble_eq_true rfl) (fun E hE => hE _ _ _ _ _ ?_)
  show t_L_journal_0 Z d mc ms QR E [some (.ref x), some (.int i), some (.int w0), some (.ref r), none] [] S 0 0
  have hx := hC.1.1
  have hk := hC.1.2.1
  simp -implicitDefEqProofs [t_L_journal_0, i_aload, i_iload, i_lload, i_istore, i_lstore, i_astore, i_iinc, i_push, i_getI, i_getJ, i_getR, i_putI, i_putJ, i_putR, i_iadd, i_isub, i_imul, i_iand, i_ior, i_ixor, i_ishl, i_ishr, i_iushr, i_idiv, i_irem, i_ladd, i_lsub, i_lmul, i_land, i_lor, i_lxor, i_ldiv, i_lrem, i_lshl, i_lshr, i_lcmp, i_ineg, i_lneg, i_i2l, i_l2i, i_i2b, i_i2c, i_dup, i_pop, i_dup_x1, i_dup2, i_icmp_eq, i_icmp_lt, i_icmp_ge, i_icmp_gt, i_icmp_le, i_if_eq, i_if_lt, i_if_ge, i_if_gt, i_if_le, i_goto, i_ifnull, i_iald, i_bald, i_zald, i_lald, i_aald, i_iast, i_bast, i_zast, i_last, i_alen, i_iret, i_lret, i_aret, i_vret, i_oinit, i_cast, i_tsw, i_cases, i_mmin, i_mmax, i_lmin, i_throw, nb0, nb1, nint, nby0, rf_s, rf_n, of_r, of_n, tk_orf_rf, tk_c2, tk_ls, Value.category, tk_isR_ref, tk_isR_rf, tk_isR_null]
  refine ⟨by simp, hx, hk, by simp [Value.category], d - 1, mc, ms, by omega, by omega, by omega, tk_M.out (c_journal hst (by omega) hC (by omega) (by omega) (fun h1 => ?_) (fun h1 h2 => ?_) (fun j hj hi h2 => ?_))⟩
  · exact thr0 (fun q => by
      simp -implicitDefEqProofs [i_aload, i_iload, i_lload, i_istore, i_lstore, i_astore, i_iinc, i_push, i_getI, i_getJ, i_getR, i_putI, i_putJ, i_putR, i_iadd, i_isub, i_imul, i_iand, i_ior, i_ixor, i_ishl, i_ishr, i_iushr, i_idiv, i_irem, i_ladd, i_lsub, i_lmul, i_land, i_lor, i_lxor, i_ldiv, i_lrem, i_lshl, i_lshr, i_lcmp, i_ineg, i_lneg, i_i2l, i_l2i, i_i2b, i_i2c, i_dup, i_pop, i_dup_x1, i_dup2, i_icmp_eq, i_icmp_lt, i_icmp_ge, i_icmp_gt, i_icmp_le, i_if_eq, i_if_lt, i_if_ge, i_if_gt, i_if_le, i_goto, i_ifnull, i_iald, i_bald, i_zald, i_lald, i_aald, i_iast, i_bast, i_zast, i_last, i_alen, i_iret, i_lret, i_aret, i_vret, i_oinit, i_cast, i_tsw, i_cases, i_mmin, i_mmax, i_lmin, i_throw, nb0, nb1, nint, nby0, rf_s, rf_n, of_r, of_n, tk_orf_rf, tk_c2, tk_ls, Value.category, tk_isR_ref, tk_isR_rf, tk_isR_null]
      exact okW.thr (by have h := H; unfold o_journal at h; rw [if_pos h1] at h; exact h) (by decide) hC hO hZ)
  · exact thr1 (fun q => by
      simp -implicitDefEqProofs [i_aload, i_iload, i_lload, i_istore, i_lstore, i_astore, i_iinc, i_push, i_getI, i_getJ, i_getR, i_putI, i_putJ, i_putR, i_iadd, i_isub, i_imul, i_iand, i_ior, i_ixor, i_ishl, i_ishr, i_iushr, i_idiv, i_irem, i_ladd, i_lsub, i_lmul, i_land, i_lor, i_lxor, i_ldiv, i_lrem, i_lshl, i_lshr, i_lcmp, i_ineg, i_lneg, i_i2l, i_l2i, i_i2b, i_i2c, i_dup, i_pop, i_dup_x1, i_dup2, i_icmp_eq, i_icmp_lt, i_icmp_ge, i_icmp_gt, i_icmp_le, i_if_eq, i_if_lt, i_if_ge, i_if_gt, i_if_le, i_goto, i_ifnull, i_iald, i_bald, i_zald, i_lald, i_aald, i_iast, i_bast, i_zast, i_last, i_alen, i_iret, i_lret, i_aret, i_vret, i_oinit, i_cast, i_tsw, i_cases, i_mmin, i_mmax, i_lmin, i_throw, nb0, nb1, nint, nby0, rf_s, rf_n, of_r, of_n, tk_orf_rf, tk_c2, tk_ls, Value.category, tk_isR_ref, tk_isR_rf, tk_isR_null]
      exact okW.thr (by have h := H; unfold o_journal at h; rw [if_neg h1, if_pos h2] at h; exact h) (by decide) hC hO hZ)
  · subst hi
    have b1 := hC.bd.jn
    intro hZ'
    simp -implicitDefEqProofs [i_aload, i_iload, i_lload, i_istore, i_lstore, i_astore, i_iinc, i_push, i_getI, i_getJ, i_getR, i_putI, i_putJ, i_putR, i_iadd, i_isub, i_imul, i_iand, i_ior, i_ixor, i_ishl, i_ishr, i_iushr, i_idiv, i_irem, i_ladd, i_lsub, i_lmul, i_land, i_lor, i_lxor, i_ldiv, i_lrem, i_lshl, i_lshr, i_lcmp, i_ineg, i_lneg, i_i2l, i_l2i, i_i2b, i_i2c, i_dup, i_pop, i_dup_x1, i_dup2, i_icmp_eq, i_icmp_lt, i_icmp_ge, i_icmp_gt, i_icmp_le, i_if_eq, i_if_lt, i_if_ge, i_if_gt, i_if_le, i_goto, i_ifnull, i_iald, i_bald, i_zald, i_lald, i_aald, i_iast, i_bast, i_zast, i_last, i_alen, i_iret, i_lret, i_aret, i_vret, i_oinit, i_cast, i_tsw, i_cases, i_mmin, i_mmax, i_lmin, i_throw, nb0, nb1, nint, nby0, rf_s, rf_n, of_r, of_n, tk_orf_rf, tk_c2, tk_ls, Value.category, tk_isR_ref, tk_isR_rf, tk_isR_null, hO.1, hO.2.1, hO.2.2.1, in01, c00]
    exact okW.val (by have h := H; unfold o_journal at h; rw [if_neg (fun z => z.elim (nI_pos (by omega)) (nI_ge hj (by omega))), if_neg (fun z => z h2), nI_clamp (n := j) (by omega)] at h; exact h) hO hZ FO.rfl' hC
set_option maxHeartbeats 2000000 in
theorem w_rain {i : Int32} (hst : Z.1.stackTraces = false) (hd : 60 ≤ d) (hZ : Z.2.2.2.2.2.1 ∉ q_L S) (hC : CI Z ρ S x gh M) (hO : oR ρ S r 100) (hIV : IV c M) (hJV : JV M) (hc : c ≤ 511) (hmc : 170 + 5 * (lvl (jnM (o_rain M (q_aJ S r 0) i).2.2) - lvl (jnM M)) ≤ mc) (hms : 6060 + 60000 * (lvl (jnM (o_rain M (q_aJ S r 0) i).2.2) - lvl (jnM M)) ≤ ms)
    (H : okW Z ρ S x r QR (o_rain M (q_aJ S r 0) i)) : tk_MW Z mL_rain hL_rain d mc ms [.ref x, .int i] S QR := by
  refine M_L_rain (Nat.le_of_ble_eq_true rfl) (fun E hE => hE _ _ _ _ _ ?_)
  show t_L_rain_0 Z d mc ms QR E [some (.ref x), some (.int i), none] [] S 0 0
  have hx := hC.1.1
  have hk := hC.1.2.1
  simp -implicitDefEqProofs [t_L_rain_0, i_aload, i_iload, i_lload, i_istore, i_lstore, i_astore, i_iinc, i_push, i_getI, i_getJ, i_getR, i_putI, i_putJ, i_putR, i_iadd, i_isub, i_imul, i_iand, i_ior, i_ixor, i_ishl, i_ishr, i_iushr, i_idiv, i_irem, i_ladd, i_lsub, i_lmul, i_land, i_lor, i_lxor, i_ldiv, i_lrem, i_lshl, i_lshr, i_lcmp, i_ineg, i_lneg, i_i2l, i_l2i, i_i2b, i_i2c, i_dup, i_pop, i_dup_x1, i_dup2, i_icmp_eq, i_icmp_lt, i_icmp_ge, i_icmp_gt, i_icmp_le, i_if_eq, i_if_lt, i_if_ge, i_if_gt, i_if_le, i_goto, i_ifnull, i_iald, i_bald, i_zald, i_lald, i_aald, i_iast, i_bast, i_zast, i_last, i_alen, i_iret, i_lret, i_aret, i_vret, i_oinit, i_cast, i_tsw, i_cases, i_mmin, i_mmax, i_lmin, i_throw, nb0, nb1, nint, nby0, rf_s, rf_n, of_r, of_n, tk_orf_rf, tk_c2, tk_ls, Value.category, tk_isR_ref, tk_isR_rf, tk_isR_null]
  refine ⟨by simp, hx, hk, by simp [Value.category], d - 1, mc, ms, by omega, by omega, by omega, tk_M.out (c_rain hst (by omega) hZ hC (by omega) (by omega) (fun h1 => ?_) (fun j hj hi => ?_))⟩
  · exact thr0 (fun q => by
      simp -implicitDefEqProofs [i_aload, i_iload, i_lload, i_istore, i_lstore, i_astore, i_iinc, i_push, i_getI, i_getJ, i_getR, i_putI, i_putJ, i_putR, i_iadd, i_isub, i_imul, i_iand, i_ior, i_ixor, i_ishl, i_ishr, i_iushr, i_idiv, i_irem, i_ladd, i_lsub, i_lmul, i_land, i_lor, i_lxor, i_ldiv, i_lrem, i_lshl, i_lshr, i_lcmp, i_ineg, i_lneg, i_i2l, i_l2i, i_i2b, i_i2c, i_dup, i_pop, i_dup_x1, i_dup2, i_icmp_eq, i_icmp_lt, i_icmp_ge, i_icmp_gt, i_icmp_le, i_if_eq, i_if_lt, i_if_ge, i_if_gt, i_if_le, i_goto, i_ifnull, i_iald, i_bald, i_zald, i_lald, i_aald, i_iast, i_bast, i_zast, i_last, i_alen, i_iret, i_lret, i_aret, i_vret, i_oinit, i_cast, i_tsw, i_cases, i_mmin, i_mmax, i_lmin, i_throw, nb0, nb1, nint, nby0, rf_s, rf_n, of_r, of_n, tk_orf_rf, tk_c2, tk_ls, Value.category, tk_isR_ref, tk_isR_rf, tk_isR_null]
      exact okW.thr (by have h := H; unfold o_rain at h; rw [if_pos h1] at h; exact h) (by decide) hC hO hZ)
  · subst hi
    intro S' ρ' gh' hF hC' hZ'
    simp -implicitDefEqProofs [i_aload, i_iload, i_lload, i_istore, i_lstore, i_astore, i_iinc, i_push, i_getI, i_getJ, i_getR, i_putI, i_putJ, i_putR, i_iadd, i_isub, i_imul, i_iand, i_ior, i_ixor, i_ishl, i_ishr, i_iushr, i_idiv, i_irem, i_ladd, i_lsub, i_lmul, i_land, i_lor, i_lxor, i_ldiv, i_lrem, i_lshl, i_lshr, i_lcmp, i_ineg, i_lneg, i_i2l, i_l2i, i_i2b, i_i2c, i_dup, i_pop, i_dup_x1, i_dup2, i_icmp_eq, i_icmp_lt, i_icmp_ge, i_icmp_gt, i_icmp_le, i_if_eq, i_if_lt, i_if_ge, i_if_gt, i_if_le, i_goto, i_ifnull, i_iald, i_bald, i_zald, i_lald, i_aald, i_iast, i_bast, i_zast, i_last, i_alen, i_iret, i_lret, i_aret, i_vret, i_oinit, i_cast, i_tsw, i_cases, i_mmin, i_mmax, i_lmin, i_throw, nb0, nb1, nint, nby0, rf_s, rf_n, of_r, of_n, tk_orf_rf, tk_c2, tk_ls, Value.category, tk_isR_ref, tk_isR_rf, tk_isR_null]
    exact okW.void (by have h := H; unfold o_rain at h; rw [if_neg (fun z => z ⟨nI_pos' (by omega), (nI_leI (b := 1000) (by omega) (by omega)).mpr hj⟩), nI_clamp (n := j) (by omega)] at h; exact h) rfl hO hZ' hF hC'
end WRAPS

/-! THE REFERENCE: act, again: room is asked for where the text is read -/
section RA2
variable {Z : tk_Z} {d mc ms : Nat} {QR : tk_R} {m : Nat} {B : bS} {V V1 V2 : vR} {ρ : Nat → Nat} {S : tk_S} {R : Nat → Nat}
set_option maxRecDepth 100000 in
set_option maxHeartbeats 16000000 in
theorem r_act2 {n0 day : Int32} {hw cl k tn : Nat} {acts : List pA} (hd : 46 ≤ d) (hR : RS B m ρ S (rLk (cp 400 hw) cl) R V) (hA : actsV V acts k) (hk : k ≤ hw) (hhw : hw ≤ 12000) (hk2 : k ≤ 12 * 700) (htn : vI V 2 = nI tn) (htn2 : tn ≤ 2000)
    (hmc : ∀ n, n ≤ tn → n0 = nI n → (0 ≤ day ∧ day ≤ 9999) → acts.length < 12 → 2 * gS hw (k + jA (pActs (vA V 1) n 2000 0 (tkStart (vA V 1) n 0))) ≤ mc) (hms : ∀ n, n ≤ tn → n0 = nI n → (0 ≤ day ∧ day ≤ 9999) → acts.length < 12 → 30000 * gS hw (k + jA (pActs (vA V 1) n 2000 0 (tkStart (vA V 1) n 0))) ≤ ms)
    (H1 : ¬ ((0 ≤ n0 ∧ n0 ≤ nI tn) ∧ (0 ≤ day ∧ day ≤ 9999)) → okV B m (rLk (cp 400 hw) cl) QR (some (.int 0)) (wI (wI V 0 0) 0 1))
    (H2 : ((0 ≤ n0 ∧ n0 ≤ nI tn) ∧ (0 ≤ day ∧ day ≤ 9999)) → acts.length = 12 → okV B m (rLk (cp 400 hw) cl) QR (some (.int 0)) (wI (wI V 0 0) 0 2))
    (H0 : ∀ n, n ≤ tn → n0 = nI n → (0 ≤ day ∧ day ≤ 9999) → acts.length < 12 → actQ B m cl hw k QR V acts day (jA (pActs (vA V 1) n 2000 0 (tkStart (vA V 1) n 0))) (pActs (vA V 1) n 2000 0 (tkStart (vA V 1) n 0))) : tk_M Z mX12_act d mc ms [.ref m, .int n0, .int day] S QR tk_noX := by
  refine M_X12_act (Nat.le_of_ble_eq_true rfl) (fun E hE => hE.1 _ _ _ _ _ ?_)
  show t_X12_act_0 Z d mc ms QR E [some (.ref m), some (.int n0), some (.int day), none, none] [] S 0 0
  obtain ⟨h1, h2, h3⟩ := id hR.1.1
  have hI := hR.2.1.1
  have hO1 : rO ρ (s_I S 13 0 m 0) m := ⟨h1, h2, h3⟩
  have h2n := (hI 2).trans htn
  have h18 := (hI 18).trans hA.1
  have h17 := (hI 17).trans hA.2.2.1
  have h12 := hA.2.1
  have z12 : nI acts.length = 12 ↔ acts.length = 12 := nI_eq (b := 12) (by omega) (by omega)
  -- bad arguments
  have bad : ¬ ((0 ≤ n0 ∧ n0 ≤ nI tn) ∧ (0 ≤ day ∧ day ≤ 9999)) → E 34 [some (.ref m), some (.int n0), some (.int day), none, none] [.int 1, .ref m] (s_I S 13 0 m 0) 0 0 := fun w => by
    refine hE.2.1 _ _ _ _ _ ?_
    simp -implicitDefEqProofs [t_X12_act_34, i_aload, i_iload, i_lload, i_istore, i_lstore, i_astore, i_iinc, i_push, i_getI, i_getJ, i_getR, i_putI, i_putJ, i_putR, i_iadd, i_isub, i_imul, i_iand, i_ior, i_ixor, i_ishl, i_ishr, i_iushr, i_idiv, i_irem, i_ladd, i_lsub, i_lmul, i_land, i_lor, i_lxor, i_ldiv, i_lrem, i_lshl, i_lshr, i_lcmp, i_ineg, i_lneg, i_i2l, i_l2i, i_i2b, i_i2c, i_dup, i_pop, i_dup_x1, i_dup2, i_icmp_eq, i_icmp_lt, i_icmp_ge, i_icmp_gt, i_icmp_le, i_if_eq, i_if_lt, i_if_ge, i_if_gt, i_if_le, i_goto, i_ifnull, i_iald, i_bald, i_zald, i_lald, i_aald, i_iast, i_bast, i_zast, i_last, i_alen, i_iret, i_lret, i_aret, i_vret, i_oinit, i_cast, i_tsw, i_cases, i_mmin, i_mmax, i_lmin, i_throw, nb0, nb1, nint, nby0, rf_s, rf_n, of_r, of_n, tk_orf_rf, tk_c2, tk_ls, Value.category, tk_isR_ref, tk_isR_rf, tk_isR_null, z_q_L_s_I, z_q_K_s_I, z_q_I_s_I, z_q_J_s_I, z_q_R_s_I, z_q_n_s_I, z_q_aI_s_I, z_q_aJ_s_I, z_q_aR_s_I, z_q_L_s_J, z_q_K_s_J, z_q_I_s_J, z_q_J_s_J, z_q_R_s_J, z_q_n_s_J, z_q_aI_s_J, z_q_aJ_s_J, z_q_aR_s_J, z_q_L_s_R, z_q_K_s_R, z_q_I_s_R, z_q_J_s_R, z_q_R_s_R, z_q_n_s_R, z_q_aI_s_R, z_q_aJ_s_R, z_q_aR_s_R, z_q_L_s_aI, z_q_K_s_aI, z_q_I_s_aI, z_q_J_s_aI, z_q_R_s_aI, z_q_n_s_aI, z_q_aI_s_aI, z_q_aJ_s_aI, z_q_aR_s_aI, z_q_L_s_aJ, z_q_K_s_aJ, z_q_I_s_aJ, z_q_J_s_aJ, z_q_R_s_aJ, z_q_n_s_aJ, z_q_aI_s_aJ, z_q_aJ_s_aJ, z_q_aR_s_aJ, z_q_L_s_aR, z_q_K_s_aR, z_q_I_s_aR, z_q_J_s_aR, z_q_R_s_aR, z_q_n_s_aR, z_q_aI_s_aR, z_q_aJ_s_aR, z_q_aR_s_aR, z_q_L_s_new, z_q_K_s_new, z_q_I_s_new, z_q_J_s_new, z_q_R_s_new, z_q_n_s_new, z_q_aI_s_new, z_q_aJ_s_new, z_q_aR_s_new, z_q_L_s_arr, z_q_K_s_arr, z_q_I_s_arr, z_q_J_s_arr, z_q_R_s_arr, z_q_n_s_arr, z_q_aI_s_arr, z_q_aJ_s_arr, z_q_aR_s_arr, h1, h2]
    refine ⟨by simp, h1, h2, by simp [Value.category], 0, 0, 0, by omega, by omega, by omega, ?_⟩
    refine r_badT hO1 ?_
    simp -implicitDefEqProofs [i_aload, i_iload, i_lload, i_istore, i_lstore, i_astore, i_iinc, i_push, i_getI, i_getJ, i_getR, i_putI, i_putJ, i_putR, i_iadd, i_isub, i_imul, i_iand, i_ior, i_ixor, i_ishl, i_ishr, i_iushr, i_idiv, i_irem, i_ladd, i_lsub, i_lmul, i_land, i_lor, i_lxor, i_ldiv, i_lrem, i_lshl, i_lshr, i_lcmp, i_ineg, i_lneg, i_i2l, i_l2i, i_i2b, i_i2c, i_dup, i_pop, i_dup_x1, i_dup2, i_icmp_eq, i_icmp_lt, i_icmp_ge, i_icmp_gt, i_icmp_le, i_if_eq, i_if_lt, i_if_ge, i_if_gt, i_if_le, i_goto, i_ifnull, i_iald, i_bald, i_zald, i_lald, i_aald, i_iast, i_bast, i_zast, i_last, i_alen, i_iret, i_lret, i_aret, i_vret, i_oinit, i_cast, i_tsw, i_cases, i_mmin, i_mmax, i_lmin, i_throw, nb0, nb1, nint, nby0, rf_s, rf_n, of_r, of_n, tk_orf_rf, tk_c2, tk_ls, Value.category, tk_isR_ref, tk_isR_rf, tk_isR_null, z_q_L_s_I, z_q_K_s_I, z_q_I_s_I, z_q_J_s_I, z_q_R_s_I, z_q_n_s_I, z_q_aI_s_I, z_q_aJ_s_I, z_q_aR_s_I, z_q_L_s_J, z_q_K_s_J, z_q_I_s_J, z_q_J_s_J, z_q_R_s_J, z_q_n_s_J, z_q_aI_s_J, z_q_aJ_s_J, z_q_aR_s_J, z_q_L_s_R, z_q_K_s_R, z_q_I_s_R, z_q_J_s_R, z_q_R_s_R, z_q_n_s_R, z_q_aI_s_R, z_q_aJ_s_R, z_q_aR_s_R, z_q_L_s_aI, z_q_K_s_aI, z_q_I_s_aI, z_q_J_s_aI, z_q_R_s_aI, z_q_n_s_aI, z_q_aI_s_aI, z_q_aJ_s_aI, z_q_aR_s_aI, z_q_L_s_aJ, z_q_K_s_aJ, z_q_I_s_aJ, z_q_J_s_aJ, z_q_R_s_aJ, z_q_n_s_aJ, z_q_aI_s_aJ, z_q_aJ_s_aJ, z_q_aR_s_aJ, z_q_L_s_aR, z_q_K_s_aR, z_q_I_s_aR, z_q_J_s_aR, z_q_R_s_aR, z_q_n_s_aR, z_q_aI_s_aR, z_q_aJ_s_aR, z_q_aR_s_aR, z_q_L_s_new, z_q_K_s_new, z_q_I_s_new, z_q_J_s_new, z_q_R_s_new, z_q_n_s_new, z_q_aI_s_new, z_q_aJ_s_new, z_q_aR_s_new, z_q_L_s_arr, z_q_K_s_arr, z_q_I_s_arr, z_q_J_s_arr, z_q_R_s_arr, z_q_n_s_arr, z_q_aI_s_arr, z_q_aJ_s_arr, z_q_aR_s_arr]
    exact H1 w _ _ _ ((hR.iI 0 0).iI 0 1)
  have good : ∀ n, n ≤ tn → n0 = nI n → (0 ≤ day ∧ day ≤ 9999) → E 34 [some (.ref m), some (.int n0), some (.int day), none, none] [.int 0, .ref m] (s_I S 13 0 m 0) 0 0 := by
    intro n hn hn0 hday
    have hin : (0 ≤ n0 ∧ n0 ≤ nI tn) := by rw [hn0]; exact ⟨nI_pos' (by omega), nI_le hn (by omega)⟩
    refine hE.2.1 _ _ _ _ _ ?_
    simp -implicitDefEqProofs [t_X12_act_34, i_aload, i_iload, i_lload, i_istore, i_lstore, i_astore, i_iinc, i_push, i_getI, i_getJ, i_getR, i_putI, i_putJ, i_putR, i_iadd, i_isub, i_imul, i_iand, i_ior, i_ixor, i_ishl, i_ishr, i_iushr, i_idiv, i_irem, i_ladd, i_lsub, i_lmul, i_land, i_lor, i_lxor, i_ldiv, i_lrem, i_lshl, i_lshr, i_lcmp, i_ineg, i_lneg, i_i2l, i_l2i, i_i2b, i_i2c, i_dup, i_pop, i_dup_x1, i_dup2, i_icmp_eq, i_icmp_lt, i_icmp_ge, i_icmp_gt, i_icmp_le, i_if_eq, i_if_lt, i_if_ge, i_if_gt, i_if_le, i_goto, i_ifnull, i_iald, i_bald, i_zald, i_lald, i_aald, i_iast, i_bast, i_zast, i_last, i_alen, i_iret, i_lret, i_aret, i_vret, i_oinit, i_cast, i_tsw, i_cases, i_mmin, i_mmax, i_lmin, i_throw, nb0, nb1, nint, nby0, rf_s, rf_n, of_r, of_n, tk_orf_rf, tk_c2, tk_ls, Value.category, tk_isR_ref, tk_isR_rf, tk_isR_null, z_q_L_s_I, z_q_K_s_I, z_q_I_s_I, z_q_J_s_I, z_q_R_s_I, z_q_n_s_I, z_q_aI_s_I, z_q_aJ_s_I, z_q_aR_s_I, z_q_L_s_J, z_q_K_s_J, z_q_I_s_J, z_q_J_s_J, z_q_R_s_J, z_q_n_s_J, z_q_aI_s_J, z_q_aJ_s_J, z_q_aR_s_J, z_q_L_s_R, z_q_K_s_R, z_q_I_s_R, z_q_J_s_R, z_q_R_s_R, z_q_n_s_R, z_q_aI_s_R, z_q_aJ_s_R, z_q_aR_s_R, z_q_L_s_aI, z_q_K_s_aI, z_q_I_s_aI, z_q_J_s_aI, z_q_R_s_aI, z_q_n_s_aI, z_q_aI_s_aI, z_q_aJ_s_aI, z_q_aR_s_aI, z_q_L_s_aJ, z_q_K_s_aJ, z_q_I_s_aJ, z_q_J_s_aJ, z_q_R_s_aJ, z_q_n_s_aJ, z_q_aI_s_aJ, z_q_aJ_s_aJ, z_q_aR_s_aJ, z_q_L_s_aR, z_q_K_s_aR, z_q_I_s_aR, z_q_J_s_aR, z_q_R_s_aR, z_q_n_s_aR, z_q_aI_s_aR, z_q_aJ_s_aR, z_q_aR_s_aR, z_q_L_s_new, z_q_K_s_new, z_q_I_s_new, z_q_J_s_new, z_q_R_s_new, z_q_n_s_new, z_q_aI_s_new, z_q_aJ_s_new, z_q_aR_s_new, z_q_L_s_arr, z_q_K_s_arr, z_q_I_s_arr, z_q_J_s_arr, z_q_R_s_arr, z_q_n_s_arr, z_q_aI_s_arr, z_q_aJ_s_arr, z_q_aR_s_arr, h1, h2]
    refine ⟨by simp, h1, h2, by simp [Value.category], 0, 0, 0, by omega, by omega, by omega, ?_⟩
    refine r_badF ?_
    simp -implicitDefEqProofs [i_aload, i_iload, i_lload, i_istore, i_lstore, i_astore, i_iinc, i_push, i_getI, i_getJ, i_getR, i_putI, i_putJ, i_putR, i_iadd, i_isub, i_imul, i_iand, i_ior, i_ixor, i_ishl, i_ishr, i_iushr, i_idiv, i_irem, i_ladd, i_lsub, i_lmul, i_land, i_lor, i_lxor, i_ldiv, i_lrem, i_lshl, i_lshr, i_lcmp, i_ineg, i_lneg, i_i2l, i_l2i, i_i2b, i_i2c, i_dup, i_pop, i_dup_x1, i_dup2, i_icmp_eq, i_icmp_lt, i_icmp_ge, i_icmp_gt, i_icmp_le, i_if_eq, i_if_lt, i_if_ge, i_if_gt, i_if_le, i_goto, i_ifnull, i_iald, i_bald, i_zald, i_lald, i_aald, i_iast, i_bast, i_zast, i_last, i_alen, i_iret, i_lret, i_aret, i_vret, i_oinit, i_cast, i_tsw, i_cases, i_mmin, i_mmax, i_lmin, i_throw, nb0, nb1, nint, nby0, rf_s, rf_n, of_r, of_n, tk_orf_rf, tk_c2, tk_ls, Value.category, tk_isR_ref, tk_isR_rf, tk_isR_null, z_q_L_s_I, z_q_K_s_I, z_q_I_s_I, z_q_J_s_I, z_q_R_s_I, z_q_n_s_I, z_q_aI_s_I, z_q_aJ_s_I, z_q_aR_s_I, z_q_L_s_J, z_q_K_s_J, z_q_I_s_J, z_q_J_s_J, z_q_R_s_J, z_q_n_s_J, z_q_aI_s_J, z_q_aJ_s_J, z_q_aR_s_J, z_q_L_s_R, z_q_K_s_R, z_q_I_s_R, z_q_J_s_R, z_q_R_s_R, z_q_n_s_R, z_q_aI_s_R, z_q_aJ_s_R, z_q_aR_s_R, z_q_L_s_aI, z_q_K_s_aI, z_q_I_s_aI, z_q_J_s_aI, z_q_R_s_aI, z_q_n_s_aI, z_q_aI_s_aI, z_q_aJ_s_aI, z_q_aR_s_aI, z_q_L_s_aJ, z_q_K_s_aJ, z_q_I_s_aJ, z_q_J_s_aJ, z_q_R_s_aJ, z_q_n_s_aJ, z_q_aI_s_aJ, z_q_aJ_s_aJ, z_q_aR_s_aJ, z_q_L_s_aR, z_q_K_s_aR, z_q_I_s_aR, z_q_J_s_aR, z_q_R_s_aR, z_q_n_s_aR, z_q_aI_s_aR, z_q_aJ_s_aR, z_q_aR_s_aR, z_q_L_s_new, z_q_K_s_new, z_q_I_s_new, z_q_J_s_new, z_q_R_s_new, z_q_n_s_new, z_q_aI_s_new, z_q_aJ_s_new, z_q_aR_s_new, z_q_L_s_arr, z_q_K_s_arr, z_q_I_s_arr, z_q_J_s_arr, z_q_R_s_arr, z_q_n_s_arr, z_q_aI_s_arr, z_q_aJ_s_arr, z_q_aR_s_arr, h1, h2, h18]
    refine ⟨fun z => ?_, fun z => ?_⟩
    · refine hE.2.2.1 _ _ _ _ _ ?_
      simp -implicitDefEqProofs [t_X12_act_56, i_aload, i_iload, i_lload, i_istore, i_lstore, i_astore, i_iinc, i_push, i_getI, i_getJ, i_getR, i_putI, i_putJ, i_putR, i_iadd, i_isub, i_imul, i_iand, i_ior, i_ixor, i_ishl, i_ishr, i_iushr, i_idiv, i_irem, i_ladd, i_lsub, i_lmul, i_land, i_lor, i_lxor, i_ldiv, i_lrem, i_lshl, i_lshr, i_lcmp, i_ineg, i_lneg, i_i2l, i_l2i, i_i2b, i_i2c, i_dup, i_pop, i_dup_x1, i_dup2, i_icmp_eq, i_icmp_lt, i_icmp_ge, i_icmp_gt, i_icmp_le, i_if_eq, i_if_lt, i_if_ge, i_if_gt, i_if_le, i_goto, i_ifnull, i_iald, i_bald, i_zald, i_lald, i_aald, i_iast, i_bast, i_zast, i_last, i_alen, i_iret, i_lret, i_aret, i_vret, i_oinit, i_cast, i_tsw, i_cases, i_mmin, i_mmax, i_lmin, i_throw, nb0, nb1, nint, nby0, rf_s, rf_n, of_r, of_n, tk_orf_rf, tk_c2, tk_ls, Value.category, tk_isR_ref, tk_isR_rf, tk_isR_null, z_q_L_s_I, z_q_K_s_I, z_q_I_s_I, z_q_J_s_I, z_q_R_s_I, z_q_n_s_I, z_q_aI_s_I, z_q_aJ_s_I, z_q_aR_s_I, z_q_L_s_J, z_q_K_s_J, z_q_I_s_J, z_q_J_s_J, z_q_R_s_J, z_q_n_s_J, z_q_aI_s_J, z_q_aJ_s_J, z_q_aR_s_J, z_q_L_s_R, z_q_K_s_R, z_q_I_s_R, z_q_J_s_R, z_q_R_s_R, z_q_n_s_R, z_q_aI_s_R, z_q_aJ_s_R, z_q_aR_s_R, z_q_L_s_aI, z_q_K_s_aI, z_q_I_s_aI, z_q_J_s_aI, z_q_R_s_aI, z_q_n_s_aI, z_q_aI_s_aI, z_q_aJ_s_aI, z_q_aR_s_aI, z_q_L_s_aJ, z_q_K_s_aJ, z_q_I_s_aJ, z_q_J_s_aJ, z_q_R_s_aJ, z_q_n_s_aJ, z_q_aI_s_aJ, z_q_aJ_s_aJ, z_q_aR_s_aJ, z_q_L_s_aR, z_q_K_s_aR, z_q_I_s_aR, z_q_J_s_aR, z_q_R_s_aR, z_q_n_s_aR, z_q_aI_s_aR, z_q_aJ_s_aR, z_q_aR_s_aR, z_q_L_s_new, z_q_K_s_new, z_q_I_s_new, z_q_J_s_new, z_q_R_s_new, z_q_n_s_new, z_q_aI_s_new, z_q_aJ_s_new, z_q_aR_s_new, z_q_L_s_arr, z_q_K_s_arr, z_q_I_s_arr, z_q_J_s_arr, z_q_R_s_arr, z_q_n_s_arr, z_q_aI_s_arr, z_q_aJ_s_arr, z_q_aR_s_arr, h1, h2]
      refine ⟨by simp, h1, h2, by simp [Value.category], 0, 0, 0, by omega, by omega, by omega, ?_⟩
      refine r_badT hO1 ?_
      simp -implicitDefEqProofs [i_aload, i_iload, i_lload, i_istore, i_lstore, i_astore, i_iinc, i_push, i_getI, i_getJ, i_getR, i_putI, i_putJ, i_putR, i_iadd, i_isub, i_imul, i_iand, i_ior, i_ixor, i_ishl, i_ishr, i_iushr, i_idiv, i_irem, i_ladd, i_lsub, i_lmul, i_land, i_lor, i_lxor, i_ldiv, i_lrem, i_lshl, i_lshr, i_lcmp, i_ineg, i_lneg, i_i2l, i_l2i, i_i2b, i_i2c, i_dup, i_pop, i_dup_x1, i_dup2, i_icmp_eq, i_icmp_lt, i_icmp_ge, i_icmp_gt, i_icmp_le, i_if_eq, i_if_lt, i_if_ge, i_if_gt, i_if_le, i_goto, i_ifnull, i_iald, i_bald, i_zald, i_lald, i_aald, i_iast, i_bast, i_zast, i_last, i_alen, i_iret, i_lret, i_aret, i_vret, i_oinit, i_cast, i_tsw, i_cases, i_mmin, i_mmax, i_lmin, i_throw, nb0, nb1, nint, nby0, rf_s, rf_n, of_r, of_n, tk_orf_rf, tk_c2, tk_ls, Value.category, tk_isR_ref, tk_isR_rf, tk_isR_null, z_q_L_s_I, z_q_K_s_I, z_q_I_s_I, z_q_J_s_I, z_q_R_s_I, z_q_n_s_I, z_q_aI_s_I, z_q_aJ_s_I, z_q_aR_s_I, z_q_L_s_J, z_q_K_s_J, z_q_I_s_J, z_q_J_s_J, z_q_R_s_J, z_q_n_s_J, z_q_aI_s_J, z_q_aJ_s_J, z_q_aR_s_J, z_q_L_s_R, z_q_K_s_R, z_q_I_s_R, z_q_J_s_R, z_q_R_s_R, z_q_n_s_R, z_q_aI_s_R, z_q_aJ_s_R, z_q_aR_s_R, z_q_L_s_aI, z_q_K_s_aI, z_q_I_s_aI, z_q_J_s_aI, z_q_R_s_aI, z_q_n_s_aI, z_q_aI_s_aI, z_q_aJ_s_aI, z_q_aR_s_aI, z_q_L_s_aJ, z_q_K_s_aJ, z_q_I_s_aJ, z_q_J_s_aJ, z_q_R_s_aJ, z_q_n_s_aJ, z_q_aI_s_aJ, z_q_aJ_s_aJ, z_q_aR_s_aJ, z_q_L_s_aR, z_q_K_s_aR, z_q_I_s_aR, z_q_J_s_aR, z_q_R_s_aR, z_q_n_s_aR, z_q_aI_s_aR, z_q_aJ_s_aR, z_q_aR_s_aR, z_q_L_s_new, z_q_K_s_new, z_q_I_s_new, z_q_J_s_new, z_q_R_s_new, z_q_n_s_new, z_q_aI_s_new, z_q_aJ_s_new, z_q_aR_s_new, z_q_L_s_arr, z_q_K_s_arr, z_q_I_s_arr, z_q_J_s_arr, z_q_R_s_arr, z_q_n_s_arr, z_q_aI_s_arr, z_q_aJ_s_arr, z_q_aR_s_arr]
      exact H2 ⟨hin, hday⟩ (z12.mp z) _ _ _ ((hR.iI 0 0).iI 0 2)
    have hlt : acts.length < 12 := by
      have : acts.length ≠ 12 := fun q => z (z12.mpr q)
      omega
    replace H0 := H0 n hn hn0 hday hlt
    replace hmc := hmc n hn hn0 hday hlt
    replace hms := hms n hn hn0 hday hlt
    subst hn0
    generalize hgg : vA V 1 = g at *
    have hs0 := tkStart_le g (Nat.zero_le n)
    have hjA := pActs_jA g 2000 0 _ hs0.2
    generalize hrt : pActs g n 2000 0 (tkStart g n 0) = rt at *
    have hR0 := ((((((hR.iI 0 0).iI 3 (nI n)).iI 2 0).iI 4 0).iI 5 0).iI 6 (-1))
    generalize hV0 : (wI (wI (wI (wI (wI (wI V 0 0) 3 (nI n)) 2 0) 4 0) 5 0) 6 (-1)) = V0 at *
    have v3 : vI V0 3 = nI n := by rw [← hV0]; simp -implicitDefEqProofs [vI_wI]
    have v1 : vA V0 1 = g := by rw [← hV0]; exact hgg
    have v6 : vI V0 6 = -1 := by rw [← hV0]; simp -implicitDefEqProofs [vI_wI]
    have v2 : vI V0 2 = 0 := by rw [← hV0]; simp -implicitDefEqProofs [vI_wI]
    have v0 : vI V0 0 = 0 := by rw [← hV0]; simp -implicitDefEqProofs [vI_wI]
    have v18 : vI V0 18 = nI acts.length := by rw [← hV0]; simp -implicitDefEqProofs [vI_wI]; exact hA.1
    have v17 : vI V0 17 = nI k := by rw [← hV0]; simp -implicitDefEqProofs [vI_wI]; exact hA.2.2.1
    have v5 : vI V0 5 = 0 := by rw [← hV0]; simp -implicitDefEqProofs [vI_wI]
    have hA0 : actsV V0 acts k := by
      refine ⟨v18, h12, v17, ?_⟩
      rw [← hV0]
      exact hA.2.2.2
    have hF0 : aF V V0 := by
      rw [← hV0]
      refine ⟨fun i i1 i2 i3 => ?_, rfl, fun i hi => rfl, rfl⟩
      have e1 : i ≠ 0 := by omega
      have e2 : i ≠ 3 := by omega
      have e3 : i ≠ 2 := by omega
      have e4 : i ≠ 4 := by omega
      have e5 : i ≠ 5 := by omega
      have e6 : i ≠ 6 := by omega
      simp -implicitDefEqProofs [vI_wI, e1, e2, e3, e4, e5, e6]
    have aFq : ∀ V1, qlA V0 V1 k (40 * acts.length) → aF V V1 := fun V1 hq => ⟨fun i i1 i2 i3 => (hq.1 i (by omega) (by omega) (by omega) (by omega) i2).trans (hF0.1 i i1 i2 i3), hq.2.1.trans hF0.2.1, fun i hi => (hq.2.2.1 i (by omega)).trans (hF0.2.2.1 i hi), hq.2.2.2.1.trans hF0.2.2.2⟩
    -- the end behind a fault
    have endF : ∀ ρ S R V1 kd pl j many cs ss, RS B m ρ S (rLk (cp 400 (max hw (k + j))) cl) R V1 → qlA V0 V1 k (40 * acts.length) → vI V1 5 = kd → vI V1 6 = nI pl → rt = .inr (kd, pl, j) → cs ≤ mc → ss ≤ ms → E 102 [some (.ref m), some (.int (nI n)), some (.int day), some (.int (nI k)), some (.int many)] [] S cs ss := by
      intro ρ S R V1 kd pl j many cs ss hR hq h5 h6 hrt hcs hss
      refine hE.2.2.2.1 _ _ _ _ _ ?_
      obtain ⟨u1, u2, u3⟩ := hR.1.1
      have hI := hR.2.1.1
      have hkd := (hjA.2 kd pl j hrt).1
      have hne : ¬ kd = 0 := by rcases hkd with e | e | e <;> rw [e] <;> decide
      have hle : ¬ kd ≤ 0 := by rcases hkd with e | e | e <;> rw [e] <;> decide
      simp -implicitDefEqProofs [t_X12_act_102, i_aload, i_iload, i_lload, i_istore, i_lstore, i_astore, i_iinc, i_push, i_getI, i_getJ, i_getR, i_putI, i_putJ, i_putR, i_iadd, i_isub, i_imul, i_iand, i_ior, i_ixor, i_ishl, i_ishr, i_iushr, i_idiv, i_irem, i_ladd, i_lsub, i_lmul, i_land, i_lor, i_lxor, i_ldiv, i_lrem, i_lshl, i_lshr, i_lcmp, i_ineg, i_lneg, i_i2l, i_l2i, i_i2b, i_i2c, i_dup, i_pop, i_dup_x1, i_dup2, i_icmp_eq, i_icmp_lt, i_icmp_ge, i_icmp_gt, i_icmp_le, i_if_eq, i_if_lt, i_if_ge, i_if_gt, i_if_le, i_goto, i_ifnull, i_iald, i_bald, i_zald, i_lald, i_aald, i_iast, i_bast, i_zast, i_last, i_alen, i_iret, i_lret, i_aret, i_vret, i_oinit, i_cast, i_tsw, i_cases, i_mmin, i_mmax, i_lmin, i_throw, nb0, nb1, nint, nby0, rf_s, rf_n, of_r, of_n, tk_orf_rf, tk_c2, tk_ls, Value.category, tk_isR_ref, tk_isR_rf, tk_isR_null, z_q_L_s_I, z_q_K_s_I, z_q_I_s_I, z_q_J_s_I, z_q_R_s_I, z_q_n_s_I, z_q_aI_s_I, z_q_aJ_s_I, z_q_aR_s_I, z_q_L_s_J, z_q_K_s_J, z_q_I_s_J, z_q_J_s_J, z_q_R_s_J, z_q_n_s_J, z_q_aI_s_J, z_q_aJ_s_J, z_q_aR_s_J, z_q_L_s_R, z_q_K_s_R, z_q_I_s_R, z_q_J_s_R, z_q_R_s_R, z_q_n_s_R, z_q_aI_s_R, z_q_aJ_s_R, z_q_aR_s_R, z_q_L_s_aI, z_q_K_s_aI, z_q_I_s_aI, z_q_J_s_aI, z_q_R_s_aI, z_q_n_s_aI, z_q_aI_s_aI, z_q_aJ_s_aI, z_q_aR_s_aI, z_q_L_s_aJ, z_q_K_s_aJ, z_q_I_s_aJ, z_q_J_s_aJ, z_q_R_s_aJ, z_q_n_s_aJ, z_q_aI_s_aJ, z_q_aJ_s_aJ, z_q_aR_s_aJ, z_q_L_s_aR, z_q_K_s_aR, z_q_I_s_aR, z_q_J_s_aR, z_q_R_s_aR, z_q_n_s_aR, z_q_aI_s_aR, z_q_aJ_s_aR, z_q_aR_s_aR, z_q_L_s_new, z_q_K_s_new, z_q_I_s_new, z_q_J_s_new, z_q_R_s_new, z_q_n_s_new, z_q_aI_s_new, z_q_aJ_s_new, z_q_aR_s_new, z_q_L_s_arr, z_q_K_s_arr, z_q_I_s_arr, z_q_J_s_arr, z_q_R_s_arr, z_q_n_s_arr, z_q_aI_s_arr, z_q_aJ_s_arr, z_q_aR_s_arr, u1, u2, hI, h5, hne]
      refine hE.2.2.2.2 _ _ _ _ _ ?_
      simp -implicitDefEqProofs [t_X12_act_136, i_aload, i_iload, i_lload, i_istore, i_lstore, i_astore, i_iinc, i_push, i_getI, i_getJ, i_getR, i_putI, i_putJ, i_putR, i_iadd, i_isub, i_imul, i_iand, i_ior, i_ixor, i_ishl, i_ishr, i_iushr, i_idiv, i_irem, i_ladd, i_lsub, i_lmul, i_land, i_lor, i_lxor, i_ldiv, i_lrem, i_lshl, i_lshr, i_lcmp, i_ineg, i_lneg, i_i2l, i_l2i, i_i2b, i_i2c, i_dup, i_pop, i_dup_x1, i_dup2, i_icmp_eq, i_icmp_lt, i_icmp_ge, i_icmp_gt, i_icmp_le, i_if_eq, i_if_lt, i_if_ge, i_if_gt, i_if_le, i_goto, i_ifnull, i_iald, i_bald, i_zald, i_lald, i_aald, i_iast, i_bast, i_zast, i_last, i_alen, i_iret, i_lret, i_aret, i_vret, i_oinit, i_cast, i_tsw, i_cases, i_mmin, i_mmax, i_lmin, i_throw, nb0, nb1, nint, nby0, rf_s, rf_n, of_r, of_n, tk_orf_rf, tk_c2, tk_ls, Value.category, tk_isR_ref, tk_isR_rf, tk_isR_null, z_q_L_s_I, z_q_K_s_I, z_q_I_s_I, z_q_J_s_I, z_q_R_s_I, z_q_n_s_I, z_q_aI_s_I, z_q_aJ_s_I, z_q_aR_s_I, z_q_L_s_J, z_q_K_s_J, z_q_I_s_J, z_q_J_s_J, z_q_R_s_J, z_q_n_s_J, z_q_aI_s_J, z_q_aJ_s_J, z_q_aR_s_J, z_q_L_s_R, z_q_K_s_R, z_q_I_s_R, z_q_J_s_R, z_q_R_s_R, z_q_n_s_R, z_q_aI_s_R, z_q_aJ_s_R, z_q_aR_s_R, z_q_L_s_aI, z_q_K_s_aI, z_q_I_s_aI, z_q_J_s_aI, z_q_R_s_aI, z_q_n_s_aI, z_q_aI_s_aI, z_q_aJ_s_aI, z_q_aR_s_aI, z_q_L_s_aJ, z_q_K_s_aJ, z_q_I_s_aJ, z_q_J_s_aJ, z_q_R_s_aJ, z_q_n_s_aJ, z_q_aI_s_aJ, z_q_aJ_s_aJ, z_q_aR_s_aJ, z_q_L_s_aR, z_q_K_s_aR, z_q_I_s_aR, z_q_J_s_aR, z_q_R_s_aR, z_q_n_s_aR, z_q_aI_s_aR, z_q_aJ_s_aR, z_q_aR_s_aR, z_q_L_s_new, z_q_K_s_new, z_q_I_s_new, z_q_J_s_new, z_q_R_s_new, z_q_n_s_new, z_q_aI_s_new, z_q_aJ_s_new, z_q_aR_s_new, z_q_L_s_arr, z_q_K_s_arr, z_q_I_s_arr, z_q_J_s_arr, z_q_R_s_arr, z_q_n_s_arr, z_q_aI_s_arr, z_q_aJ_s_arr, z_q_aR_s_arr, u1, u2, hI, h5, hle]
      refine ⟨hcs, hss, ?_⟩
      rw [hrt] at H0
      refine H0 _ (aFq _ (hq.stepI (Or.inr (Or.inr (Or.inr (Or.inr rfl)))))) ?_ ?_ ?_ ?_ _ _ _ (hR.iI 17 _)
      · simp -implicitDefEqProofs [vI_wI]; exact (hq.1 0 (by decide) (by decide) (by decide) (by decide) (by decide)).trans v0
      · simp -implicitDefEqProofs [vI_wI]; exact (hq.1 2 (by decide) (by decide) (by decide) (by decide) (by decide)).trans v2
      · simp -implicitDefEqProofs [vI_wI]; exact h6
      · exact ⟨by simp -implicitDefEqProofs [vI_wI]; exact (hq.1 18 (by decide) (by decide) (by decide) (by decide) (by decide)).trans v18, h12, by simp -implicitDefEqProofs [vI_wI], actsV.frame (w := 0) hA0 (hq.stepI (Or.inr (Or.inr (Or.inr (Or.inr rfl)))))⟩
    have loop : ∀ f ps0 s1 k1 ρ S R V1, 2000 ≤ s1 + f → s1 ≤ n → vI V1 4 = nI s1 → tkStart g n s1 = s1 → vI V1 5 = 0 → vI V1 6 = -1 → vI V1 17 = nI k1 → k1 = k + stepsOf ps0 → ps0.length ≤ 40 → qlA V0 V1 k (40 * acts.length) → (∀ i p, ps0[i]? = some p → ∃ off, off + p.2.2.2.2.length ≤ k1 ∧ clIn V1 off (40 * acts.length + i) p) → RS B m ρ S (rLk (cp 400 (max hw k1)) cl) R V1 → rt = appA ps0 (stepsOf ps0) (pActs g n f ps0.length s1) → E 102 [some (.ref m), some (.int (nI n)), some (.int day), some (.int (nI k)), some (.int (nI ps0.length))] [] S (2 * gS hw k1) (30000 * gS hw k1) := by
      intro f
      -- at the text's end
      have stop : ∀ ps0 s1 k1 ρ S R V1, n ≤ s1 → s1 ≤ n → vI V1 4 = nI s1 → vI V1 5 = 0 → vI V1 6 = -1 → vI V1 17 = nI k1 → k1 = k + stepsOf ps0 → ps0.length ≤ 40 → qlA V0 V1 k (40 * acts.length) → (∀ i p, ps0[i]? = some p → ∃ off, off + p.2.2.2.2.length ≤ k1 ∧ clIn V1 off (40 * acts.length + i) p) → RS B m ρ S (rLk (cp 400 (max hw k1)) cl) R V1 → rt = .inl ps0 → E 102 [some (.ref m), some (.int (nI n)), some (.int day), some (.int (nI k)), some (.int (nI ps0.length))] [] S (2 * gS hw k1) (30000 * gS hw k1) := by
        intro ps0 s1 k1 ρ S R V1 hn1 hsn h4 h5 h6 h17 hk1 hps hq hin hR hre
        have hse : s1 = n := by omega
        subst hse
        refine hE.2.2.2.1 _ _ _ _ _ ?_
        obtain ⟨u1, u2, u3⟩ := hR.1.1
        have hI := hR.2.1.1
        have h3 : vI V1 3 = nI s1 := (hq.1 3 (by decide) (by decide) (by decide) (by decide) (by decide)).trans v3
        have h18' : vI V1 18 = nI acts.length := (hq.1 18 (by decide) (by decide) (by decide) (by decide) (by decide)).trans v18
        have z : nI s1 ≤ nI s1 := nI_le (Nat.le_refl _) (by omega)
        simp -implicitDefEqProofs [t_X12_act_102, i_aload, i_iload, i_lload, i_istore, i_lstore, i_astore, i_iinc, i_push, i_getI, i_getJ, i_getR, i_putI, i_putJ, i_putR, i_iadd, i_isub, i_imul, i_iand, i_ior, i_ixor, i_ishl, i_ishr, i_iushr, i_idiv, i_irem, i_ladd, i_lsub, i_lmul, i_land, i_lor, i_lxor, i_ldiv, i_lrem, i_lshl, i_lshr, i_lcmp, i_ineg, i_lneg, i_i2l, i_l2i, i_i2b, i_i2c, i_dup, i_pop, i_dup_x1, i_dup2, i_icmp_eq, i_icmp_lt, i_icmp_ge, i_icmp_gt, i_icmp_le, i_if_eq, i_if_lt, i_if_ge, i_if_gt, i_if_le, i_goto, i_ifnull, i_iald, i_bald, i_zald, i_lald, i_aald, i_iast, i_bast, i_zast, i_last, i_alen, i_iret, i_lret, i_aret, i_vret, i_oinit, i_cast, i_tsw, i_cases, i_mmin, i_mmax, i_lmin, i_throw, nb0, nb1, nint, nby0, rf_s, rf_n, of_r, of_n, tk_orf_rf, tk_c2, tk_ls, Value.category, tk_isR_ref, tk_isR_rf, tk_isR_null, z_q_L_s_I, z_q_K_s_I, z_q_I_s_I, z_q_J_s_I, z_q_R_s_I, z_q_n_s_I, z_q_aI_s_I, z_q_aJ_s_I, z_q_aR_s_I, z_q_L_s_J, z_q_K_s_J, z_q_I_s_J, z_q_J_s_J, z_q_R_s_J, z_q_n_s_J, z_q_aI_s_J, z_q_aJ_s_J, z_q_aR_s_J, z_q_L_s_R, z_q_K_s_R, z_q_I_s_R, z_q_J_s_R, z_q_R_s_R, z_q_n_s_R, z_q_aI_s_R, z_q_aJ_s_R, z_q_aR_s_R, z_q_L_s_aI, z_q_K_s_aI, z_q_I_s_aI, z_q_J_s_aI, z_q_R_s_aI, z_q_n_s_aI, z_q_aI_s_aI, z_q_aJ_s_aI, z_q_aR_s_aI, z_q_L_s_aJ, z_q_K_s_aJ, z_q_I_s_aJ, z_q_J_s_aJ, z_q_R_s_aJ, z_q_n_s_aJ, z_q_aI_s_aJ, z_q_aJ_s_aJ, z_q_aR_s_aJ, z_q_L_s_aR, z_q_K_s_aR, z_q_I_s_aR, z_q_J_s_aR, z_q_R_s_aR, z_q_n_s_aR, z_q_aI_s_aR, z_q_aJ_s_aR, z_q_aR_s_aR, z_q_L_s_new, z_q_K_s_new, z_q_I_s_new, z_q_J_s_new, z_q_R_s_new, z_q_n_s_new, z_q_aI_s_new, z_q_aJ_s_new, z_q_aR_s_new, z_q_L_s_arr, z_q_K_s_arr, z_q_I_s_arr, z_q_J_s_arr, z_q_R_s_arr, z_q_n_s_arr, z_q_aI_s_arr, z_q_aJ_s_arr, z_q_aR_s_arr, u1, u2, hI, h5, h4, h3, z]
        refine hE.2.2.2.2 _ _ _ _ _ ?_
        obtain ⟨a8, b8, c8, d8, -⟩ := hR.1.2 8 _ _ rfl
        obtain ⟨a9, b9, c9, d9, -⟩ := hR.1.2 9 _ _ rfl
        have x8 := hR.2.1.2.2.1 8 _ _ rfl (by decide)
        have x9 := hR.2.1.2.2.1 9 _ _ rfl (by decide)
        have n98 := hR.1.ne (i := 9) (j := 8) rfl rfl (by decide)
        have hin12 : vp_in (nI acts.length) 12 := vp_in_nI (by omega) (by omega)
        have ek : nI acts.length + 1 = nI (acts.length + 1) := nI_add _ 1
        have em : nI (acts.length + 1) - 1 = nI acts.length := nI_pred _
        simp -implicitDefEqProofs [t_X12_act_136, i_aload, i_iload, i_lload, i_istore, i_lstore, i_astore, i_iinc, i_push, i_getI, i_getJ, i_getR, i_putI, i_putJ, i_putR, i_iadd, i_isub, i_imul, i_iand, i_ior, i_ixor, i_ishl, i_ishr, i_iushr, i_idiv, i_irem, i_ladd, i_lsub, i_lmul, i_land, i_lor, i_lxor, i_ldiv, i_lrem, i_lshl, i_lshr, i_lcmp, i_ineg, i_lneg, i_i2l, i_l2i, i_i2b, i_i2c, i_dup, i_pop, i_dup_x1, i_dup2, i_icmp_eq, i_icmp_lt, i_icmp_ge, i_icmp_gt, i_icmp_le, i_if_eq, i_if_lt, i_if_ge, i_if_gt, i_if_le, i_goto, i_ifnull, i_iald, i_bald, i_zald, i_lald, i_aald, i_iast, i_bast, i_zast, i_last, i_alen, i_iret, i_lret, i_aret, i_vret, i_oinit, i_cast, i_tsw, i_cases, i_mmin, i_mmax, i_lmin, i_throw, nb0, nb1, nint, nby0, rf_s, rf_n, of_r, of_n, tk_orf_rf, tk_c2, tk_ls, Value.category, tk_isR_ref, tk_isR_rf, tk_isR_null, z_q_L_s_I, z_q_K_s_I, z_q_I_s_I, z_q_J_s_I, z_q_R_s_I, z_q_n_s_I, z_q_aI_s_I, z_q_aJ_s_I, z_q_aR_s_I, z_q_L_s_J, z_q_K_s_J, z_q_I_s_J, z_q_J_s_J, z_q_R_s_J, z_q_n_s_J, z_q_aI_s_J, z_q_aJ_s_J, z_q_aR_s_J, z_q_L_s_R, z_q_K_s_R, z_q_I_s_R, z_q_J_s_R, z_q_R_s_R, z_q_n_s_R, z_q_aI_s_R, z_q_aJ_s_R, z_q_aR_s_R, z_q_L_s_aI, z_q_K_s_aI, z_q_I_s_aI, z_q_J_s_aI, z_q_R_s_aI, z_q_n_s_aI, z_q_aI_s_aI, z_q_aJ_s_aI, z_q_aR_s_aI, z_q_L_s_aJ, z_q_K_s_aJ, z_q_I_s_aJ, z_q_J_s_aJ, z_q_R_s_aJ, z_q_n_s_aJ, z_q_aI_s_aJ, z_q_aJ_s_aJ, z_q_aR_s_aJ, z_q_L_s_aR, z_q_K_s_aR, z_q_I_s_aR, z_q_J_s_aR, z_q_R_s_aR, z_q_n_s_aR, z_q_aI_s_aR, z_q_aJ_s_aR, z_q_aR_s_aR, z_q_L_s_new, z_q_K_s_new, z_q_I_s_new, z_q_J_s_new, z_q_R_s_new, z_q_n_s_new, z_q_aI_s_new, z_q_aJ_s_new, z_q_aR_s_new, z_q_L_s_arr, z_q_K_s_arr, z_q_I_s_arr, z_q_J_s_arr, z_q_R_s_arr, z_q_n_s_arr, z_q_aI_s_arr, z_q_aJ_s_arr, z_q_aR_s_arr, u1, u2, hI, h5, h18', a8, b8, c8, d8, a9, b9, c9, d9, x8, x9, n98, hin12, ek, em, nI_clamp (show acts.length < 2 ^ 31 by omega)]
        rw [hre] at H0
        subst hk1
        have hjj : jA (Sum.inl ps0 : (List pC) ⊕ (Int32 × Nat × Nat)) = stepsOf ps0 := rfl
        rw [hre, hjj] at hmc hms
        refine ⟨by omega, by omega, ?_⟩
        have H0 := H0
        dsimp only [actQ, jA] at H0
        have hfr := actsV.frame (w := 0) hA0 hq
        skip
        refine H0 _ ?_ ?_ ?_ ?_ ?_ _ _ _ (((hR.iA (k := 8) rfl _).iA (k := 9) rfl _).iI 18 _)
        · have a0 := aFq _ hq
          refine ⟨fun i i1 i2 i3 => ?_, a0.2.1, fun i hi => ?_, a0.2.2.2⟩
          · simp -implicitDefEqProofs [vI_wI, vI_wA, i3]; exact a0.1 i i1 i2 i3
          · have e1 : i ≠ 9 := by omega
            have e2 : i ≠ 8 := by omega
            simp -implicitDefEqProofs [vA_wI, vA_wA, e1, e2]; exact a0.2.2.1 i hi
        · simp -implicitDefEqProofs [vI_wI, vI_wA]; exact (hq.1 0 (by decide) (by decide) (by decide) (by decide) (by decide)).trans v0
        · simp -implicitDefEqProofs [vI_wI, vI_wA]; exact (hq.1 2 (by decide) (by decide) (by decide) (by decide) (by decide)).trans v2
        · simp -implicitDefEqProofs [vI_wI, vI_wA]; exact h6
        · refine ⟨by simp -implicitDefEqProofs [vI_wI, vI_wA], by simp; omega, by simp -implicitDefEqProofs [vI_wI, vI_wA]; exact h17, fun a A hA => ?_⟩
          have cl9 : ∀ off w p, clIn V1 off w p → clIn (wI (wA (wA V1 8 (upd (vA V1 8) acts.length (nI ps0.length))) 9 (upd (vA V1 9) acts.length day)) 18 (nI (acts.length + 1))) off w p := fun off w p hc => hc.ext (fun i i1 i2 => by
            have e1 : i ≠ 9 := by omega
            have e2 : i ≠ 8 := by omega
            simp -implicitDefEqProofs [vA_wI, vA_wA, e1, e2]) (fun j hj => by simp -implicitDefEqProofs [vA_wI, vA_wA])
          rcases Nat.lt_or_ge a acts.length with q | q
          · rw [List.getElem?_append_left q] at hA
            obtain ⟨f1, f2, f3, f4⟩ := hfr a A hA
            have e1 : a ≠ acts.length := by omega
            refine ⟨?_, ?_, f3, fun i p hi => ?_⟩
            · simp -implicitDefEqProofs [vA_wI, vA_wA, upd, e1]; exact f1
            · simp -implicitDefEqProofs [vA_wI, vA_wA, upd, e1]; exact f2
            · obtain ⟨off, o1, o2⟩ := f4 i p hi
              exact ⟨off, by omega, cl9 _ _ _ o2⟩
          · rw [List.getElem?_append_right q] at hA
            have hal := (List.getElem?_eq_some_iff.mp hA).1
            simp only [List.length_cons, List.length_nil] at hal
            have e1 : a = acts.length := by omega
            subst e1
            simp at hA
            subst hA
            refine ⟨?_, ?_, hps, fun i p hi => ?_⟩
            · simp -implicitDefEqProofs [vA_wI, vA_wA, upd]
            · simp -implicitDefEqProofs [vA_wI, vA_wA, upd]
            · obtain ⟨off, o1, o2⟩ := hin i p hi
              exact ⟨off, o1, cl9 _ _ _ o2⟩
      induction f with
      | zero =>
        intro ps0 s1 k1 ρ S R V1 hf hsn h4 hst h5 h6 h17 hk1 hps hq hin hR hrt
        refine stop ps0 s1 k1 ρ S R V1 (by omega) hsn h4 h5 h6 h17 hk1 hps hq hin hR ?_
        rw [hrt, pActs]
        simp [appA]
      | succ f ih =>
        intro ps0 s1 k1 ρ S R V1 hf hsn h4 hst h5 h6 h17 hk1 hps hq hin hR hrt
        rw [pActs] at hrt
        by_cases ht : tkTok g n s1 = -1
        · rw [if_pos ht] at hrt
          refine stop ps0 s1 k1 ρ S R V1 (tok_m1.mp ht) hsn h4 h5 h6 h17 hk1 hps hq hin hR ?_
          rw [hrt]
          simp [appA]
        rw [if_neg ht] at hrt
        refine hE.2.2.2.1 _ _ _ _ _ ?_
        obtain ⟨u1, u2, u3⟩ := hR.1.1
        have hI := hR.2.1.1
        have h3 : vI V1 3 = nI n := (hq.1 3 (by decide) (by decide) (by decide) (by decide) (by decide)).trans v3
        have h18' : vI V1 18 = nI acts.length := (hq.1 18 (by decide) (by decide) (by decide) (by decide) (by decide)).trans v18
        have hv1 : vA V1 1 = g := (hq.2.2.1 1 (by omega)).trans v1
        have hsl : s1 < n := tkTok_lt ht
        have z : ¬ nI n ≤ nI s1 := nI_ge (by omega) (by omega)
        have ek : nI ps0.length + 1 = nI (ps0.length + 1) := nI_add _ 1
        simp -implicitDefEqProofs [t_X12_act_102, i_aload, i_iload, i_lload, i_istore, i_lstore, i_astore, i_iinc, i_push, i_getI, i_getJ, i_getR, i_putI, i_putJ, i_putR, i_iadd, i_isub, i_imul, i_iand, i_ior, i_ixor, i_ishl, i_ishr, i_iushr, i_idiv, i_irem, i_ladd, i_lsub, i_lmul, i_land, i_lor, i_lxor, i_ldiv, i_lrem, i_lshl, i_lshr, i_lcmp, i_ineg, i_lneg, i_i2l, i_l2i, i_i2b, i_i2c, i_dup, i_pop, i_dup_x1, i_dup2, i_icmp_eq, i_icmp_lt, i_icmp_ge, i_icmp_gt, i_icmp_le, i_if_eq, i_if_lt, i_if_ge, i_if_gt, i_if_le, i_goto, i_ifnull, i_iald, i_bald, i_zald, i_lald, i_aald, i_iast, i_bast, i_zast, i_last, i_alen, i_iret, i_lret, i_aret, i_vret, i_oinit, i_cast, i_tsw, i_cases, i_mmin, i_mmax, i_lmin, i_throw, nb0, nb1, nint, nby0, rf_s, rf_n, of_r, of_n, tk_orf_rf, tk_c2, tk_ls, Value.category, tk_isR_ref, tk_isR_rf, tk_isR_null, z_q_L_s_I, z_q_K_s_I, z_q_I_s_I, z_q_J_s_I, z_q_R_s_I, z_q_n_s_I, z_q_aI_s_I, z_q_aJ_s_I, z_q_aR_s_I, z_q_L_s_J, z_q_K_s_J, z_q_I_s_J, z_q_J_s_J, z_q_R_s_J, z_q_n_s_J, z_q_aI_s_J, z_q_aJ_s_J, z_q_aR_s_J, z_q_L_s_R, z_q_K_s_R, z_q_I_s_R, z_q_J_s_R, z_q_R_s_R, z_q_n_s_R, z_q_aI_s_R, z_q_aJ_s_R, z_q_aR_s_R, z_q_L_s_aI, z_q_K_s_aI, z_q_I_s_aI, z_q_J_s_aI, z_q_R_s_aI, z_q_n_s_aI, z_q_aI_s_aI, z_q_aJ_s_aI, z_q_aR_s_aI, z_q_L_s_aJ, z_q_K_s_aJ, z_q_I_s_aJ, z_q_J_s_aJ, z_q_R_s_aJ, z_q_n_s_aJ, z_q_aI_s_aJ, z_q_aJ_s_aJ, z_q_aR_s_aJ, z_q_L_s_aR, z_q_K_s_aR, z_q_I_s_aR, z_q_J_s_aR, z_q_R_s_aR, z_q_n_s_aR, z_q_aI_s_aR, z_q_aJ_s_aR, z_q_aR_s_aR, z_q_L_s_new, z_q_K_s_new, z_q_I_s_new, z_q_J_s_new, z_q_R_s_new, z_q_n_s_new, z_q_aI_s_new, z_q_aJ_s_new, z_q_aR_s_new, z_q_L_s_arr, z_q_K_s_arr, z_q_I_s_arr, z_q_J_s_arr, z_q_R_s_arr, z_q_n_s_arr, z_q_aI_s_arr, z_q_aJ_s_arr, z_q_aR_s_arr, u1, u2, hI, h5, h4, h3, z]
        have hcg := pClause_good g (n := ps0.length) hsn
        have hrd : rdV V1 n g s1 := ⟨hv1, h3, by omega, h4, hsn, h5⟩
        rcases hc : pClause g n ps0.length s1 with ⟨s', p⟩ | ⟨kd, pl, j⟩
        · rw [hc] at hrt hcg
          obtain ⟨c1, c2, c3, c4⟩ := hcg
          dsimp only at hrt
          have hrt2 : rt = appA (ps0 ++ [p]) (stepsOf (ps0 ++ [p])) (pActs g n f (ps0 ++ [p]).length s') := by
            rw [hrt]
            rw [show (ps0 ++ [p]).length = ps0.length + 1 by simp]
            rcases pActs g n f (ps0.length + 1) s' with ps | ⟨kd, pl, j⟩
            · simp [appA]
            · simp [appA, stepsOf_app, stepsOf]; omega
          have hjr : stepsOf ps0 + p.2.2.2.2.length ≤ jA rt := by
            rw [hrt2]
            rcases pActs g n f (ps0 ++ [p]).length s' with ps | ⟨kd, pl, j⟩
            · simp only [appA, jA, stepsOf_app, stepsOf]; omega
            · simp only [appA, jA, stepsOf_app, stepsOf]; omega
          have g1 := gS_add (hw := hw) (a := k1) (b := k1 + p.2.2.2.2.length) (by omega)
          have g3 : gS hw (k1 + p.2.2.2.2.length) ≤ gS hw (k + jA rt) := gS_mono (by omega)
          refine ⟨by simp, u1, u2, by simp, 43, 2 * gS (max hw k1) (k1 + p.2.2.2.2.length), 30000 * gS (max hw k1) (k1 + p.2.2.2.2.length), by omega, by omega, by omega, ?_⟩
          refine r_clause (B := B) (k := k1) (a := acts.length) (n := ps0.length) (p := s1) (len := n) (g := g) (hw := max hw k1) (cl := cl) (r := .inl (s', p)) (by omega) hR hrd h17 h18' hlt hps (by omega) (by rw [hst]; exact hc.symm) (by simp only [jc]; omega) (by simp only [jc]; omega) (by simp only [jc]; omega) ?_
          intro V2 hr2 S2 ρ2 R2 hR2
          simp only [jc] at hR2
          rw [g1.2] at hR2
          obtain ⟨t1, t2, t3, ⟨q2, t4, t5, t6⟩, t7, t8⟩ := hr2
          obtain ⟨w1, w2, w3⟩ := hR2.1.1
          have t1' := t1.at1
          simp -implicitDefEqProofs [i_aload, i_iload, i_lload, i_istore, i_lstore, i_astore, i_iinc, i_push, i_getI, i_getJ, i_getR, i_putI, i_putJ, i_putR, i_iadd, i_isub, i_imul, i_iand, i_ior, i_ixor, i_ishl, i_ishr, i_iushr, i_idiv, i_irem, i_ladd, i_lsub, i_lmul, i_land, i_lor, i_lxor, i_ldiv, i_lrem, i_lshl, i_lshr, i_lcmp, i_ineg, i_lneg, i_i2l, i_l2i, i_i2b, i_i2c, i_dup, i_pop, i_dup_x1, i_dup2, i_icmp_eq, i_icmp_lt, i_icmp_ge, i_icmp_gt, i_icmp_le, i_if_eq, i_if_lt, i_if_ge, i_if_gt, i_if_le, i_goto, i_ifnull, i_iald, i_bald, i_zald, i_lald, i_aald, i_iast, i_bast, i_zast, i_last, i_alen, i_iret, i_lret, i_aret, i_vret, i_oinit, i_cast, i_tsw, i_cases, i_mmin, i_mmax, i_lmin, i_throw, nb0, nb1, nint, nby0, rf_s, rf_n, of_r, of_n, tk_orf_rf, tk_c2, tk_ls, Value.category, tk_isR_ref, tk_isR_rf, tk_isR_null, z_q_L_s_I, z_q_K_s_I, z_q_I_s_I, z_q_J_s_I, z_q_R_s_I, z_q_n_s_I, z_q_aI_s_I, z_q_aJ_s_I, z_q_aR_s_I, z_q_L_s_J, z_q_K_s_J, z_q_I_s_J, z_q_J_s_J, z_q_R_s_J, z_q_n_s_J, z_q_aI_s_J, z_q_aJ_s_J, z_q_aR_s_J, z_q_L_s_R, z_q_K_s_R, z_q_I_s_R, z_q_J_s_R, z_q_R_s_R, z_q_n_s_R, z_q_aI_s_R, z_q_aJ_s_R, z_q_aR_s_R, z_q_L_s_aI, z_q_K_s_aI, z_q_I_s_aI, z_q_J_s_aI, z_q_R_s_aI, z_q_n_s_aI, z_q_aI_s_aI, z_q_aJ_s_aI, z_q_aR_s_aI, z_q_L_s_aJ, z_q_K_s_aJ, z_q_I_s_aJ, z_q_J_s_aJ, z_q_R_s_aJ, z_q_n_s_aJ, z_q_aI_s_aJ, z_q_aJ_s_aJ, z_q_aR_s_aJ, z_q_L_s_aR, z_q_K_s_aR, z_q_I_s_aR, z_q_J_s_aR, z_q_R_s_aR, z_q_n_s_aR, z_q_aI_s_aR, z_q_aJ_s_aR, z_q_aR_s_aR, z_q_L_s_new, z_q_K_s_new, z_q_I_s_new, z_q_J_s_new, z_q_R_s_new, z_q_n_s_new, z_q_aI_s_new, z_q_aJ_s_new, z_q_aR_s_new, z_q_L_s_arr, z_q_K_s_arr, z_q_I_s_arr, z_q_J_s_arr, z_q_R_s_arr, z_q_n_s_arr, z_q_aI_s_arr, z_q_aJ_s_arr, z_q_aR_s_arr, w1, w2, ek]
          refine ⟨by simp, w1, w2, by simp, 1, 0, 0, by omega, by omega, by omega, ?_⟩
          refine r_blanks (g := g) (len := n) (qt := R2 1) (p := q2) (by omega) (hR2.rP rfl (t1'.2.trans h3) (by omega) (t1'.1.trans hv1)) ((hR2.2.1.1 4).trans t5) t4 ?_
          rw [t6]
          simp -implicitDefEqProofs [i_aload, i_iload, i_lload, i_istore, i_lstore, i_astore, i_iinc, i_push, i_getI, i_getJ, i_getR, i_putI, i_putJ, i_putR, i_iadd, i_isub, i_imul, i_iand, i_ior, i_ixor, i_ishl, i_ishr, i_iushr, i_idiv, i_irem, i_ladd, i_lsub, i_lmul, i_land, i_lor, i_lxor, i_ldiv, i_lrem, i_lshl, i_lshr, i_lcmp, i_ineg, i_lneg, i_i2l, i_l2i, i_i2b, i_i2c, i_dup, i_pop, i_dup_x1, i_dup2, i_icmp_eq, i_icmp_lt, i_icmp_ge, i_icmp_gt, i_icmp_le, i_if_eq, i_if_lt, i_if_ge, i_if_gt, i_if_le, i_goto, i_ifnull, i_iald, i_bald, i_zald, i_lald, i_aald, i_iast, i_bast, i_zast, i_last, i_alen, i_iret, i_lret, i_aret, i_vret, i_oinit, i_cast, i_tsw, i_cases, i_mmin, i_mmax, i_lmin, i_throw, nb0, nb1, nint, nby0, rf_s, rf_n, of_r, of_n, tk_orf_rf, tk_c2, tk_ls, Value.category, tk_isR_ref, tk_isR_rf, tk_isR_null]
          have ec : 2 * gS hw k1 + 2 * gS (max hw k1) (k1 + p.2.2.2.2.length) = 2 * gS hw (k1 + p.2.2.2.2.length) := by omega
          have es : 30000 * gS hw k1 + 30000 * gS (max hw k1) (k1 + p.2.2.2.2.length) = 30000 * gS hw (k1 + p.2.2.2.2.length) := by omega
          rw [ec, es]
          have hq2 := (hq.step (V2 := V2) (k' := k1) (w' := 40 * acts.length + ps0.length) t1 (by omega) (by omega)).stepI (i := 4) (v := nI s') (Or.inl rfl)
          have hh := ih (ps0 ++ [p]) s' (k1 + p.2.2.2.2.length) ρ2 (s_I S2 13 4 m (nI s')) R2 (wI V2 4 (nI s')) (by omega) c2 (by simp -implicitDefEqProofs [vI_wI]) (by rw [← t6]; exact tkStart_idem t4) (by simp -implicitDefEqProofs [vI_wI]; exact t2) (by simp -implicitDefEqProofs [vI_wI]; exact t3.trans h6) (by simp -implicitDefEqProofs [vI_wI]; exact t7) (by rw [stepsOf_app, hk1]; simp [stepsOf]; omega) (by simp; omega) hq2 (fun i x hx => ?_) (hR2.iI 4 _) hrt2
          · rw [show (ps0 ++ [p]).length = ps0.length + 1 by simp] at hh
            exact hh
          · rcases Nat.lt_or_ge i ps0.length with q | q
            · rw [List.getElem?_append_left q] at hx
              obtain ⟨off, o1, o2⟩ := hin i x hx
              exact ⟨off, by omega, o2.ext (fun i' a b => t1.2.2.2.2.2 i' _ a b (by omega)) (fun j hj => t1.2.2.2.2.1 j (by omega))⟩
            · rw [List.getElem?_append_right q] at hx
              have hil := (List.getElem?_eq_some_iff.mp hx).1
              simp only [List.length_cons, List.length_nil] at hil
              have e1 : i = ps0.length := by omega
              subst e1
              simp at hx
              subst hx
              exact ⟨k1, Nat.le_refl _, t8⟩
        · rw [hc] at hrt hcg
          obtain ⟨c1, c2, c3, c4⟩ := hcg
          dsimp only [appA] at hrt
          have hjr : jA rt = stepsOf ps0 + j := by rw [hrt]; rfl
          have g1 := gS_add (hw := hw) (a := k1) (b := k1 + j) (by omega)
          have g3 : gS hw (k1 + j) ≤ gS hw (k + jA rt) := gS_mono (by omega)
          refine ⟨by simp, u1, u2, by simp, 43, 2 * gS (max hw k1) (k1 + j), 30000 * gS (max hw k1) (k1 + j), by omega, by omega, by omega, ?_⟩
          refine r_clause (B := B) (k := k1) (a := acts.length) (n := ps0.length) (p := s1) (len := n) (g := g) (hw := max hw k1) (cl := cl) (r := .inr (kd, pl, j)) (by omega) hR hrd h17 h18' hlt hps (by omega) (by rw [hst]; exact hc.symm) (by simp only [jc]; omega) (by simp only [jc]; omega) (by simp only [jc]; omega) ?_
          intro V2 hr2 S2 ρ2 R2 hR2
          simp only [jc] at hR2
          rw [g1.2] at hR2
          obtain ⟨t1, t2, t3, t4, t5, q2, t6, t7⟩ := hr2
          obtain ⟨w1, w2, w3⟩ := hR2.1.1
          have t1' := t1.at1
          simp -implicitDefEqProofs [i_aload, i_iload, i_lload, i_istore, i_lstore, i_astore, i_iinc, i_push, i_getI, i_getJ, i_getR, i_putI, i_putJ, i_putR, i_iadd, i_isub, i_imul, i_iand, i_ior, i_ixor, i_ishl, i_ishr, i_iushr, i_idiv, i_irem, i_ladd, i_lsub, i_lmul, i_land, i_lor, i_lxor, i_ldiv, i_lrem, i_lshl, i_lshr, i_lcmp, i_ineg, i_lneg, i_i2l, i_l2i, i_i2b, i_i2c, i_dup, i_pop, i_dup_x1, i_dup2, i_icmp_eq, i_icmp_lt, i_icmp_ge, i_icmp_gt, i_icmp_le, i_if_eq, i_if_lt, i_if_ge, i_if_gt, i_if_le, i_goto, i_ifnull, i_iald, i_bald, i_zald, i_lald, i_aald, i_iast, i_bast, i_zast, i_last, i_alen, i_iret, i_lret, i_aret, i_vret, i_oinit, i_cast, i_tsw, i_cases, i_mmin, i_mmax, i_lmin, i_throw, nb0, nb1, nint, nby0, rf_s, rf_n, of_r, of_n, tk_orf_rf, tk_c2, tk_ls, Value.category, tk_isR_ref, tk_isR_rf, tk_isR_null, z_q_L_s_I, z_q_K_s_I, z_q_I_s_I, z_q_J_s_I, z_q_R_s_I, z_q_n_s_I, z_q_aI_s_I, z_q_aJ_s_I, z_q_aR_s_I, z_q_L_s_J, z_q_K_s_J, z_q_I_s_J, z_q_J_s_J, z_q_R_s_J, z_q_n_s_J, z_q_aI_s_J, z_q_aJ_s_J, z_q_aR_s_J, z_q_L_s_R, z_q_K_s_R, z_q_I_s_R, z_q_J_s_R, z_q_R_s_R, z_q_n_s_R, z_q_aI_s_R, z_q_aJ_s_R, z_q_aR_s_R, z_q_L_s_aI, z_q_K_s_aI, z_q_I_s_aI, z_q_J_s_aI, z_q_R_s_aI, z_q_n_s_aI, z_q_aI_s_aI, z_q_aJ_s_aI, z_q_aR_s_aI, z_q_L_s_aJ, z_q_K_s_aJ, z_q_I_s_aJ, z_q_J_s_aJ, z_q_R_s_aJ, z_q_n_s_aJ, z_q_aI_s_aJ, z_q_aJ_s_aJ, z_q_aR_s_aJ, z_q_L_s_aR, z_q_K_s_aR, z_q_I_s_aR, z_q_J_s_aR, z_q_R_s_aR, z_q_n_s_aR, z_q_aI_s_aR, z_q_aJ_s_aR, z_q_aR_s_aR, z_q_L_s_new, z_q_K_s_new, z_q_I_s_new, z_q_J_s_new, z_q_R_s_new, z_q_n_s_new, z_q_aI_s_new, z_q_aJ_s_new, z_q_aR_s_new, z_q_L_s_arr, z_q_K_s_arr, z_q_I_s_arr, z_q_J_s_arr, z_q_R_s_arr, z_q_n_s_arr, z_q_aI_s_arr, z_q_aJ_s_arr, z_q_aR_s_arr, w1, w2, ek]
          refine ⟨by simp, w1, w2, by simp, 1, 0, 0, by omega, by omega, by omega, ?_⟩
          refine r_blanks (g := g) (len := n) (qt := R2 1) (p := q2) (by omega) (hR2.rP rfl (t1'.2.trans h3) (by omega) (t1'.1.trans hv1)) ((hR2.2.1.1 4).trans t7) t6 ?_
          simp -implicitDefEqProofs [i_aload, i_iload, i_lload, i_istore, i_lstore, i_astore, i_iinc, i_push, i_getI, i_getJ, i_getR, i_putI, i_putJ, i_putR, i_iadd, i_isub, i_imul, i_iand, i_ior, i_ixor, i_ishl, i_ishr, i_iushr, i_idiv, i_irem, i_ladd, i_lsub, i_lmul, i_land, i_lor, i_lxor, i_ldiv, i_lrem, i_lshl, i_lshr, i_lcmp, i_ineg, i_lneg, i_i2l, i_l2i, i_i2b, i_i2c, i_dup, i_pop, i_dup_x1, i_dup2, i_icmp_eq, i_icmp_lt, i_icmp_ge, i_icmp_gt, i_icmp_le, i_if_eq, i_if_lt, i_if_ge, i_if_gt, i_if_le, i_goto, i_ifnull, i_iald, i_bald, i_zald, i_lald, i_aald, i_iast, i_bast, i_zast, i_last, i_alen, i_iret, i_lret, i_aret, i_vret, i_oinit, i_cast, i_tsw, i_cases, i_mmin, i_mmax, i_lmin, i_throw, nb0, nb1, nint, nby0, rf_s, rf_n, of_r, of_n, tk_orf_rf, tk_c2, tk_ls, Value.category, tk_isR_ref, tk_isR_rf, tk_isR_null]
          have hq2 := (hq.step (V2 := V2) (k' := k1) (w' := 40 * acts.length + ps0.length) t1 (by omega) (by omega)).stepI (i := 4) (v := nI (tkStart g n q2)) (Or.inl rfl)
          have hR3 := (hR2.iI 4 (nI (tkStart g n q2))).castT (T' := rLk (cp 400 (max hw (k + (stepsOf ps0 + j)))) cl) (by rw [hk1, Nat.add_assoc])
          exact endF ρ2 _ R2 _ kd pl (stepsOf ps0 + j) _ _ _ hR3 hq2 (by simp -implicitDefEqProofs [vI_wI]; exact t2) (by simp -implicitDefEqProofs [vI_wI]; exact t4) hrt (by omega) (by omega)
    refine hE.2.2.1 _ _ _ _ _ ?_
    simp -implicitDefEqProofs [t_X12_act_56, i_aload, i_iload, i_lload, i_istore, i_lstore, i_astore, i_iinc, i_push, i_getI, i_getJ, i_getR, i_putI, i_putJ, i_putR, i_iadd, i_isub, i_imul, i_iand, i_ior, i_ixor, i_ishl, i_ishr, i_iushr, i_idiv, i_irem, i_ladd, i_lsub, i_lmul, i_land, i_lor, i_lxor, i_ldiv, i_lrem, i_lshl, i_lshr, i_lcmp, i_ineg, i_lneg, i_i2l, i_l2i, i_i2b, i_i2c, i_dup, i_pop, i_dup_x1, i_dup2, i_icmp_eq, i_icmp_lt, i_icmp_ge, i_icmp_gt, i_icmp_le, i_if_eq, i_if_lt, i_if_ge, i_if_gt, i_if_le, i_goto, i_ifnull, i_iald, i_bald, i_zald, i_lald, i_aald, i_iast, i_bast, i_zast, i_last, i_alen, i_iret, i_lret, i_aret, i_vret, i_oinit, i_cast, i_tsw, i_cases, i_mmin, i_mmax, i_lmin, i_throw, nb0, nb1, nint, nby0, rf_s, rf_n, of_r, of_n, tk_orf_rf, tk_c2, tk_ls, Value.category, tk_isR_ref, tk_isR_rf, tk_isR_null, z_q_L_s_I, z_q_K_s_I, z_q_I_s_I, z_q_J_s_I, z_q_R_s_I, z_q_n_s_I, z_q_aI_s_I, z_q_aJ_s_I, z_q_aR_s_I, z_q_L_s_J, z_q_K_s_J, z_q_I_s_J, z_q_J_s_J, z_q_R_s_J, z_q_n_s_J, z_q_aI_s_J, z_q_aJ_s_J, z_q_aR_s_J, z_q_L_s_R, z_q_K_s_R, z_q_I_s_R, z_q_J_s_R, z_q_R_s_R, z_q_n_s_R, z_q_aI_s_R, z_q_aJ_s_R, z_q_aR_s_R, z_q_L_s_aI, z_q_K_s_aI, z_q_I_s_aI, z_q_J_s_aI, z_q_R_s_aI, z_q_n_s_aI, z_q_aI_s_aI, z_q_aJ_s_aI, z_q_aR_s_aI, z_q_L_s_aJ, z_q_K_s_aJ, z_q_I_s_aJ, z_q_J_s_aJ, z_q_R_s_aJ, z_q_n_s_aJ, z_q_aI_s_aJ, z_q_aJ_s_aJ, z_q_aR_s_aJ, z_q_L_s_aR, z_q_K_s_aR, z_q_I_s_aR, z_q_J_s_aR, z_q_R_s_aR, z_q_n_s_aR, z_q_aI_s_aR, z_q_aJ_s_aR, z_q_aR_s_aR, z_q_L_s_new, z_q_K_s_new, z_q_I_s_new, z_q_J_s_new, z_q_R_s_new, z_q_n_s_new, z_q_aI_s_new, z_q_aJ_s_new, z_q_aR_s_new, z_q_L_s_arr, z_q_K_s_arr, z_q_I_s_arr, z_q_J_s_arr, z_q_R_s_arr, z_q_n_s_arr, z_q_aI_s_arr, z_q_aJ_s_arr, z_q_aR_s_arr, h1, h2]
    refine ⟨by simp, h1, h2, by simp [Value.category], 0, 0, 0, by omega, by omega, by omega, ?_⟩
    refine r_badF ?_
    simp -implicitDefEqProofs [i_aload, i_iload, i_lload, i_istore, i_lstore, i_astore, i_iinc, i_push, i_getI, i_getJ, i_getR, i_putI, i_putJ, i_putR, i_iadd, i_isub, i_imul, i_iand, i_ior, i_ixor, i_ishl, i_ishr, i_iushr, i_idiv, i_irem, i_ladd, i_lsub, i_lmul, i_land, i_lor, i_lxor, i_ldiv, i_lrem, i_lshl, i_lshr, i_lcmp, i_ineg, i_lneg, i_i2l, i_l2i, i_i2b, i_i2c, i_dup, i_pop, i_dup_x1, i_dup2, i_icmp_eq, i_icmp_lt, i_icmp_ge, i_icmp_gt, i_icmp_le, i_if_eq, i_if_lt, i_if_ge, i_if_gt, i_if_le, i_goto, i_ifnull, i_iald, i_bald, i_zald, i_lald, i_aald, i_iast, i_bast, i_zast, i_last, i_alen, i_iret, i_lret, i_aret, i_vret, i_oinit, i_cast, i_tsw, i_cases, i_mmin, i_mmax, i_lmin, i_throw, nb0, nb1, nint, nby0, rf_s, rf_n, of_r, of_n, tk_orf_rf, tk_c2, tk_ls, Value.category, tk_isR_ref, tk_isR_rf, tk_isR_null, z_q_L_s_I, z_q_K_s_I, z_q_I_s_I, z_q_J_s_I, z_q_R_s_I, z_q_n_s_I, z_q_aI_s_I, z_q_aJ_s_I, z_q_aR_s_I, z_q_L_s_J, z_q_K_s_J, z_q_I_s_J, z_q_J_s_J, z_q_R_s_J, z_q_n_s_J, z_q_aI_s_J, z_q_aJ_s_J, z_q_aR_s_J, z_q_L_s_R, z_q_K_s_R, z_q_I_s_R, z_q_J_s_R, z_q_R_s_R, z_q_n_s_R, z_q_aI_s_R, z_q_aJ_s_R, z_q_aR_s_R, z_q_L_s_aI, z_q_K_s_aI, z_q_I_s_aI, z_q_J_s_aI, z_q_R_s_aI, z_q_n_s_aI, z_q_aI_s_aI, z_q_aJ_s_aI, z_q_aR_s_aI, z_q_L_s_aJ, z_q_K_s_aJ, z_q_I_s_aJ, z_q_J_s_aJ, z_q_R_s_aJ, z_q_n_s_aJ, z_q_aI_s_aJ, z_q_aJ_s_aJ, z_q_aR_s_aJ, z_q_L_s_aR, z_q_K_s_aR, z_q_I_s_aR, z_q_J_s_aR, z_q_R_s_aR, z_q_n_s_aR, z_q_aI_s_aR, z_q_aJ_s_aR, z_q_aR_s_aR, z_q_L_s_new, z_q_K_s_new, z_q_I_s_new, z_q_J_s_new, z_q_R_s_new, z_q_n_s_new, z_q_aI_s_new, z_q_aJ_s_new, z_q_aR_s_new, z_q_L_s_arr, z_q_K_s_arr, z_q_I_s_arr, z_q_J_s_arr, z_q_R_s_arr, z_q_n_s_arr, z_q_aI_s_arr, z_q_aJ_s_arr, z_q_aR_s_arr, h1, h2, h17]
    refine ⟨by simp, h1, h2, by simp, 1, 0, 0, by omega, by omega, by omega, ?_⟩
    have hv00 : vI V0 4 = 0 := by rw [← hV0]; simp -implicitDefEqProofs [vI_wI]
    refine r_blanks (g := g) (len := n) (qt := R 1) (p := 0) (by omega) (hR0.rP rfl v3 (by omega) v1) ((hR0.2.1.1 4).trans hv00) (Nat.zero_le _) ?_
    simp -implicitDefEqProofs [i_aload, i_iload, i_lload, i_istore, i_lstore, i_astore, i_iinc, i_push, i_getI, i_getJ, i_getR, i_putI, i_putJ, i_putR, i_iadd, i_isub, i_imul, i_iand, i_ior, i_ixor, i_ishl, i_ishr, i_iushr, i_idiv, i_irem, i_ladd, i_lsub, i_lmul, i_land, i_lor, i_lxor, i_ldiv, i_lrem, i_lshl, i_lshr, i_lcmp, i_ineg, i_lneg, i_i2l, i_l2i, i_i2b, i_i2c, i_dup, i_pop, i_dup_x1, i_dup2, i_icmp_eq, i_icmp_lt, i_icmp_ge, i_icmp_gt, i_icmp_le, i_if_eq, i_if_lt, i_if_ge, i_if_gt, i_if_le, i_goto, i_ifnull, i_iald, i_bald, i_zald, i_lald, i_aald, i_iast, i_bast, i_zast, i_last, i_alen, i_iret, i_lret, i_aret, i_vret, i_oinit, i_cast, i_tsw, i_cases, i_mmin, i_mmax, i_lmin, i_throw, nb0, nb1, nint, nby0, rf_s, rf_n, of_r, of_n, tk_orf_rf, tk_c2, tk_ls, Value.category, tk_isR_ref, tk_isR_rf, tk_isR_null]
    have e0 : max hw (k + 0) = hw := by omega
    have g0 : gS hw (k + 0) = 0 := by unfold gS; rw [e0]; omega
    have hh := loop 2000 [] (tkStart g n 0) (k + 0) ρ (s_I (s_I (s_I (s_I (s_I (s_I (s_I S 13 0 m 0) 13 3 m (nI n)) 13 2 m 0) 13 4 m 0) 13 5 m 0) 13 6 m (-1)) 13 4 m (nI (tkStart g n 0))) R (wI V0 4 (nI (tkStart g n 0))) (by omega) hs0.2 (by simp -implicitDefEqProofs [vI_wI]) (tkStart_idem (Nat.zero_le n)) (by simp -implicitDefEqProofs [vI_wI]; exact v5) (by simp -implicitDefEqProofs [vI_wI]; exact v6) (by simp -implicitDefEqProofs [vI_wI]; exact v17) rfl (by simp) (qlA.rfl'.stepI (Or.inl rfl)) (fun i p hi => by simp at hi) (by rw [e0]; exact hR0.iI 4 _) (by
      rw [show ([] : List pC).length = 0 by rfl, hrt]
      rcases rt with ps | ⟨kd, pl, j⟩
      · simp [appA]
      · simp [appA, stepsOf])
    rw [g0] at hh
    exact hh
  simp -implicitDefEqProofs [t_X12_act_0, i_aload, i_iload, i_lload, i_istore, i_lstore, i_astore, i_iinc, i_push, i_getI, i_getJ, i_getR, i_putI, i_putJ, i_putR, i_iadd, i_isub, i_imul, i_iand, i_ior, i_ixor, i_ishl, i_ishr, i_iushr, i_idiv, i_irem, i_ladd, i_lsub, i_lmul, i_land, i_lor, i_lxor, i_ldiv, i_lrem, i_lshl, i_lshr, i_lcmp, i_ineg, i_lneg, i_i2l, i_l2i, i_i2b, i_i2c, i_dup, i_pop, i_dup_x1, i_dup2, i_icmp_eq, i_icmp_lt, i_icmp_ge, i_icmp_gt, i_icmp_le, i_if_eq, i_if_lt, i_if_ge, i_if_gt, i_if_le, i_goto, i_ifnull, i_iald, i_bald, i_zald, i_lald, i_aald, i_iast, i_bast, i_zast, i_last, i_alen, i_iret, i_lret, i_aret, i_vret, i_oinit, i_cast, i_tsw, i_cases, i_mmin, i_mmax, i_lmin, i_throw, nb0, nb1, nint, nby0, rf_s, rf_n, of_r, of_n, tk_orf_rf, tk_c2, tk_ls, Value.category, tk_isR_ref, tk_isR_rf, tk_isR_null, z_q_L_s_I, z_q_K_s_I, z_q_I_s_I, z_q_J_s_I, z_q_R_s_I, z_q_n_s_I, z_q_aI_s_I, z_q_aJ_s_I, z_q_aR_s_I, z_q_L_s_J, z_q_K_s_J, z_q_I_s_J, z_q_J_s_J, z_q_R_s_J, z_q_n_s_J, z_q_aI_s_J, z_q_aJ_s_J, z_q_aR_s_J, z_q_L_s_R, z_q_K_s_R, z_q_I_s_R, z_q_J_s_R, z_q_R_s_R, z_q_n_s_R, z_q_aI_s_R, z_q_aJ_s_R, z_q_aR_s_R, z_q_L_s_aI, z_q_K_s_aI, z_q_I_s_aI, z_q_J_s_aI, z_q_R_s_aI, z_q_n_s_aI, z_q_aI_s_aI, z_q_aJ_s_aI, z_q_aR_s_aI, z_q_L_s_aJ, z_q_K_s_aJ, z_q_I_s_aJ, z_q_J_s_aJ, z_q_R_s_aJ, z_q_n_s_aJ, z_q_aI_s_aJ, z_q_aJ_s_aJ, z_q_aR_s_aJ, z_q_L_s_aR, z_q_K_s_aR, z_q_I_s_aR, z_q_J_s_aR, z_q_R_s_aR, z_q_n_s_aR, z_q_aI_s_aR, z_q_aJ_s_aR, z_q_aR_s_aR, z_q_L_s_new, z_q_K_s_new, z_q_I_s_new, z_q_J_s_new, z_q_R_s_new, z_q_n_s_new, z_q_aI_s_new, z_q_aJ_s_new, z_q_aR_s_new, z_q_L_s_arr, z_q_K_s_arr, z_q_I_s_arr, z_q_J_s_arr, z_q_R_s_arr, z_q_n_s_arr, z_q_aI_s_arr, z_q_aJ_s_arr, z_q_aR_s_arr, h1, h2, h2n]
  refine ⟨fun w => bad (fun z => Int32.not_lt.mpr z.1.1 w), fun w => ⟨fun w2 => bad (fun z => Int32.not_lt.mpr z.1.2 w2), fun w2 => ⟨fun w3 => bad (fun z => Int32.not_lt.mpr z.2.1 w3), fun w3 => ⟨fun w4 => ?_, fun w4 => bad (fun z => Int32.not_lt.mpr z.2.2 w4)⟩⟩⟩⟩
  obtain ⟨n, hn1, rfl⟩ := nat_of (x := n0) (Int32.not_lt.mpr w)
  have hnt : n ≤ tn := (nI_leI (by omega) (by omega)).mp w2
  exact good n hnt rfl ⟨w3, w4⟩
end RA2
section RA3
variable {Z : tk_Z} {d mc ms : Nat} {QR : tk_R} {m hw k : Nat} {B : bS} {V V1 V2 : vR} {ρ : Nat → Nat} {S : tk_S} {R : Nat → Nat} {M : Mt} {T : nT}
theorem rr_act2 {n0 day : Int32} (hd : 46 ≤ d) (hR : RS B m ρ S (rLk (cp 400 hw) (cp 600 M.2.2.2.2.2.2.2.1.1)) R V) (hI : RI V k M) (hB : BD M) (hk : k ≤ hw) (hhw : hw ≤ 12000) (hk2 : k ≤ 12 * 700)
    (hmc : ∀ n, n ≤ M.1.1 → n0 = nI n → (0 ≤ day ∧ day ≤ 9999) → M.2.1.length < 12 → 2 * gS hw (k + jA (pActs M.1.2.1 n 2000 0 (tkStart M.1.2.1 n 0))) ≤ mc) (hms : ∀ n, n ≤ M.1.1 → n0 = nI n → (0 ≤ day ∧ day ≤ 9999) → M.2.1.length < 12 → 30000 * gS hw (k + jA (pActs M.1.2.1 n 2000 0 (tkStart M.1.2.1 n 0))) ≤ ms)
    (H1 : ¬ ((0 ≤ n0 ∧ n0 ≤ nI M.1.1) ∧ (0 ≤ day ∧ day ≤ 9999)) → okR B m hw k QR (some (.int 0)) 1 M) (H2 : ((0 ≤ n0 ∧ n0 ≤ nI M.1.1) ∧ (0 ≤ day ∧ day ≤ 9999)) → 12 ≤ M.2.1.length → okR B m hw k QR (some (.int 0)) 2 M)
    (H0 : ∀ n, n ≤ M.1.1 → n0 = nI n → (0 ≤ day ∧ day ≤ 9999) → M.2.1.length < 12 → actRR B m hw k QR M day (pActs M.1.2.1 n 2000 0 (tkStart M.1.2.1 n 0))) : tk_M Z mX12_act d mc ms [.ref m, .int n0, .int day] S QR tk_noX := by
  have hI0 := hI
  obtain ⟨⟨tn, tg, tp⟩, acts, ⟨nS, pr, wo⟩, ⟨nG, os, ps, ls, re, su, du, le, nb, bf, br, bs⟩, ⟨nV, kd, wh, be, bi, pa, pd, la⟩, ⟨nF, mo⟩, ⟨nL, lsu, lra, lrk, ldu⟩, ⟨jn, jb, jd, jk, jw, js, jh⟩, ⟨td, dry, lc⟩⟩ := M
  dsimp only at hR hmc hms H1 H2 H0
  obtain ⟨rT0, rA0, rS0, rG0, rV0, rF0, rL0, rJ0, rD0⟩ := id hI
  obtain ⟨b1, b2, b3, b4, b5, b6, b7, b8, b9, b10, b11⟩ := hB
  have e1 : vA V 1 = tg := rT0.2.1
  have rest : ∀ V' tp' acts' k', aF V V' → vI V' 2 = 0 → vI V' 6 = tp' → actsV V' acts' k' → RI V' k' ((0, tg, tp'), acts', (nS, pr, wo), (nG, os, ps, ls, re, su, du, le, nb, bf, br, bs), (nV, kd, wh, be, bi, pa, pd, la), (nF, mo), (nL, lsu, lra, lrk, ldu), (jn, jb, jd, jk, jw, js, jh), (td, dry, lc)) := by
    intro V' tp' acts' k' hF h2 h6 hA
    obtain ⟨fI, fJ, fA, fL⟩ := hF
    obtain ⟨s1, s2, s3⟩ := rS0
    obtain ⟨g1, g2, g3, g4⟩ := rG0
    obtain ⟨v1, v2, v3, v4, v5, v6, v7, v8⟩ := rV0
    obtain ⟨l1, l2, l3, l4, l5⟩ := rL0
    have a29 := fA 29 (by decide)
    have a46 := fA 46 (by decide)
    have a47 := fA 47 (by decide)
    have a48 := fA 48 (by decide)
    have a49 := fA 49 (by decide)
    have a50 := fA 50 (by decide)
    have a51 := fA 51 (by decide)
    have a52 := fA 52 (by decide)
    have a53 := fA 53 (by decide)
    have a54 := fA 54 (by decide)
    have a23 := fA 23 (by decide)
    have a24 := fA 24 (by decide)
    refine ⟨⟨h2, (fA 1 (by decide)).trans e1, h6⟩, hA, ⟨(fI 28 (by decide) (by decide) (by decide)).trans s1, (fA 26 (by decide)).trans s2, (congrFun fL 27).trans s3⟩, ⟨(fI 31 (by decide) (by decide) (by decide)).trans g1, (fA 30 (by decide)).trans g2, by rw [a46]; exact g3, by rw [a29, a47, a48, a49, a50, a51, a52, a53, a54]; exact g4⟩, ⟨(fI 25 (by decide) (by decide) (by decide)).trans v1, v2, (fA 19 (by decide)).trans v3, (fA 20 (by decide)).trans v4, (fA 21 (by decide)).trans v5, (fA 22 (by decide)).trans v6, by rw [a23, a24]; exact v7, v8⟩, ⟨(fI 45 (by decide) (by decide) (by decide)).trans rF0.1, (congrFun fL 44).trans rF0.2⟩, ⟨(fI 61 (by decide) (by decide) (by decide)).trans l1, (fA 55 (by decide)).trans l2, (fA 56 (by decide)).trans l3, (fA 57 (by decide)).trans l4, (congrFun fL 58).trans l5⟩, rJ0.kp (fI 42 (by decide) (by decide) (by decide)) fJ (fun i a b => fA i (by omega)), ⟨(fI 32 (by decide) (by decide) (by decide)).trans rD0.1, (fI 33 (by decide) (by decide) (by decide)).trans rD0.2.1, (fI 37 (by decide) (by decide) (by decide)).trans rD0.2.2⟩⟩
  refine r_act2 (tn := tn) (acts := acts) (k := k) hd hR rA0 hk hhw hk2 rT0.1 b1 (by rw [e1]; exact hmc) (by rw [e1]; exact hms) (fun w => ?_) (fun w w2 => ?_) (fun n hn hn0 hday hl => ?_)
  · exact H1 w _ ((hI0.t0 0).t0 1) rfl
  · exact H2 w (by omega) _ ((hI0.t0 0).t0 2) rfl
  · rw [e1]
    have H0 := H0 n hn hn0 hday hl
    generalize pActs tg n 2000 0 (tkStart tg n 0) = rt at H0 ⊢
    rcases rt with ps' | ⟨kd', pl', j'⟩
    · intro V' hF h0 h2 h6 hA
      exact H0 V' (rest V' (-1) _ _ hF h2 h6 hA) h0
    · intro V' hF h0 h2 h6 hA
      exact H0 V' (rest V' (nI pl') _ _ hF h2 h6 hA) h0
end RA3

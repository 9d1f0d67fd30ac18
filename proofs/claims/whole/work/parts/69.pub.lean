/-! THE CLASS'S CALLS: mending, letting -/
section PUB9
variable {Z : tk_Z} {d mc ms : Nat} {S : tk_S} {QR : tk_R} {QX : String → tk_S → Prop} {ρ : Nat → Nat} {x : Nat} {gh : gH} {M : Mt}
/-- a load is laid on road b -/
def loadM (M : Mt) (b : Nat) : Mt := (M.1, M.2.1, (M.2.2.1.1, M.2.2.1.2.1, vp_updL M.2.2.1.2.2 b (M.2.2.1.2.2 b - takesOf (M.2.2.1.2.2 b))), M.2.2.2.1, M.2.2.2.2.1, M.2.2.2.2.2.1, M.2.2.2.2.2.2.1, lineM M.2.2.2.2.2.2.2.1 (nI M.2.2.2.2.2.2.2.2.1) 6 (nI b) (-(M.2.2.1.2.1 b)).toInt64, M.2.2.2.2.2.2.2.2)
/-- loads as long as it goes: how many, what then -/
def mendM : Nat → Nat → Mt → Nat × Mt
  | 0, k, M => (k, M)
  | m + 1, k, M => match worthM M.2.2.1.2.1 M.2.2.1.2.2 M.2.2.1.1 0 none with
    | none => (k, M)
    | some b => if M.2.2.2.2.2.2.2.1.2.1 < (M.2.2.1.2.1 b).toInt64 then (k, M) else mendM m (k + 1) (loadM M b)
theorem mendM_ge : ∀ m k (M : Mt), M.2.2.2.2.2.2.2.1.1 ≤ (mendM m k M).2.2.2.2.2.2.2.2.1.1 ∧ (mendM m k M).2.2.2.2.2.2.2.2.1.1 ≤ M.2.2.2.2.2.2.2.1.1 + m := by
  intro m
  induction m with
  | zero => intro k M; exact ⟨Nat.le_refl _, Nat.le_refl _⟩
  | succ m ih =>
    intro k M
    unfold mendM
    split
    · exact ⟨Nat.le_refl _, Nat.le_add_right _ _⟩
    · split
      · exact ⟨Nat.le_refl _, Nat.le_add_right _ _⟩
      · rename_i b _ _
        have h := ih (k + 1) (loadM M b)
        have e : (loadM M b).2.2.2.2.2.2.2.1.1 = M.2.2.2.2.2.2.2.1.1 + 1 := rfl
        rw [e] at h
        omega
set_option maxHeartbeats 8000000 in
theorem c_mend {i : Int32} (hst : Z.1.stackTraces = false) (hd : 8 ≤ d) (hZ : Z.2.2.2.2.2.1 ∉ q_L S) (hC : CI Z ρ S x gh M) (hJ12 : M.2.2.2.2.2.2.2.1.1 + 20 < 12000)
    (hmc : ∀ n : Nat, i = nI n → n ≤ 20 → 1 + 5 * (lvl (mendM n 0 M).2.2.2.2.2.2.2.2.1.1 - lvl M.2.2.2.2.2.2.2.1.1) ≤ mc) (hms : ∀ n : Nat, i = nI n → n ≤ 20 → 6 + 60000 * (lvl (mendM n 0 M).2.2.2.2.2.2.2.2.1.1 - lvl M.2.2.2.2.2.2.2.1.1) ≤ ms) (hmc1 : 1 ≤ mc) (hms6 : 6 ≤ ms)
    (H1 : ¬ (0 ≤ i ∧ i ≤ 20) → QX "java/lang/IllegalArgumentException" S)
    (H0 : ∀ n : Nat, i = nI n → n ≤ 20 → okC Z ρ S x QR (.int (nI (mendM n 0 M).1)) (mendM n 0 M).2) : tk_M Z mX11_mend d mc ms [.ref x, .int i] S QR QX := by
  refine M_X11_mend hst hd (Nat.le_of_ble_eq_true rfl) (fun E hE => hE.1 _ _ _ _ _ ?_)
  show t_X11_mend_0 Z d mc ms QR QX E [some (.ref x), some (.int i), none, none] [] S 0 0
  simp -implicitDefEqProofs [t_X11_mend_0, i_aload, i_iload, i_lload, i_istore, i_lstore, i_astore, i_iinc, i_push, i_getI, i_getJ, i_getR, i_putI, i_putJ, i_putR, i_iadd, i_isub, i_imul, i_iand, i_ior, i_ixor, i_ishl, i_ishr, i_iushr, i_idiv, i_irem, i_ladd, i_lsub, i_lmul, i_land, i_lor, i_lxor, i_ldiv, i_lrem, i_lshl, i_lshr, i_lcmp, i_ineg, i_lneg, i_i2l, i_l2i, i_i2b, i_i2c, i_dup, i_pop, i_dup_x1, i_dup2, i_icmp_eq, i_icmp_lt, i_icmp_ge, i_icmp_gt, i_icmp_le, i_if_eq, i_if_lt, i_if_ge, i_if_gt, i_if_le, i_goto, i_ifnull, i_iald, i_bald, i_zald, i_lald, i_aald, i_iast, i_bast, i_zast, i_last, i_alen, i_iret, i_lret, i_aret, i_vret, i_oinit, i_cast, i_tsw, i_cases, i_mmin, i_mmax, i_lmin, i_throw, nb0, nb1, nint, nby0, rf_s, rf_n, of_r, of_n, tk_orf_rf, tk_c2, tk_ls, Value.category, tk_isR_ref, tk_isR_rf, tk_isR_null]
  refine w_callS (by omega) (by simp) (fun z1 => ?_) (fun z1 => ?_)
  · simp -implicitDefEqProofs [i_aload, i_iload, i_lload, i_istore, i_lstore, i_astore, i_iinc, i_push, i_getI, i_getJ, i_getR, i_putI, i_putJ, i_putR, i_iadd, i_isub, i_imul, i_iand, i_ior, i_ixor, i_ishl, i_ishr, i_iushr, i_idiv, i_irem, i_ladd, i_lsub, i_lmul, i_land, i_lor, i_lxor, i_ldiv, i_lrem, i_lshl, i_lshr, i_lcmp, i_ineg, i_lneg, i_i2l, i_l2i, i_i2b, i_i2c, i_dup, i_pop, i_dup_x1, i_dup2, i_icmp_eq, i_icmp_lt, i_icmp_ge, i_icmp_gt, i_icmp_le, i_if_eq, i_if_lt, i_if_ge, i_if_gt, i_if_le, i_goto, i_ifnull, i_iald, i_bald, i_zald, i_lald, i_aald, i_iast, i_bast, i_zast, i_last, i_alen, i_iret, i_lret, i_aret, i_vret, i_oinit, i_cast, i_tsw, i_cases, i_mmin, i_mmax, i_lmin, i_throw, nb0, nb1, nint, nby0, rf_s, rf_n, of_r, of_n, tk_orf_rf, tk_c2, tk_ls, Value.category, tk_isR_ref, tk_isR_rf, tk_isR_null]
    exact ⟨by omega, by omega, H1 z1⟩
  obtain ⟨n, hn, rfl⟩ := nI_of2 (M := 20) (n := 20) rfl (Int32.not_lt.mpr z1.1) z1.2
  replace hmc := hmc n rfl hn
  replace hms := hms n rfl hn
  replace H0 := H0 n rfl hn
  generalize hP : mendM n 0 M = P at hmc hms H0
  have loop : ∀ m k S1 ρ1 (M1 : Mt) cs ss x3, m + k = n → FO ρ ρ1 S S1 → CI Z ρ1 S1 x gh M1 → Z.2.2.2.2.2.1 ∉ q_L S1 → mendM m k M1 = P → M1.2.2.2.2.2.2.2.1.1 + m ≤ M.2.2.2.2.2.2.2.1.1 + 20 → M.2.2.2.2.2.2.2.1.1 ≤ M1.2.2.2.2.2.2.2.1.1 → cs ≤ 5 * (lvl M1.2.2.2.2.2.2.2.1.1 - lvl M.2.2.2.2.2.2.2.1.1) → ss ≤ 60000 * (lvl M1.2.2.2.2.2.2.2.1.1 - lvl M.2.2.2.2.2.2.2.1.1) → E 22 [some (.ref x), some (.int (nI n)), some (.int (nI k)), x3] [] S1 cs ss := by
    intro m
    induction m with
    | zero =>
      intro k S1 ρ1 M1 cs ss x3 hm hF hC1 hZ1 hM1 hb hJJ hcs hss
      refine hE.2 _ _ _ _ _ ?_
      have hk2 : k = n := by omega
      subst hk2
      have hM2 : (k, M1) = P := hM1
      rw [← hM2] at H0 hmc hms
      dsimp only at hmc hms H0
      simp -implicitDefEqProofs [t_X11_mend_22, i_aload, i_iload, i_lload, i_istore, i_lstore, i_astore, i_iinc, i_push, i_getI, i_getJ, i_getR, i_putI, i_putJ, i_putR, i_iadd, i_isub, i_imul, i_iand, i_ior, i_ixor, i_ishl, i_ishr, i_iushr, i_idiv, i_irem, i_ladd, i_lsub, i_lmul, i_land, i_lor, i_lxor, i_ldiv, i_lrem, i_lshl, i_lshr, i_lcmp, i_ineg, i_lneg, i_i2l, i_l2i, i_i2b, i_i2c, i_dup, i_pop, i_dup_x1, i_dup2, i_icmp_eq, i_icmp_lt, i_icmp_ge, i_icmp_gt, i_icmp_le, i_if_eq, i_if_lt, i_if_ge, i_if_gt, i_if_le, i_goto, i_ifnull, i_iald, i_bald, i_zald, i_lald, i_aald, i_iast, i_bast, i_zast, i_last, i_alen, i_iret, i_lret, i_aret, i_vret, i_oinit, i_cast, i_tsw, i_cases, i_mmin, i_mmax, i_lmin, i_throw, nb0, nb1, nint, nby0, rf_s, rf_n, of_r, of_n, tk_orf_rf, tk_c2, tk_ls, Value.category, tk_isR_ref, tk_isR_rf, tk_isR_null]
      exact ⟨by omega, by omega, H0 S1 ρ1 gh hF hC1⟩
    | succ m ih =>
      intro k S1 ρ1 M1 cs ss x3 hm hF hC1 hZ1 hM1 hb hJJ hcs hss
      refine hE.2 _ _ _ _ _ ?_
      have hC1' := hC1
      have hge := (mendM_ge (m + 1) k M1).1
      rw [hM1] at hge
      have lv := lvl_mono hge
      obtain ⟨fS, fG, fV, p, p2, fF, fL, bl⟩ := gh
      obtain ⟨⟨tn, tg, tp⟩, acts, ⟨nS, pr, wo⟩, ⟨nG, os, ps, ls, re, su, du, le, nb, bf, br, bs⟩, ⟨nV, kd, wh, be, bi, pa, pd, la⟩, ⟨nF, mo⟩, ⟨nL, lsu, lra, lrk, ldu⟩, J, ⟨td, dry, lc⟩⟩ := M1
      obtain ⟨cD0, cT0, cK0, cA0, cS0, cG0, cV0, cF0, cL0, cJ0⟩ := hC1
      obtain ⟨hx, hk, hρ, htd, ht, hdry, hlc⟩ := cD0
      dsimp only at hge hb hJJ hcs hss lv
      have z : ¬ nI n ≤ nI k := nI_ge (by omega) (by omega)
      have ek : nI k + 1 = nI (k + 1) := nI_add k 1
      obtain ⟨bx, r2, r3, r4, r5, r6, j1, j2, jB, j3, -⟩ := id cJ0
      unfold mendM at hM1
      dsimp only at hM1
      simp -implicitDefEqProofs [t_X11_mend_22, i_aload, i_iload, i_lload, i_istore, i_lstore, i_astore, i_iinc, i_push, i_getI, i_getJ, i_getR, i_putI, i_putJ, i_putR, i_iadd, i_isub, i_imul, i_iand, i_ior, i_ixor, i_ishl, i_ishr, i_iushr, i_idiv, i_irem, i_ladd, i_lsub, i_lmul, i_land, i_lor, i_lxor, i_ldiv, i_lrem, i_lshl, i_lshr, i_lcmp, i_ineg, i_lneg, i_i2l, i_l2i, i_i2b, i_i2c, i_dup, i_pop, i_dup_x1, i_dup2, i_icmp_eq, i_icmp_lt, i_icmp_ge, i_icmp_gt, i_icmp_le, i_if_eq, i_if_lt, i_if_ge, i_if_gt, i_if_le, i_goto, i_ifnull, i_iald, i_bald, i_zald, i_lald, i_aald, i_iast, i_bast, i_zast, i_last, i_alen, i_iret, i_lret, i_aret, i_vret, i_oinit, i_cast, i_tsw, i_cases, i_mmin, i_mmax, i_lmin, i_throw, nb0, nb1, nint, nby0, rf_s, rf_n, of_r, of_n, tk_orf_rf, tk_c2, tk_ls, Value.category, tk_isR_ref, tk_isR_rf, tk_isR_null, z]
      refine ⟨by simp, hx, hk, by simp [Value.category], 4, 0, 0, by omega, by omega, by omega, ?_⟩
      refine m_worthMost (Nat.le_refl 4) hx hk cS0 ?_ (fun b hb => worthM_lt nS 0 none rfl (fun j hj => by cases hj) b hb)
      have hlt := worthM_lt (pr := pr) (wo := wo) nS 0 none rfl (fun j hj => by cases hj)
      generalize worthM pr wo nS 0 none = ob at hM1 hlt
      rcases ob with _ | b
      · dsimp only at hM1
        rw [← hM1] at H0 hmc hms
        dsimp only at H0 hmc hms
        simp -implicitDefEqProofs [i_aload, i_iload, i_lload, i_istore, i_lstore, i_astore, i_iinc, i_push, i_getI, i_getJ, i_getR, i_putI, i_putJ, i_putR, i_iadd, i_isub, i_imul, i_iand, i_ior, i_ixor, i_ishl, i_ishr, i_iushr, i_idiv, i_irem, i_ladd, i_lsub, i_lmul, i_land, i_lor, i_lxor, i_ldiv, i_lrem, i_lshl, i_lshr, i_lcmp, i_ineg, i_lneg, i_i2l, i_l2i, i_i2b, i_i2c, i_dup, i_pop, i_dup_x1, i_dup2, i_icmp_eq, i_icmp_lt, i_icmp_ge, i_icmp_gt, i_icmp_le, i_if_eq, i_if_lt, i_if_ge, i_if_gt, i_if_le, i_goto, i_ifnull, i_iald, i_bald, i_zald, i_lald, i_aald, i_iast, i_bast, i_zast, i_last, i_alen, i_iret, i_lret, i_aret, i_vret, i_oinit, i_cast, i_tsw, i_cases, i_mmin, i_mmax, i_lmin, i_throw, nb0, nb1, nint, nby0, rf_s, rf_n, of_r, of_n, tk_orf_rf, tk_c2, tk_ls, Value.category, tk_isR_ref, tk_isR_rf, tk_isR_null]
        exact ⟨by omega, by omega, H0 S1 ρ1 _ hF hC1'⟩
      have hbn := hlt b rfl
      dsimp only at hM1
      obtain ⟨l, e, h1, h2, h3, h4, h5⟩ := id cS0
      obtain ⟨y1, y2⟩ := h2.1.2.2.2.2.2.2.1 b hbn
      obtain ⟨v1, v2, v3⟩ := h5 b hbn
      have hbr := h2.2.2.2 b hbn
      simp -implicitDefEqProofs [i_aload, i_iload, i_lload, i_istore, i_lstore, i_astore, i_iinc, i_push, i_getI, i_getJ, i_getR, i_putI, i_putJ, i_putR, i_iadd, i_isub, i_imul, i_iand, i_ior, i_ixor, i_ishl, i_ishr, i_iushr, i_idiv, i_irem, i_ladd, i_lsub, i_lmul, i_land, i_lor, i_lxor, i_ldiv, i_lrem, i_lshl, i_lshr, i_lcmp, i_ineg, i_lneg, i_i2l, i_l2i, i_i2b, i_i2c, i_dup, i_pop, i_dup_x1, i_dup2, i_icmp_eq, i_icmp_lt, i_icmp_ge, i_icmp_gt, i_icmp_le, i_if_eq, i_if_lt, i_if_ge, i_if_gt, i_if_le, i_goto, i_ifnull, i_iald, i_bald, i_zald, i_lald, i_aald, i_iast, i_bast, i_zast, i_last, i_alen, i_iret, i_lret, i_aret, i_vret, i_oinit, i_cast, i_tsw, i_cases, i_mmin, i_mmax, i_lmin, i_throw, nb0, nb1, nint, nby0, rf_s, rf_n, of_r, of_n, tk_orf_rf, tk_c2, tk_ls, Value.category, tk_isR_ref, tk_isR_rf, tk_isR_null, hx, hk, j1, jB.1.1, jB.1.2.1, jB.2.2.1, y1, y2, v1, v2, v3, lg_cmp_lt, lg_cmp_ge]
      refine ⟨fun w => ?_, fun w => ?_⟩
      · rw [if_neg (Int64.not_lt.mpr w)] at hM1
        refine ⟨by simp, y1, y2, by simp [Value.category], 1, 0, 0, by omega, by omega, by omega, ?_⟩
        refine m_loadTakes (Nat.le_refl 1) y1 y2 ?_
        rw [v3]
        have et : (if 50 < wo b then 50 else wo b) = takesOf (wo b) := rfl
        rw [et]
        have hxb : x ≠ fS b := ne_of_role hρ hbr (by decide)
        simp -implicitDefEqProofs [i_aload, i_iload, i_lload, i_istore, i_lstore, i_astore, i_iinc, i_push, i_getI, i_getJ, i_getR, i_putI, i_putJ, i_putR, i_iadd, i_isub, i_imul, i_iand, i_ior, i_ixor, i_ishl, i_ishr, i_iushr, i_idiv, i_irem, i_ladd, i_lsub, i_lmul, i_land, i_lor, i_lxor, i_ldiv, i_lrem, i_lshl, i_lshr, i_lcmp, i_ineg, i_lneg, i_i2l, i_l2i, i_i2b, i_i2c, i_dup, i_pop, i_dup_x1, i_dup2, i_icmp_eq, i_icmp_lt, i_icmp_ge, i_icmp_gt, i_icmp_le, i_if_eq, i_if_lt, i_if_ge, i_if_gt, i_if_le, i_goto, i_ifnull, i_iald, i_bald, i_zald, i_lald, i_aald, i_iast, i_bast, i_zast, i_last, i_alen, i_iret, i_lret, i_aret, i_vret, i_oinit, i_cast, i_tsw, i_cases, i_mmin, i_mmax, i_lmin, i_throw, nb0, nb1, nint, nby0, rf_s, rf_n, of_r, of_n, tk_orf_rf, tk_c2, tk_ls, Value.category, tk_isR_ref, tk_isR_rf, tk_isR_null, z_q_L_s_I, z_q_K_s_I, z_q_I_s_I, z_q_J_s_I, z_q_R_s_I, z_q_n_s_I, z_q_aI_s_I, z_q_aJ_s_I, z_q_aR_s_I, z_q_L_s_J, z_q_K_s_J, z_q_I_s_J, z_q_J_s_J, z_q_R_s_J, z_q_n_s_J, z_q_aI_s_J, z_q_aJ_s_J, z_q_aR_s_J, z_q_L_s_R, z_q_K_s_R, z_q_I_s_R, z_q_J_s_R, z_q_R_s_R, z_q_n_s_R, z_q_aI_s_R, z_q_aJ_s_R, z_q_aR_s_R, z_q_L_s_aI, z_q_K_s_aI, z_q_I_s_aI, z_q_J_s_aI, z_q_R_s_aI, z_q_n_s_aI, z_q_aI_s_aI, z_q_aJ_s_aI, z_q_aR_s_aI, z_q_L_s_aJ, z_q_K_s_aJ, z_q_I_s_aJ, z_q_J_s_aJ, z_q_R_s_aJ, z_q_n_s_aJ, z_q_aI_s_aJ, z_q_aJ_s_aJ, z_q_aR_s_aJ, z_q_L_s_aR, z_q_K_s_aR, z_q_I_s_aR, z_q_J_s_aR, z_q_R_s_aR, z_q_n_s_aR, z_q_aI_s_aR, z_q_aJ_s_aR, z_q_aR_s_aR, z_q_L_s_new, z_q_K_s_new, z_q_I_s_new, z_q_J_s_new, z_q_R_s_new, z_q_n_s_new, z_q_aI_s_new, z_q_aJ_s_new, z_q_aR_s_new, z_q_L_s_arr, z_q_K_s_arr, z_q_I_s_arr, z_q_J_s_arr, z_q_R_s_arr, z_q_n_s_arr, z_q_aI_s_arr, z_q_aJ_s_arr, z_q_aR_s_arr, y1, y2, hx, hk, j1, htd, v1, v2]
        have c2 := CI.wo (j := b) hC1' hZ1 hbn (wo b - takesOf (wo b))
        obtain ⟨c2, F2, sx2⟩ := c2
        dsimp only at c2 F2 sx2
        generalize hS2 : s_J S1 10 2 (fS b) (wo b - takesOf (wo b)) = S2 at c2 F2 sx2 ⊢
        have hZ2 : Z.2.2.2.2.2.1 ∉ q_L S2 := by rw [← hS2]; exact hZ1
        obtain ⟨⟨hx2, hk2, hρ2, htd2, -⟩, cT2, cK2, cA2, cS2, cG2, cV2, cF2, cL2, cJ2⟩ := id c2
        have l3 := lvl_mono (show J.1 ≤ J.1 + 1 by omega)
        have l4 := lvl_mono hJJ
        have hge2 := (mendM_ge m (k + 1) (loadM ((tn, tg, tp), acts, (nS, pr, wo), (nG, os, ps, ls, re, su, du, le, nb, bf, br, bs), (nV, kd, wh, be, bi, pa, pd, la), (nF, mo), (nL, lsu, lra, lrk, ldu), J, (td, dry, lc)) b)).1
        rw [hM1] at hge2
        have hge3 : J.1 + 1 ≤ P.2.2.2.2.2.2.2.2.1.1 := hge2
        have l5 := lvl_mono hge3
        have hj2' := (sx2.2.2.2.2.1 12 2).trans j1
        obtain ⟨bx', w2, w3, w4, w5, w6, w7, w8, wB, -⟩ := id cJ2
        have ebx : bx' = bx := by rw [hj2'] at w7; exact (Option.some.inj w7).symm
        subst ebx
        refine ⟨by simp, wB.1.1, wB.1.2.1, by simp [Value.category], 3, 5 * (lvl (J.1 + 1) - lvl J.1), 60000 * (lvl (J.1 + 1) - lvl J.1), by omega, by omega, by omega, ?_⟩
        refine tk_M.out (m_line (Nat.le_refl 3) cJ2 hx2 hk2 hρ2 hj2' (by omega) (Nat.le_refl _) (Nat.le_refl _) (fun S3 ρ3 g3 s3 r3' hJ3 hZ3 => ?_))
        have sx3 := s3 x hx2 (by rw [hρ2]; simp)
        simp -implicitDefEqProofs [i_aload, i_iload, i_lload, i_istore, i_lstore, i_astore, i_iinc, i_push, i_getI, i_getJ, i_getR, i_putI, i_putJ, i_putR, i_iadd, i_isub, i_imul, i_iand, i_ior, i_ixor, i_ishl, i_ishr, i_iushr, i_idiv, i_irem, i_ladd, i_lsub, i_lmul, i_land, i_lor, i_lxor, i_ldiv, i_lrem, i_lshl, i_lshr, i_lcmp, i_ineg, i_lneg, i_i2l, i_l2i, i_i2b, i_i2c, i_dup, i_pop, i_dup_x1, i_dup2, i_icmp_eq, i_icmp_lt, i_icmp_ge, i_icmp_gt, i_icmp_le, i_if_eq, i_if_lt, i_if_ge, i_if_gt, i_if_le, i_goto, i_ifnull, i_iald, i_bald, i_zald, i_lald, i_aald, i_iast, i_bast, i_zast, i_last, i_alen, i_iret, i_lret, i_aret, i_vret, i_oinit, i_cast, i_tsw, i_cases, i_mmin, i_mmax, i_lmin, i_throw, nb0, nb1, nint, nby0, rf_s, rf_n, of_r, of_n, tk_orf_rf, tk_c2, tk_ls, Value.category, tk_isR_ref, tk_isR_rf, tk_isR_null, ek]
        have F3 : FO ρ1 ρ3 S2 S3 := FO.of g3 r3' s3 (by simp)
        refine ih (k + 1) S3 ρ3 (loadM ((tn, tg, tp), acts, (nS, pr, wo), (nG, os, ps, ls, re, su, du, le, nb, bf, br, bs), (nV, kd, wh, be, bi, pa, pd, la), (nF, mo), (nL, lsu, lra, lrk, ldu), J, (td, dry, lc)) b) _ _ _ (by omega) (hF.trans (F2.trans F3)) ⟨cD.same c2.1 sx3 (r3' x hx2), cT2.same (xr.of sx3) (sm.no s3 (by simp)) r3', cK2.same (xr.of sx3) (sm.no s3 (by simp)) r3', cA2.same hZ2 (xr.of sx3) (sm.no s3 (by simp)) r3', cS2.same hZ2 (xr.of sx3) (sm.no s3 (by simp)) r3', cG2.same hZ2 (xr.of sx3) (sm.no s3 (by simp)) r3', cV2.same hZ2 (xr.of sx3) (sm.no s3 (by simp)) r3', cF2.same hZ2 (xr.of sx3) (sm.no s3 (by simp)) r3', cL2.same hZ2 (xr.of sx3) (sm.no s3 (by simp)) r3', hJ3⟩ hZ3 hM1 ?_ ?_ ?_ ?_
        · show J.1 + 1 + m ≤ _
          omega
        · show _ ≤ J.1 + 1
          omega
        · show _ ≤ 5 * (lvl (J.1 + 1) - _)
          omega
        · show _ ≤ 60000 * (lvl (J.1 + 1) - _)
          omega
      · rw [if_pos w] at hM1
        rw [← hM1] at H0 hmc hms
        dsimp only at H0 hmc hms
        exact ⟨by omega, by omega, H0 S1 ρ1 _ hF hC1'⟩
  simp -implicitDefEqProofs [i_aload, i_iload, i_lload, i_istore, i_lstore, i_astore, i_iinc, i_push, i_getI, i_getJ, i_getR, i_putI, i_putJ, i_putR, i_iadd, i_isub, i_imul, i_iand, i_ior, i_ixor, i_ishl, i_ishr, i_iushr, i_idiv, i_irem, i_ladd, i_lsub, i_lmul, i_land, i_lor, i_lxor, i_ldiv, i_lrem, i_lshl, i_lshr, i_lcmp, i_ineg, i_lneg, i_i2l, i_l2i, i_i2b, i_i2c, i_dup, i_pop, i_dup_x1, i_dup2, i_icmp_eq, i_icmp_lt, i_icmp_ge, i_icmp_gt, i_icmp_le, i_if_eq, i_if_lt, i_if_ge, i_if_gt, i_if_le, i_goto, i_ifnull, i_iald, i_bald, i_zald, i_lald, i_aald, i_iast, i_bast, i_zast, i_last, i_alen, i_iret, i_lret, i_aret, i_vret, i_oinit, i_cast, i_tsw, i_cases, i_mmin, i_mmax, i_lmin, i_throw, nb0, nb1, nint, nby0, rf_s, rf_n, of_r, of_n, tk_orf_rf, tk_c2, tk_ls, Value.category, tk_isR_ref, tk_isR_rf, tk_isR_null]
  exact loop n 0 S ρ M 0 0 _ rfl FO.rfl' hC hZ hP (by omega) (Nat.le_refl _) (Nat.zero_le _) (Nat.zero_le _)
end PUB9

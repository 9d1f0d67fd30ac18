/-! THE REFERENCE'S CALLS: mend -/
section RMEND
variable {Z : tk_Z} {d mc ms : Nat} {QR : tk_R} {m hw k : Nat} {B : bS} {V V1 V2 : vR} {ρ : Nat → Nat} {S : tk_S} {R : Nat → Nat} {M : Mt}
theorem takes_eq (w : Int64) : (if w < 50 then w else 50) = takesOf w := by
  unfold takesOf
  by_cases h : w < 50
  · rw [if_pos h, if_neg (Int64.not_lt.mpr (Int64.le_of_lt h))]
  · rw [if_neg h]
    by_cases h2 : 50 < w
    · rw [if_pos h2]
    · rw [if_neg h2]
      exact Int64.le_antisymm (Int64.not_lt.mp h) (Int64.not_lt.mp h2)
set_option maxHeartbeats 8000000 in
theorem r_mend1 {E : tk_E} {cs0 ss0 j : Nat} {n0 : Int32} (hE42 : ∀ ls st S cs ss, t_X12_mend_42 Z d mc ms QR E ls st S cs ss → E 42 ls st S cs ss)
    (hd : 2 ≤ d) (hR : RS B m ρ S (rLk (cp 400 hw) (cp 600 M.2.2.2.2.2.2.2.1.1)) R V) (hI : RI V k M) (hn : M.2.2.1.1 ≤ 12) (h0 : vI V 0 = 0) (hw0 : ∀ i, i < M.2.2.1.1 → 0 ≤ M.2.2.1.2.2 i) (hJ : M.2.2.2.2.2.2.2.1.1 < 12000)
    (hcs : cs0 ≤ mc) (hss : ss0 ≤ ms) (hmc : ∀ b, worthM M.2.2.1.2.1 M.2.2.1.2.2 M.2.2.1.1 0 none = some b → ¬ M.2.2.2.2.2.2.2.1.2.1 < (M.2.2.1.2.1 b).toInt64 → cs0 + 4 * (lv 600 (M.2.2.2.2.2.2.2.1.1 + 1) - lv 600 M.2.2.2.2.2.2.2.1.1) ≤ mc) (hms : ∀ b, worthM M.2.2.1.2.1 M.2.2.1.2.2 M.2.2.1.1 0 none = some b → ¬ M.2.2.2.2.2.2.2.1.2.1 < (M.2.2.1.2.1 b).toInt64 → ss0 + 80000 * (lv 600 (M.2.2.2.2.2.2.2.1.1 + 1) - lv 600 M.2.2.2.2.2.2.2.1.1) ≤ ms)
    (H1 : (∀ b, worthM M.2.2.1.2.1 M.2.2.1.2.2 M.2.2.1.1 0 none = some b → M.2.2.2.2.2.2.2.1.2.1 < (M.2.2.1.2.1 b).toInt64) → QR (some (.int (nI j))) S)
    (H0 : ∀ b, worthM M.2.2.1.2.1 M.2.2.1.2.2 M.2.2.1.1 0 none = some b → ¬ M.2.2.2.2.2.2.2.1.2.1 < (M.2.2.1.2.1 b).toInt64 → ∀ V' ρ' S' R' x3 x4, RS B m ρ' S' (rLk (cp 400 hw) (cp 600 (M.2.2.2.2.2.2.2.1.1 + 1))) R' V' → RI V' k (loadM M b) → vI V' 0 = 0 → E 32 [some (.ref m), some (.int n0), some (.int (nI (j + 1))), x3, x4] [] S' (cs0 + 4 * (lv 600 (M.2.2.2.2.2.2.2.1.1 + 1) - lv 600 M.2.2.2.2.2.2.2.1.1)) (ss0 + 80000 * (lv 600 (M.2.2.2.2.2.2.2.1.1 + 1) - lv 600 M.2.2.2.2.2.2.2.1.1))) :
    E 42 [some (.ref m), some (.int n0), some (.int (nI j)), some (.int (-1)), some (.int 0)] [] S cs0 ss0 := by
  obtain ⟨⟨tn, tg, tp⟩, acts, ⟨nS, pr, wo⟩, ⟨nG, os, ps, ls, re, su, du, le, nb, bf, br, bs⟩, ⟨nV, kd, wh, be, bi, pa, pd, la⟩, ⟨nF, mo⟩, ⟨nL, lsu, lra, lrk, ldu⟩, ⟨jn, jb, jd, jk, jw, js, jh⟩, ⟨td, dry, lc⟩⟩ := M
  dsimp only at hR hn hw0 hJ hmc hms H1 H0 ⊢
  obtain ⟨rT0, rA0, rS0, rG0, rV0, rF0, rL0, rJ0, rD0⟩ := id hI
  obtain ⟨h1, h2, h3⟩ := id hR.1.1
  obtain ⟨s1, s2, s3⟩ := rS0
  have e28 : q_I S 13 28 m = nI nS := (hR.2.1.1 28).trans s1
  have e43 : q_J S 13 43 m = jb := hR.2.1.2.1.trans rJ0.2.1
  obtain ⟨a26, b26, c26, d26, -⟩ := hR.1.2 26 _ _ rfl
  have x26 := hR.2.1.2.2.1 26 _ _ rfl (by decide)
  obtain ⟨a27, b27, c27, d27, -⟩ := hR.1.2 27 _ _ rfl
  have x27 := hR.2.1.2.2.2 27 _ rfl
  rw [s2] at x26
  rw [s3] at x27
  have loop : ∀ q i b, q + i = nS → (∀ j, b = some j → j < nS) → worthM pr wo nS 0 none = worthM pr wo q i b → E 42 [some (.ref m), some (.int n0), some (.int (nI j)), some (.int (bsI b)), some (.int (nI i))] [] S cs0 ss0 := by
    intro q
    induction q with
    | zero =>
      intro i b hi hbn hb
      refine hE42 _ _ _ _ _ ?_
      have z : nI nS ≤ nI i := nI_le (by omega) (by omega)
      rw [worthM] at hb
      rcases b with _ | t
      · have zb : (-1 : Int32) < 0 := by decide
        simp -implicitDefEqProofs [t_X12_mend_42, i_aload, i_iload, i_lload, i_istore, i_lstore, i_astore, i_iinc, i_push, i_getI, i_getJ, i_getR, i_putI, i_putJ, i_putR, i_iadd, i_isub, i_imul, i_iand, i_ior, i_ixor, i_ishl, i_ishr, i_iushr, i_idiv, i_irem, i_ladd, i_lsub, i_lmul, i_land, i_lor, i_lxor, i_ldiv, i_lrem, i_lshl, i_lshr, i_lcmp, i_ineg, i_lneg, i_i2l, i_l2i, i_i2b, i_i2c, i_dup, i_pop, i_dup_x1, i_dup2, i_icmp_eq, i_icmp_lt, i_icmp_ge, i_icmp_gt, i_icmp_le, i_if_eq, i_if_lt, i_if_ge, i_if_gt, i_if_le, i_goto, i_ifnull, i_iald, i_bald, i_zald, i_lald, i_aald, i_iast, i_bast, i_zast, i_last, i_alen, i_iret, i_lret, i_aret, i_vret, i_oinit, i_cast, i_tsw, i_cases, i_mmin, i_mmax, i_lmin, i_throw, nb0, nb1, nint, nby0, rf_s, rf_n, of_r, of_n, tk_orf_rf, tk_c2, tk_ls, Value.category, tk_isR_ref, tk_isR_rf, tk_isR_null, h1, h2, e28, z, bsI, zb]
        exact ⟨hcs, hss, H1 (fun b hb' => by rw [hb] at hb'; cases hb')⟩
      · have ht := hbn t rfl
        have zb : ¬ nI t < 0 := nI_pos (by omega)
        have hint : vp_in (nI t) 12 := vp_in_nI (by omega) (by omega)
        have ct : (nI t).toNatClampNeg = t := nI_clamp (by omega)
        have ek : nI j + 1 = nI (j + 1) := nI_add j 1
        simp -implicitDefEqProofs [t_X12_mend_42, i_aload, i_iload, i_lload, i_istore, i_lstore, i_astore, i_iinc, i_push, i_getI, i_getJ, i_getR, i_putI, i_putJ, i_putR, i_iadd, i_isub, i_imul, i_iand, i_ior, i_ixor, i_ishl, i_ishr, i_iushr, i_idiv, i_irem, i_ladd, i_lsub, i_lmul, i_land, i_lor, i_lxor, i_ldiv, i_lrem, i_lshl, i_lshr, i_lcmp, i_ineg, i_lneg, i_i2l, i_l2i, i_i2b, i_i2c, i_dup, i_pop, i_dup_x1, i_dup2, i_icmp_eq, i_icmp_lt, i_icmp_ge, i_icmp_gt, i_icmp_le, i_if_eq, i_if_lt, i_if_ge, i_if_gt, i_if_le, i_goto, i_ifnull, i_iald, i_bald, i_zald, i_lald, i_aald, i_iast, i_bast, i_zast, i_last, i_alen, i_iret, i_lret, i_aret, i_vret, i_oinit, i_cast, i_tsw, i_cases, i_mmin, i_mmax, i_lmin, i_throw, nb0, nb1, nint, nby0, rf_s, rf_n, of_r, of_n, tk_orf_rf, tk_c2, tk_ls, Value.category, tk_isR_ref, tk_isR_rf, tk_isR_null, z_q_L_s_I, z_q_K_s_I, z_q_I_s_I, z_q_J_s_I, z_q_R_s_I, z_q_n_s_I, z_q_aI_s_I, z_q_aJ_s_I, z_q_aR_s_I, z_q_L_s_J, z_q_K_s_J, z_q_I_s_J, z_q_J_s_J, z_q_R_s_J, z_q_n_s_J, z_q_aI_s_J, z_q_aJ_s_J, z_q_aR_s_J, z_q_L_s_R, z_q_K_s_R, z_q_I_s_R, z_q_J_s_R, z_q_R_s_R, z_q_n_s_R, z_q_aI_s_R, z_q_aJ_s_R, z_q_aR_s_R, z_q_L_s_aI, z_q_K_s_aI, z_q_I_s_aI, z_q_J_s_aI, z_q_R_s_aI, z_q_n_s_aI, z_q_aI_s_aI, z_q_aJ_s_aI, z_q_aR_s_aI, z_q_L_s_aJ, z_q_K_s_aJ, z_q_I_s_aJ, z_q_J_s_aJ, z_q_R_s_aJ, z_q_n_s_aJ, z_q_aI_s_aJ, z_q_aJ_s_aJ, z_q_aR_s_aJ, z_q_L_s_aR, z_q_K_s_aR, z_q_I_s_aR, z_q_J_s_aR, z_q_R_s_aR, z_q_n_s_aR, z_q_aI_s_aR, z_q_aJ_s_aR, z_q_aR_s_aR, z_q_L_s_new, z_q_K_s_new, z_q_I_s_new, z_q_J_s_new, z_q_R_s_new, z_q_n_s_new, z_q_aI_s_new, z_q_aJ_s_new, z_q_aR_s_new, z_q_L_s_arr, z_q_K_s_arr, z_q_I_s_arr, z_q_J_s_arr, z_q_R_s_arr, z_q_n_s_arr, z_q_aI_s_arr, z_q_aJ_s_arr, z_q_aR_s_arr, h1, h2, e28, e43, z, bsI, zb, a26, b26, c26, d26, x26, a27, b27, c27, d27, x27, hint, ct, lg_cmp_ge]
        refine ⟨fun w => ?_, fun w => ?_⟩
        · have hnb : ¬ jb < (pr t).toInt64 := Int64.not_lt.mpr w
          have hmc := hmc t hb hnb
          have hms := hms t hb hnb
          have H0 := H0 t hb hnb
          refine ⟨by simp, h1, h2, by simp [Value.category], 0, 0, 0, by omega, by omega, by omega, ?_⟩
          refine r_takes (n := nS) (cap := 12) (r := R 27) (wo := wo) hR.1.1 (hR.1.2 27 _ _ rfl) (Nat.le_refl 12) ht hn (fun s _ => by rw [x27]) ?_
          rw [takes_eq]
          simp -implicitDefEqProofs [i_aload, i_iload, i_lload, i_istore, i_lstore, i_astore, i_iinc, i_push, i_getI, i_getJ, i_getR, i_putI, i_putJ, i_putR, i_iadd, i_isub, i_imul, i_iand, i_ior, i_ixor, i_ishl, i_ishr, i_iushr, i_idiv, i_irem, i_ladd, i_lsub, i_lmul, i_land, i_lor, i_lxor, i_ldiv, i_lrem, i_lshl, i_lshr, i_lcmp, i_ineg, i_lneg, i_i2l, i_l2i, i_i2b, i_i2c, i_dup, i_pop, i_dup_x1, i_dup2, i_icmp_eq, i_icmp_lt, i_icmp_ge, i_icmp_gt, i_icmp_le, i_if_eq, i_if_lt, i_if_ge, i_if_gt, i_if_le, i_goto, i_ifnull, i_iald, i_bald, i_zald, i_lald, i_aald, i_iast, i_bast, i_zast, i_last, i_alen, i_iret, i_lret, i_aret, i_vret, i_oinit, i_cast, i_tsw, i_cases, i_mmin, i_mmax, i_lmin, i_throw, nb0, nb1, nint, nby0, rf_s, rf_n, of_r, of_n, tk_orf_rf, tk_c2, tk_ls, Value.category, tk_isR_ref, tk_isR_rf, tk_isR_null, z_q_L_s_I, z_q_K_s_I, z_q_I_s_I, z_q_J_s_I, z_q_R_s_I, z_q_n_s_I, z_q_aI_s_I, z_q_aJ_s_I, z_q_aR_s_I, z_q_L_s_J, z_q_K_s_J, z_q_I_s_J, z_q_J_s_J, z_q_R_s_J, z_q_n_s_J, z_q_aI_s_J, z_q_aJ_s_J, z_q_aR_s_J, z_q_L_s_R, z_q_K_s_R, z_q_I_s_R, z_q_J_s_R, z_q_R_s_R, z_q_n_s_R, z_q_aI_s_R, z_q_aJ_s_R, z_q_aR_s_R, z_q_L_s_aI, z_q_K_s_aI, z_q_I_s_aI, z_q_J_s_aI, z_q_R_s_aI, z_q_n_s_aI, z_q_aI_s_aI, z_q_aJ_s_aI, z_q_aR_s_aI, z_q_L_s_aJ, z_q_K_s_aJ, z_q_I_s_aJ, z_q_J_s_aJ, z_q_R_s_aJ, z_q_n_s_aJ, z_q_aI_s_aJ, z_q_aJ_s_aJ, z_q_aR_s_aJ, z_q_L_s_aR, z_q_K_s_aR, z_q_I_s_aR, z_q_J_s_aR, z_q_R_s_aR, z_q_n_s_aR, z_q_aI_s_aR, z_q_aJ_s_aR, z_q_aR_s_aR, z_q_L_s_new, z_q_K_s_new, z_q_I_s_new, z_q_J_s_new, z_q_R_s_new, z_q_n_s_new, z_q_aI_s_new, z_q_aJ_s_new, z_q_aR_s_new, z_q_L_s_arr, z_q_K_s_arr, z_q_I_s_arr, z_q_J_s_arr, z_q_R_s_arr, z_q_n_s_arr, z_q_aI_s_arr, z_q_aJ_s_arr, z_q_aR_s_arr, h1, h2, a26, b26, c26, d26, x26, a27, b27, c27, d27, x27, hint, ct]
          have hR2 := hR.iL (k := 27) rfl (vp_updL wo t (wo t - takesOf (wo t)))
          refine call_line (n := jn) hd hR2 rJ0.1 hJ hmc hms (fun f1 f2 f3 f4 ρ' S' R' hf hR' => ?_)
          generalize 4 * (lv 600 (jn + 1) - lv 600 jn) = mc1 at *
          generalize 80000 * (lv 600 (jn + 1) - lv 600 jn) = ms1 at *
          simp -implicitDefEqProofs [i_aload, i_iload, i_lload, i_istore, i_lstore, i_astore, i_iinc, i_push, i_getI, i_getJ, i_getR, i_putI, i_putJ, i_putR, i_iadd, i_isub, i_imul, i_iand, i_ior, i_ixor, i_ishl, i_ishr, i_iushr, i_idiv, i_irem, i_ladd, i_lsub, i_lmul, i_land, i_lor, i_lxor, i_ldiv, i_lrem, i_lshl, i_lshr, i_lcmp, i_ineg, i_lneg, i_i2l, i_l2i, i_i2b, i_i2c, i_dup, i_pop, i_dup_x1, i_dup2, i_icmp_eq, i_icmp_lt, i_icmp_ge, i_icmp_gt, i_icmp_le, i_if_eq, i_if_lt, i_if_ge, i_if_gt, i_if_le, i_goto, i_ifnull, i_iald, i_bald, i_zald, i_lald, i_aald, i_iast, i_bast, i_zast, i_last, i_alen, i_iret, i_lret, i_aret, i_vret, i_oinit, i_cast, i_tsw, i_cases, i_mmin, i_mmax, i_lmin, i_throw, nb0, nb1, nint, nby0, rf_s, rf_n, of_r, of_n, tk_orf_rf, tk_c2, tk_ls, Value.category, tk_isR_ref, tk_isR_rf, tk_isR_null, ek]
          refine H0 _ ρ' S' R' _ _ hR' ?_ h0
          have hj := rJn.line (td := nI td) (kind := 6) (who := nI t) (sum := (-(pr t)).toInt64) (f1 := f1) (f2 := f2) (f3 := f3) (f4 := f4) (V := wL V 27 (vp_updL wo t (wo t - takesOf (wo t)))) (J := (jn, jb, jd, jk, jw, js, jh)) rJ0 rD0.1 hf (l32 _)
          exact ⟨rT0, rA0, ⟨s1, s2, rfl⟩, rG0, rV0, rF0, rL0, hj, rD0⟩
        · exact ⟨hcs, hss, H1 (fun b hb' => by rw [hb] at hb'; cases hb'; exact w)⟩
    | succ q ih =>
      intro i b hi hbn hb
      refine hE42 _ _ _ _ _ ?_
      have z : ¬ nI nS ≤ nI i := nI_ge (by omega) (by omega)
      have ek : nI i + 1 = nI (i + 1) := nI_add i 1
      have hin : vp_in (nI i) 12 := vp_in_nI (by omega) (by omega)
      have ci : (nI i).toNatClampNeg = i := nI_clamp (by omega)
      have hi12 : i < nS := by omega
      rw [worthM] at hb
      have stay : worthMb pr wo b i = false → E 42 [some (.ref m), some (.int n0), some (.int (nI j)), some (.int (bsI b)), some (.int (nI (i + 1)))] [] S cs0 ss0 := fun hq => by
        refine ih (i + 1) b (by omega) hbn ?_
        rw [hb, hq, if_neg (by decide)]
      have take : worthMb pr wo b i = true → E 42 [some (.ref m), some (.int n0), some (.int (nI j)), some (.int (nI i)), some (.int (nI (i + 1)))] [] S cs0 ss0 := fun hq => by
        refine ih (i + 1) (some i) (by omega) (fun t ht => by cases ht; omega) ?_
        rw [hb, hq, if_pos rfl]
      have hwi := hw0 i hi12
      rcases b with _ | t
      · have zb : (-1 : Int32) < 0 := by decide
        simp -implicitDefEqProofs [t_X12_mend_42, i_aload, i_iload, i_lload, i_istore, i_lstore, i_astore, i_iinc, i_push, i_getI, i_getJ, i_getR, i_putI, i_putJ, i_putR, i_iadd, i_isub, i_imul, i_iand, i_ior, i_ixor, i_ishl, i_ishr, i_iushr, i_idiv, i_irem, i_ladd, i_lsub, i_lmul, i_land, i_lor, i_lxor, i_ldiv, i_lrem, i_lshl, i_lshr, i_lcmp, i_ineg, i_lneg, i_i2l, i_l2i, i_i2b, i_i2c, i_dup, i_pop, i_dup_x1, i_dup2, i_icmp_eq, i_icmp_lt, i_icmp_ge, i_icmp_gt, i_icmp_le, i_if_eq, i_if_lt, i_if_ge, i_if_gt, i_if_le, i_goto, i_ifnull, i_iald, i_bald, i_zald, i_lald, i_aald, i_iast, i_bast, i_zast, i_last, i_alen, i_iret, i_lret, i_aret, i_vret, i_oinit, i_cast, i_tsw, i_cases, i_mmin, i_mmax, i_lmin, i_throw, nb0, nb1, nint, nby0, rf_s, rf_n, of_r, of_n, tk_orf_rf, tk_c2, tk_ls, Value.category, tk_isR_ref, tk_isR_rf, tk_isR_null, z_q_L_s_I, z_q_K_s_I, z_q_I_s_I, z_q_J_s_I, z_q_R_s_I, z_q_n_s_I, z_q_aI_s_I, z_q_aJ_s_I, z_q_aR_s_I, z_q_L_s_J, z_q_K_s_J, z_q_I_s_J, z_q_J_s_J, z_q_R_s_J, z_q_n_s_J, z_q_aI_s_J, z_q_aJ_s_J, z_q_aR_s_J, z_q_L_s_R, z_q_K_s_R, z_q_I_s_R, z_q_J_s_R, z_q_R_s_R, z_q_n_s_R, z_q_aI_s_R, z_q_aJ_s_R, z_q_aR_s_R, z_q_L_s_aI, z_q_K_s_aI, z_q_I_s_aI, z_q_J_s_aI, z_q_R_s_aI, z_q_n_s_aI, z_q_aI_s_aI, z_q_aJ_s_aI, z_q_aR_s_aI, z_q_L_s_aJ, z_q_K_s_aJ, z_q_I_s_aJ, z_q_J_s_aJ, z_q_R_s_aJ, z_q_n_s_aJ, z_q_aI_s_aJ, z_q_aJ_s_aJ, z_q_aR_s_aJ, z_q_L_s_aR, z_q_K_s_aR, z_q_I_s_aR, z_q_J_s_aR, z_q_R_s_aR, z_q_n_s_aR, z_q_aI_s_aR, z_q_aJ_s_aR, z_q_aR_s_aR, z_q_L_s_new, z_q_K_s_new, z_q_I_s_new, z_q_J_s_new, z_q_R_s_new, z_q_n_s_new, z_q_aI_s_new, z_q_aJ_s_new, z_q_aR_s_new, z_q_L_s_arr, z_q_K_s_arr, z_q_I_s_arr, z_q_J_s_arr, z_q_R_s_arr, z_q_n_s_arr, z_q_aI_s_arr, z_q_aJ_s_arr, z_q_aR_s_arr, h1, h2, e28, z, bsI, zb, a27, b27, c27, d27, x27, hin, ci, ek, lg_cmp_eq]
        refine ⟨fun w => stay ?_, fun w => take ?_⟩
        · unfold worthMb
          rw [w]
          rfl
        · have hp : 0 < wo i := Int64.lt_of_le_of_ne hwi (fun z => w z.symm)
          unfold worthMb
          simp [hp]
      · have ht := hbn t rfl
        have zb : ¬ nI t < 0 := nI_pos (by omega)
        have hint : vp_in (nI t) 12 := vp_in_nI (by omega) (by omega)
        have ct : (nI t).toNatClampNeg = t := nI_clamp (by omega)
        simp -implicitDefEqProofs [t_X12_mend_42, i_aload, i_iload, i_lload, i_istore, i_lstore, i_astore, i_iinc, i_push, i_getI, i_getJ, i_getR, i_putI, i_putJ, i_putR, i_iadd, i_isub, i_imul, i_iand, i_ior, i_ixor, i_ishl, i_ishr, i_iushr, i_idiv, i_irem, i_ladd, i_lsub, i_lmul, i_land, i_lor, i_lxor, i_ldiv, i_lrem, i_lshl, i_lshr, i_lcmp, i_ineg, i_lneg, i_i2l, i_l2i, i_i2b, i_i2c, i_dup, i_pop, i_dup_x1, i_dup2, i_icmp_eq, i_icmp_lt, i_icmp_ge, i_icmp_gt, i_icmp_le, i_if_eq, i_if_lt, i_if_ge, i_if_gt, i_if_le, i_goto, i_ifnull, i_iald, i_bald, i_zald, i_lald, i_aald, i_iast, i_bast, i_zast, i_last, i_alen, i_iret, i_lret, i_aret, i_vret, i_oinit, i_cast, i_tsw, i_cases, i_mmin, i_mmax, i_lmin, i_throw, nb0, nb1, nint, nby0, rf_s, rf_n, of_r, of_n, tk_orf_rf, tk_c2, tk_ls, Value.category, tk_isR_ref, tk_isR_rf, tk_isR_null, z_q_L_s_I, z_q_K_s_I, z_q_I_s_I, z_q_J_s_I, z_q_R_s_I, z_q_n_s_I, z_q_aI_s_I, z_q_aJ_s_I, z_q_aR_s_I, z_q_L_s_J, z_q_K_s_J, z_q_I_s_J, z_q_J_s_J, z_q_R_s_J, z_q_n_s_J, z_q_aI_s_J, z_q_aJ_s_J, z_q_aR_s_J, z_q_L_s_R, z_q_K_s_R, z_q_I_s_R, z_q_J_s_R, z_q_R_s_R, z_q_n_s_R, z_q_aI_s_R, z_q_aJ_s_R, z_q_aR_s_R, z_q_L_s_aI, z_q_K_s_aI, z_q_I_s_aI, z_q_J_s_aI, z_q_R_s_aI, z_q_n_s_aI, z_q_aI_s_aI, z_q_aJ_s_aI, z_q_aR_s_aI, z_q_L_s_aJ, z_q_K_s_aJ, z_q_I_s_aJ, z_q_J_s_aJ, z_q_R_s_aJ, z_q_n_s_aJ, z_q_aI_s_aJ, z_q_aJ_s_aJ, z_q_aR_s_aJ, z_q_L_s_aR, z_q_K_s_aR, z_q_I_s_aR, z_q_J_s_aR, z_q_R_s_aR, z_q_n_s_aR, z_q_aI_s_aR, z_q_aJ_s_aR, z_q_aR_s_aR, z_q_L_s_new, z_q_K_s_new, z_q_I_s_new, z_q_J_s_new, z_q_R_s_new, z_q_n_s_new, z_q_aI_s_new, z_q_aJ_s_new, z_q_aR_s_new, z_q_L_s_arr, z_q_K_s_arr, z_q_I_s_arr, z_q_J_s_arr, z_q_R_s_arr, z_q_n_s_arr, z_q_aI_s_arr, z_q_aJ_s_arr, z_q_aR_s_arr, h1, h2, e28, z, bsI, zb, a27, b27, c27, d27, x27, hin, ci, ek, lg_cmp_eq]
        refine ⟨fun w => stay ?_, fun w => ?_⟩
        · unfold worthMb
          rw [w]
          rfl
        · have hp : 0 < wo i := Int64.lt_of_le_of_ne hwi (fun z => w z.symm)
          refine ⟨by simp, h1, h2, by simp [Value.category], 0, 0, 0, by omega, by omega, by omega, ?_⟩
          refine r_takes (n := nS) (cap := 12) (r := R 27) (wo := wo) hR.1.1 (hR.1.2 27 _ _ rfl) (Nat.le_refl 12) hi12 hn (fun s _ => by rw [x27]) ?_
          rw [takes_eq]
          simp -implicitDefEqProofs [i_aload, i_iload, i_lload, i_istore, i_lstore, i_astore, i_iinc, i_push, i_getI, i_getJ, i_getR, i_putI, i_putJ, i_putR, i_iadd, i_isub, i_imul, i_iand, i_ior, i_ixor, i_ishl, i_ishr, i_iushr, i_idiv, i_irem, i_ladd, i_lsub, i_lmul, i_land, i_lor, i_lxor, i_ldiv, i_lrem, i_lshl, i_lshr, i_lcmp, i_ineg, i_lneg, i_i2l, i_l2i, i_i2b, i_i2c, i_dup, i_pop, i_dup_x1, i_dup2, i_icmp_eq, i_icmp_lt, i_icmp_ge, i_icmp_gt, i_icmp_le, i_if_eq, i_if_lt, i_if_ge, i_if_gt, i_if_le, i_goto, i_ifnull, i_iald, i_bald, i_zald, i_lald, i_aald, i_iast, i_bast, i_zast, i_last, i_alen, i_iret, i_lret, i_aret, i_vret, i_oinit, i_cast, i_tsw, i_cases, i_mmin, i_mmax, i_lmin, i_throw, nb0, nb1, nint, nby0, rf_s, rf_n, of_r, of_n, tk_orf_rf, tk_c2, tk_ls, Value.category, tk_isR_ref, tk_isR_rf, tk_isR_null, z_q_L_s_I, z_q_K_s_I, z_q_I_s_I, z_q_J_s_I, z_q_R_s_I, z_q_n_s_I, z_q_aI_s_I, z_q_aJ_s_I, z_q_aR_s_I, z_q_L_s_J, z_q_K_s_J, z_q_I_s_J, z_q_J_s_J, z_q_R_s_J, z_q_n_s_J, z_q_aI_s_J, z_q_aJ_s_J, z_q_aR_s_J, z_q_L_s_R, z_q_K_s_R, z_q_I_s_R, z_q_J_s_R, z_q_R_s_R, z_q_n_s_R, z_q_aI_s_R, z_q_aJ_s_R, z_q_aR_s_R, z_q_L_s_aI, z_q_K_s_aI, z_q_I_s_aI, z_q_J_s_aI, z_q_R_s_aI, z_q_n_s_aI, z_q_aI_s_aI, z_q_aJ_s_aI, z_q_aR_s_aI, z_q_L_s_aJ, z_q_K_s_aJ, z_q_I_s_aJ, z_q_J_s_aJ, z_q_R_s_aJ, z_q_n_s_aJ, z_q_aI_s_aJ, z_q_aJ_s_aJ, z_q_aR_s_aJ, z_q_L_s_aR, z_q_K_s_aR, z_q_I_s_aR, z_q_J_s_aR, z_q_R_s_aR, z_q_n_s_aR, z_q_aI_s_aR, z_q_aJ_s_aR, z_q_aR_s_aR, z_q_L_s_new, z_q_K_s_new, z_q_I_s_new, z_q_J_s_new, z_q_R_s_new, z_q_n_s_new, z_q_aI_s_new, z_q_aJ_s_new, z_q_aR_s_new, z_q_L_s_arr, z_q_K_s_arr, z_q_I_s_arr, z_q_J_s_arr, z_q_R_s_arr, z_q_n_s_arr, z_q_aI_s_arr, z_q_aJ_s_arr, z_q_aR_s_arr, h1, h2, a26, b26, c26, d26, x26, hint, ct]
          refine ⟨by simp, h1, h2, by simp [Value.category], 0, 0, 0, by omega, by omega, by omega, ?_⟩
          refine r_takes (n := nS) (cap := 12) (r := R 27) (wo := wo) hR.1.1 (hR.1.2 27 _ _ rfl) (Nat.le_refl 12) ht hn (fun s _ => by rw [x27]) ?_
          rw [takes_eq]
          simp -implicitDefEqProofs [i_aload, i_iload, i_lload, i_istore, i_lstore, i_astore, i_iinc, i_push, i_getI, i_getJ, i_getR, i_putI, i_putJ, i_putR, i_iadd, i_isub, i_imul, i_iand, i_ior, i_ixor, i_ishl, i_ishr, i_iushr, i_idiv, i_irem, i_ladd, i_lsub, i_lmul, i_land, i_lor, i_lxor, i_ldiv, i_lrem, i_lshl, i_lshr, i_lcmp, i_ineg, i_lneg, i_i2l, i_l2i, i_i2b, i_i2c, i_dup, i_pop, i_dup_x1, i_dup2, i_icmp_eq, i_icmp_lt, i_icmp_ge, i_icmp_gt, i_icmp_le, i_if_eq, i_if_lt, i_if_ge, i_if_gt, i_if_le, i_goto, i_ifnull, i_iald, i_bald, i_zald, i_lald, i_aald, i_iast, i_bast, i_zast, i_last, i_alen, i_iret, i_lret, i_aret, i_vret, i_oinit, i_cast, i_tsw, i_cases, i_mmin, i_mmax, i_lmin, i_throw, nb0, nb1, nint, nby0, rf_s, rf_n, of_r, of_n, tk_orf_rf, tk_c2, tk_ls, Value.category, tk_isR_ref, tk_isR_rf, tk_isR_null, z_q_L_s_I, z_q_K_s_I, z_q_I_s_I, z_q_J_s_I, z_q_R_s_I, z_q_n_s_I, z_q_aI_s_I, z_q_aJ_s_I, z_q_aR_s_I, z_q_L_s_J, z_q_K_s_J, z_q_I_s_J, z_q_J_s_J, z_q_R_s_J, z_q_n_s_J, z_q_aI_s_J, z_q_aJ_s_J, z_q_aR_s_J, z_q_L_s_R, z_q_K_s_R, z_q_I_s_R, z_q_J_s_R, z_q_R_s_R, z_q_n_s_R, z_q_aI_s_R, z_q_aJ_s_R, z_q_aR_s_R, z_q_L_s_aI, z_q_K_s_aI, z_q_I_s_aI, z_q_J_s_aI, z_q_R_s_aI, z_q_n_s_aI, z_q_aI_s_aI, z_q_aJ_s_aI, z_q_aR_s_aI, z_q_L_s_aJ, z_q_K_s_aJ, z_q_I_s_aJ, z_q_J_s_aJ, z_q_R_s_aJ, z_q_n_s_aJ, z_q_aI_s_aJ, z_q_aJ_s_aJ, z_q_aR_s_aJ, z_q_L_s_aR, z_q_K_s_aR, z_q_I_s_aR, z_q_J_s_aR, z_q_R_s_aR, z_q_n_s_aR, z_q_aI_s_aR, z_q_aJ_s_aR, z_q_aR_s_aR, z_q_L_s_new, z_q_K_s_new, z_q_I_s_new, z_q_J_s_new, z_q_R_s_new, z_q_n_s_new, z_q_aI_s_new, z_q_aJ_s_new, z_q_aR_s_new, z_q_L_s_arr, z_q_K_s_arr, z_q_I_s_arr, z_q_J_s_arr, z_q_R_s_arr, z_q_n_s_arr, z_q_aI_s_arr, z_q_aJ_s_arr, z_q_aR_s_arr, h1, h2, a26, b26, c26, d26, x26, hin, ci, ek, lg_cmp_le]
          refine ⟨fun w2 => stay ?_, fun w2 => take ?_⟩
          · unfold worthMb
            simp [Int64.not_lt.mpr w2]
          · unfold worthMb
            simp [hp, w2]
  exact loop nS 0 none (by omega) (fun t ht => by cases ht) rfl
theorem toI_pos {x : Int64} : 0 ≤ x ↔ 0 ≤ x.toInt := Int64.le_iff_toInt_le
theorem takes_sub {w : Int64} (h : 0 ≤ w) : 0 ≤ w - takesOf w := by
  unfold takesOf
  by_cases h2 : 50 < w
  · rw [if_pos h2]
    have a := Int64.lt_iff_toInt_lt.mp h2
    have b := Int64.toInt_lt w
    have c : (50 : Int64).toInt = 50 := rfl
    rw [toI_pos, Jvm.Kit.i64_sub (by omega) (by omega)]
    omega
  · rw [if_neg h2, Int64.sub_self]
    exact Int64.le_refl _
set_option maxHeartbeats 8000000 in
theorem rr_mend {i : Int32} (hd : 3 ≤ d) (hR : RS B m ρ S (rLk (cp 400 hw) (cp 600 M.2.2.2.2.2.2.2.1.1)) R V) (hI : RI V k M) (hS : M.2.2.1.1 ≤ 12) (hw0 : ∀ i, i < M.2.2.1.1 → 0 ≤ M.2.2.1.2.2 i) (hJ : M.2.2.2.2.2.2.2.1.1 + 20 < 12000)
    (hmc : ∀ n : Nat, i = nI n → n ≤ 20 → 4 * (lv 600 (mendM n 0 M).2.2.2.2.2.2.2.2.1.1 - lv 600 M.2.2.2.2.2.2.2.1.1) ≤ mc) (hms : ∀ n : Nat, i = nI n → n ≤ 20 → 80000 * (lv 600 (mendM n 0 M).2.2.2.2.2.2.2.2.1.1 - lv 600 M.2.2.2.2.2.2.2.1.1) ≤ ms)
    (H1 : ¬ (0 ≤ i ∧ i ≤ 20) → okR B m hw k QR (some (.int 0)) 1 M)
    (H0 : ∀ n : Nat, i = nI n → n ≤ 20 → okR B m hw k QR (some (.int (nI (mendM n 0 M).1))) 0 (mendM n 0 M).2) : tk_M Z mX12_mend d mc ms [.ref m, .int i] S QR tk_noX := by
  refine M_X12_mend (Nat.le_of_ble_eq_true rfl) (fun E hE => hE.1 _ _ _ _ _ ?_)
  show t_X12_mend_0 Z d mc ms QR E [some (.ref m), some (.int i), none, none, none] [] S 0 0
  obtain ⟨h1, h2, h3⟩ := id hR.1.1
  have hO1 : rO ρ (s_I S 13 0 m 0) m := ⟨h1, h2, h3⟩
  have bad : ¬ (0 ≤ i ∧ i ≤ 20) → QR (some (.int 0)) (s_I (s_I S 13 0 m 0) 13 0 m 1) := fun w => H1 w _ ((hI.t0 0).t0 1) rfl _ _ _ ((hR.iI 0 0).iI 0 1)
  have loop : ∀ n : Nat, i = nI n → n ≤ 20 → ∀ q j N V ρ S R x3 x4, q + j = n → mendM n 0 M = mendM q j N → M.2.2.2.2.2.2.2.1.1 ≤ N.2.2.2.2.2.2.2.1.1 → N.2.2.2.2.2.2.2.1.1 ≤ M.2.2.2.2.2.2.2.1.1 + j → N.2.2.1.1 = M.2.2.1.1 → (∀ i, i < M.2.2.1.1 → 0 ≤ N.2.2.1.2.2 i) → RS B m ρ S (rLk (cp 400 hw) (cp 600 N.2.2.2.2.2.2.2.1.1)) R V → RI V k N → vI V 0 = 0 → E 32 [some (.ref m), some (.int i), some (.int (nI j)), x3, x4] [] S (4 * (lv 600 N.2.2.2.2.2.2.2.1.1 - lv 600 M.2.2.2.2.2.2.2.1.1)) (80000 * (lv 600 N.2.2.2.2.2.2.2.1.1 - lv 600 M.2.2.2.2.2.2.2.1.1)) := by
    intro n hin hn q
    have hmc := hmc n hin hn
    have hms := hms n hin hn
    have H0 := H0 n hin hn
    induction q with
    | zero =>
      intro j N V ρ S R x3 x4 hj hm hge hle hnS hw hR hI h0
      refine hE.2.1 _ _ _ _ _ ?_
      have hjn : j = n := by omega
      subst hjn
      have z : i ≤ nI j := by rw [hin]; exact Int32.le_refl _
      rw [mendM] at hm
      rw [hm] at H0 hmc hms
      generalize 4 * (lv 600 N.2.2.2.2.2.2.2.1.1 - lv 600 M.2.2.2.2.2.2.2.1.1) = mc1 at *
      generalize 80000 * (lv 600 N.2.2.2.2.2.2.2.1.1 - lv 600 M.2.2.2.2.2.2.2.1.1) = ms1 at *
      simp -implicitDefEqProofs [t_X12_mend_32, i_aload, i_iload, i_lload, i_istore, i_lstore, i_astore, i_iinc, i_push, i_getI, i_getJ, i_getR, i_putI, i_putJ, i_putR, i_iadd, i_isub, i_imul, i_iand, i_ior, i_ixor, i_ishl, i_ishr, i_iushr, i_idiv, i_irem, i_ladd, i_lsub, i_lmul, i_land, i_lor, i_lxor, i_ldiv, i_lrem, i_lshl, i_lshr, i_lcmp, i_ineg, i_lneg, i_i2l, i_l2i, i_i2b, i_i2c, i_dup, i_pop, i_dup_x1, i_dup2, i_icmp_eq, i_icmp_lt, i_icmp_ge, i_icmp_gt, i_icmp_le, i_if_eq, i_if_lt, i_if_ge, i_if_gt, i_if_le, i_goto, i_ifnull, i_iald, i_bald, i_zald, i_lald, i_aald, i_iast, i_bast, i_zast, i_last, i_alen, i_iret, i_lret, i_aret, i_vret, i_oinit, i_cast, i_tsw, i_cases, i_mmin, i_mmax, i_lmin, i_throw, nb0, nb1, nint, nby0, rf_s, rf_n, of_r, of_n, tk_orf_rf, tk_c2, tk_ls, Value.category, tk_isR_ref, tk_isR_rf, tk_isR_null, z]
      rw [hin]
      exact ⟨hmc, hms, H0 V hI h0 _ _ _ hR⟩
    | succ q ih =>
      intro j N V ρ S R x3 x4 hj hm hge hle hnS hw hR hI h0
      refine hE.2.1 _ _ _ _ _ ?_
      have z : ¬ i ≤ nI j := by rw [hin]; exact nI_ge (by omega) (by omega)
      rw [mendM] at hm
      have ge2 : ∀ b, worthM N.2.2.1.2.1 N.2.2.1.2.2 N.2.2.1.1 0 none = some b → ¬ N.2.2.2.2.2.2.2.1.2.1 < (N.2.2.1.2.1 b).toInt64 → mendM n 0 M = mendM q (j + 1) (loadM N b) ∧ N.2.2.2.2.2.2.2.1.1 + 1 ≤ (mendM n 0 M).2.2.2.2.2.2.2.2.1.1 := fun b hb hnb => by
        rw [hb] at hm
        dsimp only at hm
        rw [if_neg hnb] at hm
        refine ⟨hm, ?_⟩
        rw [hm]
        exact (mendM_ge q (j + 1) (loadM N b)).1
      have l0 := lv_mono (b := 600) hge
      have l1 := lv_mono (b := 600) (show N.2.2.2.2.2.2.2.1.1 ≤ N.2.2.2.2.2.2.2.1.1 + 1 by omega)
      have stop : (∀ b, worthM N.2.2.1.2.1 N.2.2.1.2.2 N.2.2.1.1 0 none = some b → N.2.2.2.2.2.2.2.1.2.1 < (N.2.2.1.2.1 b).toInt64) → mendM n 0 M = (j, N) := fun hb => by
        rw [hm]
        generalize worthM N.2.2.1.2.1 N.2.2.1.2.2 N.2.2.1.1 0 none = bb at hb ⊢
        rcases bb with _ | b
        · rfl
        · dsimp only
          rw [if_pos (hb b rfl)]
      have fit : 4 * (lv 600 N.2.2.2.2.2.2.2.1.1 - lv 600 M.2.2.2.2.2.2.2.1.1) ≤ mc ∧ 80000 * (lv 600 N.2.2.2.2.2.2.2.1.1 - lv 600 M.2.2.2.2.2.2.2.1.1) ≤ ms := by
        have y : N.2.2.2.2.2.2.2.1.1 ≤ (mendM n 0 M).2.2.2.2.2.2.2.2.1.1 := by
          rw [hm]
          split
          · exact Nat.le_refl _
          · split
            · exact Nat.le_refl _
            · exact Nat.le_trans (Nat.le_succ _) (mendM_ge q (j + 1) (loadM N _)).1
        have l2 := lv_mono (b := 600) y
        omega
      simp -implicitDefEqProofs [t_X12_mend_32, i_aload, i_iload, i_lload, i_istore, i_lstore, i_astore, i_iinc, i_push, i_getI, i_getJ, i_getR, i_putI, i_putJ, i_putR, i_iadd, i_isub, i_imul, i_iand, i_ior, i_ixor, i_ishl, i_ishr, i_iushr, i_idiv, i_irem, i_ladd, i_lsub, i_lmul, i_land, i_lor, i_lxor, i_ldiv, i_lrem, i_lshl, i_lshr, i_lcmp, i_ineg, i_lneg, i_i2l, i_l2i, i_i2b, i_i2c, i_dup, i_pop, i_dup_x1, i_dup2, i_icmp_eq, i_icmp_lt, i_icmp_ge, i_icmp_gt, i_icmp_le, i_if_eq, i_if_lt, i_if_ge, i_if_gt, i_if_le, i_goto, i_ifnull, i_iald, i_bald, i_zald, i_lald, i_aald, i_iast, i_bast, i_zast, i_last, i_alen, i_iret, i_lret, i_aret, i_vret, i_oinit, i_cast, i_tsw, i_cases, i_mmin, i_mmax, i_lmin, i_throw, nb0, nb1, nint, nby0, rf_s, rf_n, of_r, of_n, tk_orf_rf, tk_c2, tk_ls, Value.category, tk_isR_ref, tk_isR_rf, tk_isR_null, z]
      refine r_mend1 (M := N) hE.2.2 (by omega) hR hI (by omega) h0 (fun i hi => hw i (by omega)) (by omega) fit.1 fit.2 (fun b hb hnb => ?_) (fun b hb hnb => ?_) (fun hb => ?_) (fun b hb hnb V' ρ' S' R' x3 x4 hR' hI' h0' => ?_)
      · have l2 := lv_mono (b := 600) (ge2 b hb hnb).2
        omega
      · have l2 := lv_mono (b := 600) (ge2 b hb hnb).2
        omega
      · rw [stop hb] at H0
        exact H0 V hI h0 _ _ _ hR
      · have g := ih (j + 1) (loadM N b) V' ρ' S' R' x3 x4 (by omega) (ge2 b hb hnb).1 (Nat.le_trans hge (Nat.le_succ _)) (by show N.2.2.2.2.2.2.2.1.1 + 1 ≤ _; omega) hnS (fun i hi => ?_) hR' hI' h0'
        · have eJ : (loadM N b).2.2.2.2.2.2.2.1.1 = N.2.2.2.2.2.2.2.1.1 + 1 := rfl
          rw [eJ] at g
          have c1 : 4 * (lv 600 N.2.2.2.2.2.2.2.1.1 - lv 600 M.2.2.2.2.2.2.2.1.1) + 4 * (lv 600 (N.2.2.2.2.2.2.2.1.1 + 1) - lv 600 N.2.2.2.2.2.2.2.1.1) = 4 * (lv 600 (N.2.2.2.2.2.2.2.1.1 + 1) - lv 600 M.2.2.2.2.2.2.2.1.1) := by omega
          have c2 : 80000 * (lv 600 N.2.2.2.2.2.2.2.1.1 - lv 600 M.2.2.2.2.2.2.2.1.1) + 80000 * (lv 600 (N.2.2.2.2.2.2.2.1.1 + 1) - lv 600 N.2.2.2.2.2.2.2.1.1) = 80000 * (lv 600 (N.2.2.2.2.2.2.2.1.1 + 1) - lv 600 M.2.2.2.2.2.2.2.1.1) := by omega
          rw [c1, c2]
          exact g
        · show 0 ≤ vp_updL N.2.2.1.2.2 b (N.2.2.1.2.2 b - takesOf (N.2.2.1.2.2 b)) i
          by_cases hib : i = b
          · subst hib
            rw [pk_uLs]
            exact takes_sub (hw i hi)
          · rw [pk_uLn hib]
            exact hw i hi
  by_cases w1 : i < 0
  · simp -implicitDefEqProofs [t_X12_mend_0, i_aload, i_iload, i_lload, i_istore, i_lstore, i_astore, i_iinc, i_push, i_getI, i_getJ, i_getR, i_putI, i_putJ, i_putR, i_iadd, i_isub, i_imul, i_iand, i_ior, i_ixor, i_ishl, i_ishr, i_iushr, i_idiv, i_irem, i_ladd, i_lsub, i_lmul, i_land, i_lor, i_lxor, i_ldiv, i_lrem, i_lshl, i_lshr, i_lcmp, i_ineg, i_lneg, i_i2l, i_l2i, i_i2b, i_i2c, i_dup, i_pop, i_dup_x1, i_dup2, i_icmp_eq, i_icmp_lt, i_icmp_ge, i_icmp_gt, i_icmp_le, i_if_eq, i_if_lt, i_if_ge, i_if_gt, i_if_le, i_goto, i_ifnull, i_iald, i_bald, i_zald, i_lald, i_aald, i_iast, i_bast, i_zast, i_last, i_alen, i_iret, i_lret, i_aret, i_vret, i_oinit, i_cast, i_tsw, i_cases, i_mmin, i_mmax, i_lmin, i_throw, nb0, nb1, nint, nby0, rf_s, rf_n, of_r, of_n, tk_orf_rf, tk_c2, tk_ls, Value.category, tk_isR_ref, tk_isR_rf, tk_isR_null, z_q_L_s_I, z_q_K_s_I, z_q_I_s_I, z_q_J_s_I, z_q_R_s_I, z_q_n_s_I, z_q_aI_s_I, z_q_aJ_s_I, z_q_aR_s_I, z_q_L_s_J, z_q_K_s_J, z_q_I_s_J, z_q_J_s_J, z_q_R_s_J, z_q_n_s_J, z_q_aI_s_J, z_q_aJ_s_J, z_q_aR_s_J, z_q_L_s_R, z_q_K_s_R, z_q_I_s_R, z_q_J_s_R, z_q_R_s_R, z_q_n_s_R, z_q_aI_s_R, z_q_aJ_s_R, z_q_aR_s_R, z_q_L_s_aI, z_q_K_s_aI, z_q_I_s_aI, z_q_J_s_aI, z_q_R_s_aI, z_q_n_s_aI, z_q_aI_s_aI, z_q_aJ_s_aI, z_q_aR_s_aI, z_q_L_s_aJ, z_q_K_s_aJ, z_q_I_s_aJ, z_q_J_s_aJ, z_q_R_s_aJ, z_q_n_s_aJ, z_q_aI_s_aJ, z_q_aJ_s_aJ, z_q_aR_s_aJ, z_q_L_s_aR, z_q_K_s_aR, z_q_I_s_aR, z_q_J_s_aR, z_q_R_s_aR, z_q_n_s_aR, z_q_aI_s_aR, z_q_aJ_s_aR, z_q_aR_s_aR, z_q_L_s_new, z_q_K_s_new, z_q_I_s_new, z_q_J_s_new, z_q_R_s_new, z_q_n_s_new, z_q_aI_s_new, z_q_aJ_s_new, z_q_aR_s_new, z_q_L_s_arr, z_q_K_s_arr, z_q_I_s_arr, z_q_J_s_arr, z_q_R_s_arr, z_q_n_s_arr, z_q_aI_s_arr, z_q_aJ_s_arr, z_q_aR_s_arr, h1, h2, w1]
    refine ⟨by simp, h1, h2, by simp [Value.category], 0, 0, 0, by omega, by omega, by omega, ?_⟩
    refine r_badT hO1 ?_
    simp -implicitDefEqProofs [i_aload, i_iload, i_lload, i_istore, i_lstore, i_astore, i_iinc, i_push, i_getI, i_getJ, i_getR, i_putI, i_putJ, i_putR, i_iadd, i_isub, i_imul, i_iand, i_ior, i_ixor, i_ishl, i_ishr, i_iushr, i_idiv, i_irem, i_ladd, i_lsub, i_lmul, i_land, i_lor, i_lxor, i_ldiv, i_lrem, i_lshl, i_lshr, i_lcmp, i_ineg, i_lneg, i_i2l, i_l2i, i_i2b, i_i2c, i_dup, i_pop, i_dup_x1, i_dup2, i_icmp_eq, i_icmp_lt, i_icmp_ge, i_icmp_gt, i_icmp_le, i_if_eq, i_if_lt, i_if_ge, i_if_gt, i_if_le, i_goto, i_ifnull, i_iald, i_bald, i_zald, i_lald, i_aald, i_iast, i_bast, i_zast, i_last, i_alen, i_iret, i_lret, i_aret, i_vret, i_oinit, i_cast, i_tsw, i_cases, i_mmin, i_mmax, i_lmin, i_throw, nb0, nb1, nint, nby0, rf_s, rf_n, of_r, of_n, tk_orf_rf, tk_c2, tk_ls, Value.category, tk_isR_ref, tk_isR_rf, tk_isR_null, z_q_L_s_I, z_q_K_s_I, z_q_I_s_I, z_q_J_s_I, z_q_R_s_I, z_q_n_s_I, z_q_aI_s_I, z_q_aJ_s_I, z_q_aR_s_I, z_q_L_s_J, z_q_K_s_J, z_q_I_s_J, z_q_J_s_J, z_q_R_s_J, z_q_n_s_J, z_q_aI_s_J, z_q_aJ_s_J, z_q_aR_s_J, z_q_L_s_R, z_q_K_s_R, z_q_I_s_R, z_q_J_s_R, z_q_R_s_R, z_q_n_s_R, z_q_aI_s_R, z_q_aJ_s_R, z_q_aR_s_R, z_q_L_s_aI, z_q_K_s_aI, z_q_I_s_aI, z_q_J_s_aI, z_q_R_s_aI, z_q_n_s_aI, z_q_aI_s_aI, z_q_aJ_s_aI, z_q_aR_s_aI, z_q_L_s_aJ, z_q_K_s_aJ, z_q_I_s_aJ, z_q_J_s_aJ, z_q_R_s_aJ, z_q_n_s_aJ, z_q_aI_s_aJ, z_q_aJ_s_aJ, z_q_aR_s_aJ, z_q_L_s_aR, z_q_K_s_aR, z_q_I_s_aR, z_q_J_s_aR, z_q_R_s_aR, z_q_n_s_aR, z_q_aI_s_aR, z_q_aJ_s_aR, z_q_aR_s_aR, z_q_L_s_new, z_q_K_s_new, z_q_I_s_new, z_q_J_s_new, z_q_R_s_new, z_q_n_s_new, z_q_aI_s_new, z_q_aJ_s_new, z_q_aR_s_new, z_q_L_s_arr, z_q_K_s_arr, z_q_I_s_arr, z_q_J_s_arr, z_q_R_s_arr, z_q_n_s_arr, z_q_aI_s_arr, z_q_aJ_s_arr, z_q_aR_s_arr]
    exact bad (fun z => Int32.not_lt.mpr z.1 w1)
  · by_cases w2 : i ≤ 20
    · obtain ⟨n, hn, hin⟩ := nI_of2 (M := 20) (n := 20) rfl w1 w2
      simp -implicitDefEqProofs [t_X12_mend_0, i_aload, i_iload, i_lload, i_istore, i_lstore, i_astore, i_iinc, i_push, i_getI, i_getJ, i_getR, i_putI, i_putJ, i_putR, i_iadd, i_isub, i_imul, i_iand, i_ior, i_ixor, i_ishl, i_ishr, i_iushr, i_idiv, i_irem, i_ladd, i_lsub, i_lmul, i_land, i_lor, i_lxor, i_ldiv, i_lrem, i_lshl, i_lshr, i_lcmp, i_ineg, i_lneg, i_i2l, i_l2i, i_i2b, i_i2c, i_dup, i_pop, i_dup_x1, i_dup2, i_icmp_eq, i_icmp_lt, i_icmp_ge, i_icmp_gt, i_icmp_le, i_if_eq, i_if_lt, i_if_ge, i_if_gt, i_if_le, i_goto, i_ifnull, i_iald, i_bald, i_zald, i_lald, i_aald, i_iast, i_bast, i_zast, i_last, i_alen, i_iret, i_lret, i_aret, i_vret, i_oinit, i_cast, i_tsw, i_cases, i_mmin, i_mmax, i_lmin, i_throw, nb0, nb1, nint, nby0, rf_s, rf_n, of_r, of_n, tk_orf_rf, tk_c2, tk_ls, Value.category, tk_isR_ref, tk_isR_rf, tk_isR_null, z_q_L_s_I, z_q_K_s_I, z_q_I_s_I, z_q_J_s_I, z_q_R_s_I, z_q_n_s_I, z_q_aI_s_I, z_q_aJ_s_I, z_q_aR_s_I, z_q_L_s_J, z_q_K_s_J, z_q_I_s_J, z_q_J_s_J, z_q_R_s_J, z_q_n_s_J, z_q_aI_s_J, z_q_aJ_s_J, z_q_aR_s_J, z_q_L_s_R, z_q_K_s_R, z_q_I_s_R, z_q_J_s_R, z_q_R_s_R, z_q_n_s_R, z_q_aI_s_R, z_q_aJ_s_R, z_q_aR_s_R, z_q_L_s_aI, z_q_K_s_aI, z_q_I_s_aI, z_q_J_s_aI, z_q_R_s_aI, z_q_n_s_aI, z_q_aI_s_aI, z_q_aJ_s_aI, z_q_aR_s_aI, z_q_L_s_aJ, z_q_K_s_aJ, z_q_I_s_aJ, z_q_J_s_aJ, z_q_R_s_aJ, z_q_n_s_aJ, z_q_aI_s_aJ, z_q_aJ_s_aJ, z_q_aR_s_aJ, z_q_L_s_aR, z_q_K_s_aR, z_q_I_s_aR, z_q_J_s_aR, z_q_R_s_aR, z_q_n_s_aR, z_q_aI_s_aR, z_q_aJ_s_aR, z_q_aR_s_aR, z_q_L_s_new, z_q_K_s_new, z_q_I_s_new, z_q_J_s_new, z_q_R_s_new, z_q_n_s_new, z_q_aI_s_new, z_q_aJ_s_new, z_q_aR_s_new, z_q_L_s_arr, z_q_K_s_arr, z_q_I_s_arr, z_q_J_s_arr, z_q_R_s_arr, z_q_n_s_arr, z_q_aI_s_arr, z_q_aJ_s_arr, z_q_aR_s_arr, h1, h2, w1, w2]
      refine ⟨by simp, h1, h2, by simp [Value.category], 0, 0, 0, by omega, by omega, by omega, ?_⟩
      refine r_badF ?_
      simp -implicitDefEqProofs [i_aload, i_iload, i_lload, i_istore, i_lstore, i_astore, i_iinc, i_push, i_getI, i_getJ, i_getR, i_putI, i_putJ, i_putR, i_iadd, i_isub, i_imul, i_iand, i_ior, i_ixor, i_ishl, i_ishr, i_iushr, i_idiv, i_irem, i_ladd, i_lsub, i_lmul, i_land, i_lor, i_lxor, i_ldiv, i_lrem, i_lshl, i_lshr, i_lcmp, i_ineg, i_lneg, i_i2l, i_l2i, i_i2b, i_i2c, i_dup, i_pop, i_dup_x1, i_dup2, i_icmp_eq, i_icmp_lt, i_icmp_ge, i_icmp_gt, i_icmp_le, i_if_eq, i_if_lt, i_if_ge, i_if_gt, i_if_le, i_goto, i_ifnull, i_iald, i_bald, i_zald, i_lald, i_aald, i_iast, i_bast, i_zast, i_last, i_alen, i_iret, i_lret, i_aret, i_vret, i_oinit, i_cast, i_tsw, i_cases, i_mmin, i_mmax, i_lmin, i_throw, nb0, nb1, nint, nby0, rf_s, rf_n, of_r, of_n, tk_orf_rf, tk_c2, tk_ls, Value.category, tk_isR_ref, tk_isR_rf, tk_isR_null, z_q_L_s_I, z_q_K_s_I, z_q_I_s_I, z_q_J_s_I, z_q_R_s_I, z_q_n_s_I, z_q_aI_s_I, z_q_aJ_s_I, z_q_aR_s_I, z_q_L_s_J, z_q_K_s_J, z_q_I_s_J, z_q_J_s_J, z_q_R_s_J, z_q_n_s_J, z_q_aI_s_J, z_q_aJ_s_J, z_q_aR_s_J, z_q_L_s_R, z_q_K_s_R, z_q_I_s_R, z_q_J_s_R, z_q_R_s_R, z_q_n_s_R, z_q_aI_s_R, z_q_aJ_s_R, z_q_aR_s_R, z_q_L_s_aI, z_q_K_s_aI, z_q_I_s_aI, z_q_J_s_aI, z_q_R_s_aI, z_q_n_s_aI, z_q_aI_s_aI, z_q_aJ_s_aI, z_q_aR_s_aI, z_q_L_s_aJ, z_q_K_s_aJ, z_q_I_s_aJ, z_q_J_s_aJ, z_q_R_s_aJ, z_q_n_s_aJ, z_q_aI_s_aJ, z_q_aJ_s_aJ, z_q_aR_s_aJ, z_q_L_s_aR, z_q_K_s_aR, z_q_I_s_aR, z_q_J_s_aR, z_q_R_s_aR, z_q_n_s_aR, z_q_aI_s_aR, z_q_aJ_s_aR, z_q_aR_s_aR, z_q_L_s_new, z_q_K_s_new, z_q_I_s_new, z_q_J_s_new, z_q_R_s_new, z_q_n_s_new, z_q_aI_s_new, z_q_aJ_s_new, z_q_aR_s_new, z_q_L_s_arr, z_q_K_s_arr, z_q_I_s_arr, z_q_J_s_arr, z_q_R_s_arr, z_q_n_s_arr, z_q_aI_s_arr, z_q_aJ_s_arr, z_q_aR_s_arr]
      have g := loop n hin hn n 0 M (wI V 0 0) ρ _ R none none (by omega) rfl (Nat.le_refl _) (Nat.le_refl _) rfl hw0 (hR.iI 0 0) (hI.t0 0) rfl
      rw [Nat.sub_self, Nat.mul_zero, nI_0] at g
      exact g
    · simp -implicitDefEqProofs [t_X12_mend_0, i_aload, i_iload, i_lload, i_istore, i_lstore, i_astore, i_iinc, i_push, i_getI, i_getJ, i_getR, i_putI, i_putJ, i_putR, i_iadd, i_isub, i_imul, i_iand, i_ior, i_ixor, i_ishl, i_ishr, i_iushr, i_idiv, i_irem, i_ladd, i_lsub, i_lmul, i_land, i_lor, i_lxor, i_ldiv, i_lrem, i_lshl, i_lshr, i_lcmp, i_ineg, i_lneg, i_i2l, i_l2i, i_i2b, i_i2c, i_dup, i_pop, i_dup_x1, i_dup2, i_icmp_eq, i_icmp_lt, i_icmp_ge, i_icmp_gt, i_icmp_le, i_if_eq, i_if_lt, i_if_ge, i_if_gt, i_if_le, i_goto, i_ifnull, i_iald, i_bald, i_zald, i_lald, i_aald, i_iast, i_bast, i_zast, i_last, i_alen, i_iret, i_lret, i_aret, i_vret, i_oinit, i_cast, i_tsw, i_cases, i_mmin, i_mmax, i_lmin, i_throw, nb0, nb1, nint, nby0, rf_s, rf_n, of_r, of_n, tk_orf_rf, tk_c2, tk_ls, Value.category, tk_isR_ref, tk_isR_rf, tk_isR_null, z_q_L_s_I, z_q_K_s_I, z_q_I_s_I, z_q_J_s_I, z_q_R_s_I, z_q_n_s_I, z_q_aI_s_I, z_q_aJ_s_I, z_q_aR_s_I, z_q_L_s_J, z_q_K_s_J, z_q_I_s_J, z_q_J_s_J, z_q_R_s_J, z_q_n_s_J, z_q_aI_s_J, z_q_aJ_s_J, z_q_aR_s_J, z_q_L_s_R, z_q_K_s_R, z_q_I_s_R, z_q_J_s_R, z_q_R_s_R, z_q_n_s_R, z_q_aI_s_R, z_q_aJ_s_R, z_q_aR_s_R, z_q_L_s_aI, z_q_K_s_aI, z_q_I_s_aI, z_q_J_s_aI, z_q_R_s_aI, z_q_n_s_aI, z_q_aI_s_aI, z_q_aJ_s_aI, z_q_aR_s_aI, z_q_L_s_aJ, z_q_K_s_aJ, z_q_I_s_aJ, z_q_J_s_aJ, z_q_R_s_aJ, z_q_n_s_aJ, z_q_aI_s_aJ, z_q_aJ_s_aJ, z_q_aR_s_aJ, z_q_L_s_aR, z_q_K_s_aR, z_q_I_s_aR, z_q_J_s_aR, z_q_R_s_aR, z_q_n_s_aR, z_q_aI_s_aR, z_q_aJ_s_aR, z_q_aR_s_aR, z_q_L_s_new, z_q_K_s_new, z_q_I_s_new, z_q_J_s_new, z_q_R_s_new, z_q_n_s_new, z_q_aI_s_new, z_q_aJ_s_new, z_q_aR_s_new, z_q_L_s_arr, z_q_K_s_arr, z_q_I_s_arr, z_q_J_s_arr, z_q_R_s_arr, z_q_n_s_arr, z_q_aI_s_arr, z_q_aJ_s_arr, z_q_aR_s_arr, h1, h2, w1, w2]
      refine ⟨by simp, h1, h2, by simp [Value.category], 0, 0, 0, by omega, by omega, by omega, ?_⟩
      refine r_badT hO1 ?_
      simp -implicitDefEqProofs [i_aload, i_iload, i_lload, i_istore, i_lstore, i_astore, i_iinc, i_push, i_getI, i_getJ, i_getR, i_putI, i_putJ, i_putR, i_iadd, i_isub, i_imul, i_iand, i_ior, i_ixor, i_ishl, i_ishr, i_iushr, i_idiv, i_irem, i_ladd, i_lsub, i_lmul, i_land, i_lor, i_lxor, i_ldiv, i_lrem, i_lshl, i_lshr, i_lcmp, i_ineg, i_lneg, i_i2l, i_l2i, i_i2b, i_i2c, i_dup, i_pop, i_dup_x1, i_dup2, i_icmp_eq, i_icmp_lt, i_icmp_ge, i_icmp_gt, i_icmp_le, i_if_eq, i_if_lt, i_if_ge, i_if_gt, i_if_le, i_goto, i_ifnull, i_iald, i_bald, i_zald, i_lald, i_aald, i_iast, i_bast, i_zast, i_last, i_alen, i_iret, i_lret, i_aret, i_vret, i_oinit, i_cast, i_tsw, i_cases, i_mmin, i_mmax, i_lmin, i_throw, nb0, nb1, nint, nby0, rf_s, rf_n, of_r, of_n, tk_orf_rf, tk_c2, tk_ls, Value.category, tk_isR_ref, tk_isR_rf, tk_isR_null, z_q_L_s_I, z_q_K_s_I, z_q_I_s_I, z_q_J_s_I, z_q_R_s_I, z_q_n_s_I, z_q_aI_s_I, z_q_aJ_s_I, z_q_aR_s_I, z_q_L_s_J, z_q_K_s_J, z_q_I_s_J, z_q_J_s_J, z_q_R_s_J, z_q_n_s_J, z_q_aI_s_J, z_q_aJ_s_J, z_q_aR_s_J, z_q_L_s_R, z_q_K_s_R, z_q_I_s_R, z_q_J_s_R, z_q_R_s_R, z_q_n_s_R, z_q_aI_s_R, z_q_aJ_s_R, z_q_aR_s_R, z_q_L_s_aI, z_q_K_s_aI, z_q_I_s_aI, z_q_J_s_aI, z_q_R_s_aI, z_q_n_s_aI, z_q_aI_s_aI, z_q_aJ_s_aI, z_q_aR_s_aI, z_q_L_s_aJ, z_q_K_s_aJ, z_q_I_s_aJ, z_q_J_s_aJ, z_q_R_s_aJ, z_q_n_s_aJ, z_q_aI_s_aJ, z_q_aJ_s_aJ, z_q_aR_s_aJ, z_q_L_s_aR, z_q_K_s_aR, z_q_I_s_aR, z_q_J_s_aR, z_q_R_s_aR, z_q_n_s_aR, z_q_aI_s_aR, z_q_aJ_s_aR, z_q_aR_s_aR, z_q_L_s_new, z_q_K_s_new, z_q_I_s_new, z_q_J_s_new, z_q_R_s_new, z_q_n_s_new, z_q_aI_s_new, z_q_aJ_s_new, z_q_aR_s_new, z_q_L_s_arr, z_q_K_s_arr, z_q_I_s_arr, z_q_J_s_arr, z_q_R_s_arr, z_q_n_s_arr, z_q_aI_s_arr, z_q_aJ_s_arr, z_q_aR_s_arr]
      exact bad (fun z => w2 z.2)
end RMEND

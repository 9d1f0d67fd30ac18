/-! THE REFERENCE'S CALLS: feed -/
section RCALL6
variable {Z : tk_Z} {d mc ms : Nat} {QR : tk_R} {m hw k : Nat} {B : bS} {V : vR} {ρ : Nat → Nat} {S : tk_S} {R : Nat → Nat} {M : Mt}
/-- the tape g with u bytes -/
def fdV (V : vR) (g : Nat → Int32) (u : Nat) : vR := wI (wA (wI V 0 0) 1 g) 2 (nI u)
theorem fdV_s {g h : Nat → Int32} {u w : Nat} : wI (wA (fdV V g u) 1 h) 2 (nI w) = fdV V h w := by
  unfold fdV
  rw [show wA (wI (wA (wI V 0 0) 1 g) 2 (nI u)) 1 h = wI (wA (wA (wI V 0 0) 1 g) 1 h) 2 (nI u) from rfl, wA_wA, wI_wI]
set_option maxHeartbeats 4000000 in
theorem rr_feed {a b c e f : Int32} (hR : RS B m ρ S (rLk (cp 400 hw) (cp 600 M.2.2.2.2.2.2.2.1.1)) R V) (hI : RI V k M) (hB : BD M)
    (H : okR B m hw k QR (some (.int (feedM a b c e f M).1)) 0 (feedM a b c e f M).2) : tk_M Z mX12_feed d mc ms [.ref m, .int a, .int b, .int c, .int e, .int f] S QR tk_noX := by
  refine M_X12_feed (Nat.le_of_ble_eq_true rfl) (fun E hE => hE.1 _ _ _ _ _ ?_)
  show t_X12_feed_0 Z d mc ms QR E [some (.ref m), some (.int a), some (.int b), some (.int c), some (.int e), some (.int f), none, none, none] [] S 0 0
  have hI0 := hI
  obtain ⟨⟨tn, tg, tp⟩, acts, ⟨nS, pr, wo⟩, ⟨nG, os, ps, ls, re, su, du, le, nb, bf, br, bs⟩, ⟨nV, kd, wh, be, bi, pa, pd, la⟩, ⟨nF, mo⟩, ⟨nL, lsu, lra, lrk, ldu⟩, ⟨jn, jb, jd, jk, jw, js, jh⟩, ⟨td, dry, lc⟩⟩ := M
  obtain ⟨rT0, rA0, rS0, rG0, rV0, rF0, rL0, rJ0, rD0⟩ := id hI
  obtain ⟨b1, b2, b3, b4, b5, b6, b7, b8, b9, b10, b11⟩ := hB
  obtain ⟨h1, h2, h3⟩ := id hR.1.1
  have e2 := (hR.2.1.1 2).trans rT0.1
  have e20 : nI tn + 20 = nI (tn + 20) := nI_add tn 20
  have hcmp : (nI (tn + 20) ≤ 2000 ↔ tn + 20 ≤ 2000) := nI_leI (b := 2000) (by omega) (by omega)
  unfold feedM at H
  dsimp only at H
  by_cases ht : 2000 < tn + 20
  · rw [if_pos ht] at H
    have z : ¬ nI (tn + 20) ≤ 2000 := fun q => by have := hcmp.mp q; omega
    simp -implicitDefEqProofs [t_X12_feed_0, i_aload, i_iload, i_lload, i_istore, i_lstore, i_astore, i_iinc, i_push, i_getI, i_getJ, i_getR, i_putI, i_putJ, i_putR, i_iadd, i_isub, i_imul, i_iand, i_ior, i_ixor, i_ishl, i_ishr, i_iushr, i_idiv, i_irem, i_ladd, i_lsub, i_lmul, i_land, i_lor, i_lxor, i_ldiv, i_lrem, i_lshl, i_lshr, i_lcmp, i_ineg, i_lneg, i_i2l, i_l2i, i_i2b, i_i2c, i_dup, i_pop, i_dup_x1, i_dup2, i_icmp_eq, i_icmp_lt, i_icmp_ge, i_icmp_gt, i_icmp_le, i_if_eq, i_if_lt, i_if_ge, i_if_gt, i_if_le, i_goto, i_ifnull, i_iald, i_bald, i_zald, i_lald, i_aald, i_iast, i_bast, i_zast, i_last, i_alen, i_iret, i_lret, i_aret, i_vret, i_oinit, i_cast, i_tsw, i_cases, i_mmin, i_mmax, i_lmin, i_throw, nb0, nb1, nint, nby0, rf_s, rf_n, of_r, of_n, tk_orf_rf, tk_c2, tk_ls, Value.category, tk_isR_ref, tk_isR_rf, tk_isR_null, z_q_L_s_I, z_q_K_s_I, z_q_I_s_I, z_q_J_s_I, z_q_R_s_I, z_q_n_s_I, z_q_aI_s_I, z_q_aJ_s_I, z_q_aR_s_I, z_q_L_s_J, z_q_K_s_J, z_q_I_s_J, z_q_J_s_J, z_q_R_s_J, z_q_n_s_J, z_q_aI_s_J, z_q_aJ_s_J, z_q_aR_s_J, z_q_L_s_R, z_q_K_s_R, z_q_I_s_R, z_q_J_s_R, z_q_R_s_R, z_q_n_s_R, z_q_aI_s_R, z_q_aJ_s_R, z_q_aR_s_R, z_q_L_s_aI, z_q_K_s_aI, z_q_I_s_aI, z_q_J_s_aI, z_q_R_s_aI, z_q_n_s_aI, z_q_aI_s_aI, z_q_aJ_s_aI, z_q_aR_s_aI, z_q_L_s_aJ, z_q_K_s_aJ, z_q_I_s_aJ, z_q_J_s_aJ, z_q_R_s_aJ, z_q_n_s_aJ, z_q_aI_s_aJ, z_q_aJ_s_aJ, z_q_aR_s_aJ, z_q_L_s_aR, z_q_K_s_aR, z_q_I_s_aR, z_q_J_s_aR, z_q_R_s_aR, z_q_n_s_aR, z_q_aI_s_aR, z_q_aJ_s_aR, z_q_aR_s_aR, z_q_L_s_new, z_q_K_s_new, z_q_I_s_new, z_q_J_s_new, z_q_R_s_new, z_q_n_s_new, z_q_aI_s_new, z_q_aJ_s_new, z_q_aR_s_new, z_q_L_s_arr, z_q_K_s_arr, z_q_I_s_arr, z_q_J_s_arr, z_q_R_s_arr, z_q_n_s_arr, z_q_aI_s_arr, z_q_aJ_s_arr, z_q_aR_s_arr, h1, h2, e2, e20, z]
    exact H _ (hI0.t0 0) rfl _ _ _ (hR.iI 0 0)
  rw [if_neg ht] at H
  have z : nI (tn + 20) ≤ 2000 := hcmp.mpr (by omega)
  have st : ∀ (y6 : Option Value) (v kk : Int32) (g : Nat → Int32) (u : Nat) (ρ : Nat → Nat) (S : tk_S) (R : Nat → Nat), ¬ kk < 0 → u < 2000 → RS B m ρ S (rLk (cp 400 hw) (cp 600 jn)) R (fdV V g u) →
      (∀ S', RS B m ρ S' (rLk (cp 400 hw) (cp 600 jn)) R (fdV V (upd g u (byteOf v kk)) (u + 1)) → E 77 [some (.ref m), some (.int a), some (.int b), some (.int c), some (.int e), some (.int f), y6, some (.int v), some (.int (kk + -8))] [] S' 0 0) → E 77 [some (.ref m), some (.int a), some (.int b), some (.int c), some (.int e), some (.int f), y6, some (.int v), some (.int kk)] [] S 0 0 := by
    intro y6 v kk g u ρ S R hk hu hR go
    refine hE.2.2 _ _ _ _ _ ?_
    obtain ⟨u1, u2, u3⟩ := hR.1.1
    have e2 : q_I S 13 2 m = nI u := hR.2.1.1 2
    obtain ⟨a1, b1, c1, d1, -⟩ := hR.1.2 1 _ _ rfl
    have x1 : q_aI S (R 1) = g := hR.2.1.2.2.1 1 _ _ rfl (by decide)
    have hin : vp_in (nI u) 2000 := vp_in_nI (by omega) (by omega)
    have cu : (nI u).toNatClampNeg = u := nI_clamp (by omega)
    have ek : nI u + 1 = nI (u + 1) := nI_add u 1
    simp -implicitDefEqProofs [t_X12_feed_77, i_aload, i_iload, i_lload, i_istore, i_lstore, i_astore, i_iinc, i_push, i_getI, i_getJ, i_getR, i_putI, i_putJ, i_putR, i_iadd, i_isub, i_imul, i_iand, i_ior, i_ixor, i_ishl, i_ishr, i_iushr, i_idiv, i_irem, i_ladd, i_lsub, i_lmul, i_land, i_lor, i_lxor, i_ldiv, i_lrem, i_lshl, i_lshr, i_lcmp, i_ineg, i_lneg, i_i2l, i_l2i, i_i2b, i_i2c, i_dup, i_pop, i_dup_x1, i_dup2, i_icmp_eq, i_icmp_lt, i_icmp_ge, i_icmp_gt, i_icmp_le, i_if_eq, i_if_lt, i_if_ge, i_if_gt, i_if_le, i_goto, i_ifnull, i_iald, i_bald, i_zald, i_lald, i_aald, i_iast, i_bast, i_zast, i_last, i_alen, i_iret, i_lret, i_aret, i_vret, i_oinit, i_cast, i_tsw, i_cases, i_mmin, i_mmax, i_lmin, i_throw, nb0, nb1, nint, nby0, rf_s, rf_n, of_r, of_n, tk_orf_rf, tk_c2, tk_ls, Value.category, tk_isR_ref, tk_isR_rf, tk_isR_null, z_q_L_s_I, z_q_K_s_I, z_q_I_s_I, z_q_J_s_I, z_q_R_s_I, z_q_n_s_I, z_q_aI_s_I, z_q_aJ_s_I, z_q_aR_s_I, z_q_L_s_J, z_q_K_s_J, z_q_I_s_J, z_q_J_s_J, z_q_R_s_J, z_q_n_s_J, z_q_aI_s_J, z_q_aJ_s_J, z_q_aR_s_J, z_q_L_s_R, z_q_K_s_R, z_q_I_s_R, z_q_J_s_R, z_q_R_s_R, z_q_n_s_R, z_q_aI_s_R, z_q_aJ_s_R, z_q_aR_s_R, z_q_L_s_aI, z_q_K_s_aI, z_q_I_s_aI, z_q_J_s_aI, z_q_R_s_aI, z_q_n_s_aI, z_q_aI_s_aI, z_q_aJ_s_aI, z_q_aR_s_aI, z_q_L_s_aJ, z_q_K_s_aJ, z_q_I_s_aJ, z_q_J_s_aJ, z_q_R_s_aJ, z_q_n_s_aJ, z_q_aI_s_aJ, z_q_aJ_s_aJ, z_q_aR_s_aJ, z_q_L_s_aR, z_q_K_s_aR, z_q_I_s_aR, z_q_J_s_aR, z_q_R_s_aR, z_q_n_s_aR, z_q_aI_s_aR, z_q_aJ_s_aR, z_q_aR_s_aR, z_q_L_s_new, z_q_K_s_new, z_q_I_s_new, z_q_J_s_new, z_q_R_s_new, z_q_n_s_new, z_q_aI_s_new, z_q_aJ_s_new, z_q_aR_s_new, z_q_L_s_arr, z_q_K_s_arr, z_q_I_s_arr, z_q_J_s_arr, z_q_R_s_arr, z_q_n_s_arr, z_q_aI_s_arr, z_q_aJ_s_arr, z_q_aR_s_arr, u1, u2, e2, a1, b1, c1, d1, x1, hin, cu, ek, hk]
    exact go _ (RS.cast ((hR.iA (k := 1) rfl (upd g u (byteOf v kk))).iI 2 (nI (u + 1))) fdV_s)
  have four : ∀ (y6 : Int32) (v : Int32) (g : Nat → Int32) (u : Nat) (ρ : Nat → Nat) (S : tk_S) (R : Nat → Nat), u + 4 ≤ 2000 → RS B m ρ S (rLk (cp 400 hw) (cp 600 jn)) R (fdV V g u) →
      (∀ S' y7 y8, RS B m ρ S' (rLk (cp 400 hw) (cp 600 jn)) R (fdV V (fourIn g u v) (u + 4)) → E 23 [some (.ref m), some (.int a), some (.int b), some (.int c), some (.int e), some (.int f), some (.int (y6 + 1)), y7, y8] [] S' 0 0) → E 77 [some (.ref m), some (.int a), some (.int b), some (.int c), some (.int e), some (.int f), some (.int y6), some (.int v), some (.int 24)] [] S 0 0 := by
    intro y6 v g u ρ S R hu hR go
    refine st _ v 24 g u ρ S R (by decide) (by omega) hR (fun S1 hR1 => ?_)
    refine st _ v (24 + -8) _ (u + 1) ρ S1 R (by decide) (by omega) hR1 (fun S2 hR2 => ?_)
    refine st _ v (24 + -8 + -8) _ (u + 1 + 1) ρ S2 R (by decide) (by omega) hR2 (fun S3 hR3 => ?_)
    refine st _ v (24 + -8 + -8 + -8) _ (u + 1 + 1 + 1) ρ S3 R (by decide) (by omega) hR3 (fun S4 hR4 => ?_)
    refine hE.2.2 _ _ _ _ _ ?_
    have zz : (24 + -8 + -8 + -8 + -8 : Int32) < 0 := by decide
    have go2 := go S4 (some (.int v)) (some (.int (24 + -8 + -8 + -8 + -8))) hR4
    generalize (24 + -8 + -8 + -8 + -8 : Int32) = kk at zz go2 ⊢
    simp -implicitDefEqProofs [t_X12_feed_77, i_aload, i_iload, i_lload, i_istore, i_lstore, i_astore, i_iinc, i_push, i_getI, i_getJ, i_getR, i_putI, i_putJ, i_putR, i_iadd, i_isub, i_imul, i_iand, i_ior, i_ixor, i_ishl, i_ishr, i_iushr, i_idiv, i_irem, i_ladd, i_lsub, i_lmul, i_land, i_lor, i_lxor, i_ldiv, i_lrem, i_lshl, i_lshr, i_lcmp, i_ineg, i_lneg, i_i2l, i_l2i, i_i2b, i_i2c, i_dup, i_pop, i_dup_x1, i_dup2, i_icmp_eq, i_icmp_lt, i_icmp_ge, i_icmp_gt, i_icmp_le, i_if_eq, i_if_lt, i_if_ge, i_if_gt, i_if_le, i_goto, i_ifnull, i_iald, i_bald, i_zald, i_lald, i_aald, i_iast, i_bast, i_zast, i_last, i_alen, i_iret, i_lret, i_aret, i_vret, i_oinit, i_cast, i_tsw, i_cases, i_mmin, i_mmax, i_lmin, i_throw, nb0, nb1, nint, nby0, rf_s, rf_n, of_r, of_n, tk_orf_rf, tk_c2, tk_ls, Value.category, tk_isR_ref, tk_isR_rf, tk_isR_null, zz]
    exact go2
  have hR0 : RS B m ρ (s_I S 13 0 m 0) (rLk (cp 400 hw) (cp 600 jn)) R (fdV V tg tn) := RS.cast (hR.iI 0 0) (by
    unfold fdV
    have y1 : tg = vA (wI V 0 0) 1 := rT0.2.1.symm
    rw [y1, wA_id]
    have y2 : nI tn = vI (wI V 0 0) 2 := rT0.1.symm
    rw [y2, wI_id])
  simp -implicitDefEqProofs [t_X12_feed_0, i_aload, i_iload, i_lload, i_istore, i_lstore, i_astore, i_iinc, i_push, i_getI, i_getJ, i_getR, i_putI, i_putJ, i_putR, i_iadd, i_isub, i_imul, i_iand, i_ior, i_ixor, i_ishl, i_ishr, i_iushr, i_idiv, i_irem, i_ladd, i_lsub, i_lmul, i_land, i_lor, i_lxor, i_ldiv, i_lrem, i_lshl, i_lshr, i_lcmp, i_ineg, i_lneg, i_i2l, i_l2i, i_i2b, i_i2c, i_dup, i_pop, i_dup_x1, i_dup2, i_icmp_eq, i_icmp_lt, i_icmp_ge, i_icmp_gt, i_icmp_le, i_if_eq, i_if_lt, i_if_ge, i_if_gt, i_if_le, i_goto, i_ifnull, i_iald, i_bald, i_zald, i_lald, i_aald, i_iast, i_bast, i_zast, i_last, i_alen, i_iret, i_lret, i_aret, i_vret, i_oinit, i_cast, i_tsw, i_cases, i_mmin, i_mmax, i_lmin, i_throw, nb0, nb1, nint, nby0, rf_s, rf_n, of_r, of_n, tk_orf_rf, tk_c2, tk_ls, Value.category, tk_isR_ref, tk_isR_rf, tk_isR_null, z_q_L_s_I, z_q_K_s_I, z_q_I_s_I, z_q_J_s_I, z_q_R_s_I, z_q_n_s_I, z_q_aI_s_I, z_q_aJ_s_I, z_q_aR_s_I, z_q_L_s_J, z_q_K_s_J, z_q_I_s_J, z_q_J_s_J, z_q_R_s_J, z_q_n_s_J, z_q_aI_s_J, z_q_aJ_s_J, z_q_aR_s_J, z_q_L_s_R, z_q_K_s_R, z_q_I_s_R, z_q_J_s_R, z_q_R_s_R, z_q_n_s_R, z_q_aI_s_R, z_q_aJ_s_R, z_q_aR_s_R, z_q_L_s_aI, z_q_K_s_aI, z_q_I_s_aI, z_q_J_s_aI, z_q_R_s_aI, z_q_n_s_aI, z_q_aI_s_aI, z_q_aJ_s_aI, z_q_aR_s_aI, z_q_L_s_aJ, z_q_K_s_aJ, z_q_I_s_aJ, z_q_J_s_aJ, z_q_R_s_aJ, z_q_n_s_aJ, z_q_aI_s_aJ, z_q_aJ_s_aJ, z_q_aR_s_aJ, z_q_L_s_aR, z_q_K_s_aR, z_q_I_s_aR, z_q_J_s_aR, z_q_R_s_aR, z_q_n_s_aR, z_q_aI_s_aR, z_q_aJ_s_aR, z_q_aR_s_aR, z_q_L_s_new, z_q_K_s_new, z_q_I_s_new, z_q_J_s_new, z_q_R_s_new, z_q_n_s_new, z_q_aI_s_new, z_q_aJ_s_new, z_q_aR_s_new, z_q_L_s_arr, z_q_K_s_arr, z_q_I_s_arr, z_q_J_s_arr, z_q_R_s_arr, z_q_n_s_arr, z_q_aI_s_arr, z_q_aJ_s_arr, z_q_aR_s_arr, h1, h2, e2, e20, z]
  refine hE.2.1 _ _ _ _ _ ?_
  simp -implicitDefEqProofs [t_X12_feed_23, i_aload, i_iload, i_lload, i_istore, i_lstore, i_astore, i_iinc, i_push, i_getI, i_getJ, i_getR, i_putI, i_putJ, i_putR, i_iadd, i_isub, i_imul, i_iand, i_ior, i_ixor, i_ishl, i_ishr, i_iushr, i_idiv, i_irem, i_ladd, i_lsub, i_lmul, i_land, i_lor, i_lxor, i_ldiv, i_lrem, i_lshl, i_lshr, i_lcmp, i_ineg, i_lneg, i_i2l, i_l2i, i_i2b, i_i2c, i_dup, i_pop, i_dup_x1, i_dup2, i_icmp_eq, i_icmp_lt, i_icmp_ge, i_icmp_gt, i_icmp_le, i_if_eq, i_if_lt, i_if_ge, i_if_gt, i_if_le, i_goto, i_ifnull, i_iald, i_bald, i_zald, i_lald, i_aald, i_iast, i_bast, i_zast, i_last, i_alen, i_iret, i_lret, i_aret, i_vret, i_oinit, i_cast, i_tsw, i_cases, i_mmin, i_mmax, i_lmin, i_throw, nb0, nb1, nint, nby0, rf_s, rf_n, of_r, of_n, tk_orf_rf, tk_c2, tk_ls, Value.category, tk_isR_ref, tk_isR_rf, tk_isR_null]
  refine four 0 a tg tn ρ _ R (by omega) hR0 (fun S1 y7 y8 hR1 => ?_)
  refine hE.2.1 _ _ _ _ _ ?_
  simp -implicitDefEqProofs [t_X12_feed_23, i_aload, i_iload, i_lload, i_istore, i_lstore, i_astore, i_iinc, i_push, i_getI, i_getJ, i_getR, i_putI, i_putJ, i_putR, i_iadd, i_isub, i_imul, i_iand, i_ior, i_ixor, i_ishl, i_ishr, i_iushr, i_idiv, i_irem, i_ladd, i_lsub, i_lmul, i_land, i_lor, i_lxor, i_ldiv, i_lrem, i_lshl, i_lshr, i_lcmp, i_ineg, i_lneg, i_i2l, i_l2i, i_i2b, i_i2c, i_dup, i_pop, i_dup_x1, i_dup2, i_icmp_eq, i_icmp_lt, i_icmp_ge, i_icmp_gt, i_icmp_le, i_if_eq, i_if_lt, i_if_ge, i_if_gt, i_if_le, i_goto, i_ifnull, i_iald, i_bald, i_zald, i_lald, i_aald, i_iast, i_bast, i_zast, i_last, i_alen, i_iret, i_lret, i_aret, i_vret, i_oinit, i_cast, i_tsw, i_cases, i_mmin, i_mmax, i_lmin, i_throw, nb0, nb1, nint, nby0, rf_s, rf_n, of_r, of_n, tk_orf_rf, tk_c2, tk_ls, Value.category, tk_isR_ref, tk_isR_rf, tk_isR_null]
  refine four 1 b _ (tn + 4) ρ _ R (by omega) hR1 (fun S2 y7 y8 hR2 => ?_)
  refine hE.2.1 _ _ _ _ _ ?_
  simp -implicitDefEqProofs [t_X12_feed_23, i_aload, i_iload, i_lload, i_istore, i_lstore, i_astore, i_iinc, i_push, i_getI, i_getJ, i_getR, i_putI, i_putJ, i_putR, i_iadd, i_isub, i_imul, i_iand, i_ior, i_ixor, i_ishl, i_ishr, i_iushr, i_idiv, i_irem, i_ladd, i_lsub, i_lmul, i_land, i_lor, i_lxor, i_ldiv, i_lrem, i_lshl, i_lshr, i_lcmp, i_ineg, i_lneg, i_i2l, i_l2i, i_i2b, i_i2c, i_dup, i_pop, i_dup_x1, i_dup2, i_icmp_eq, i_icmp_lt, i_icmp_ge, i_icmp_gt, i_icmp_le, i_if_eq, i_if_lt, i_if_ge, i_if_gt, i_if_le, i_goto, i_ifnull, i_iald, i_bald, i_zald, i_lald, i_aald, i_iast, i_bast, i_zast, i_last, i_alen, i_iret, i_lret, i_aret, i_vret, i_oinit, i_cast, i_tsw, i_cases, i_mmin, i_mmax, i_lmin, i_throw, nb0, nb1, nint, nby0, rf_s, rf_n, of_r, of_n, tk_orf_rf, tk_c2, tk_ls, Value.category, tk_isR_ref, tk_isR_rf, tk_isR_null]
  refine four 2 c _ (tn + 4 + 4) ρ _ R (by omega) hR2 (fun S3 y7 y8 hR3 => ?_)
  refine hE.2.1 _ _ _ _ _ ?_
  simp -implicitDefEqProofs [t_X12_feed_23, i_aload, i_iload, i_lload, i_istore, i_lstore, i_astore, i_iinc, i_push, i_getI, i_getJ, i_getR, i_putI, i_putJ, i_putR, i_iadd, i_isub, i_imul, i_iand, i_ior, i_ixor, i_ishl, i_ishr, i_iushr, i_idiv, i_irem, i_ladd, i_lsub, i_lmul, i_land, i_lor, i_lxor, i_ldiv, i_lrem, i_lshl, i_lshr, i_lcmp, i_ineg, i_lneg, i_i2l, i_l2i, i_i2b, i_i2c, i_dup, i_pop, i_dup_x1, i_dup2, i_icmp_eq, i_icmp_lt, i_icmp_ge, i_icmp_gt, i_icmp_le, i_if_eq, i_if_lt, i_if_ge, i_if_gt, i_if_le, i_goto, i_ifnull, i_iald, i_bald, i_zald, i_lald, i_aald, i_iast, i_bast, i_zast, i_last, i_alen, i_iret, i_lret, i_aret, i_vret, i_oinit, i_cast, i_tsw, i_cases, i_mmin, i_mmax, i_lmin, i_throw, nb0, nb1, nint, nby0, rf_s, rf_n, of_r, of_n, tk_orf_rf, tk_c2, tk_ls, Value.category, tk_isR_ref, tk_isR_rf, tk_isR_null]
  refine four 3 e _ (tn + 4 + 4 + 4) ρ _ R (by omega) hR3 (fun S4 y7 y8 hR4 => ?_)
  refine hE.2.1 _ _ _ _ _ ?_
  simp -implicitDefEqProofs [t_X12_feed_23, i_aload, i_iload, i_lload, i_istore, i_lstore, i_astore, i_iinc, i_push, i_getI, i_getJ, i_getR, i_putI, i_putJ, i_putR, i_iadd, i_isub, i_imul, i_iand, i_ior, i_ixor, i_ishl, i_ishr, i_iushr, i_idiv, i_irem, i_ladd, i_lsub, i_lmul, i_land, i_lor, i_lxor, i_ldiv, i_lrem, i_lshl, i_lshr, i_lcmp, i_ineg, i_lneg, i_i2l, i_l2i, i_i2b, i_i2c, i_dup, i_pop, i_dup_x1, i_dup2, i_icmp_eq, i_icmp_lt, i_icmp_ge, i_icmp_gt, i_icmp_le, i_if_eq, i_if_lt, i_if_ge, i_if_gt, i_if_le, i_goto, i_ifnull, i_iald, i_bald, i_zald, i_lald, i_aald, i_iast, i_bast, i_zast, i_last, i_alen, i_iret, i_lret, i_aret, i_vret, i_oinit, i_cast, i_tsw, i_cases, i_mmin, i_mmax, i_lmin, i_throw, nb0, nb1, nint, nby0, rf_s, rf_n, of_r, of_n, tk_orf_rf, tk_c2, tk_ls, Value.category, tk_isR_ref, tk_isR_rf, tk_isR_null]
  refine four 4 f _ (tn + 4 + 4 + 4 + 4) ρ _ R (by omega) hR4 (fun S5 y7 y8 hR5 => ?_)
  refine hE.2.1 _ _ _ _ _ ?_
  obtain ⟨u1, u2, u3⟩ := hR5.1.1
  have e2' : q_I S5 13 2 m = nI (tn + 4 + 4 + 4 + 4 + 4) := hR5.2.1.1 2
  simp -implicitDefEqProofs [t_X12_feed_23, i_aload, i_iload, i_lload, i_istore, i_lstore, i_astore, i_iinc, i_push, i_getI, i_getJ, i_getR, i_putI, i_putJ, i_putR, i_iadd, i_isub, i_imul, i_iand, i_ior, i_ixor, i_ishl, i_ishr, i_iushr, i_idiv, i_irem, i_ladd, i_lsub, i_lmul, i_land, i_lor, i_lxor, i_ldiv, i_lrem, i_lshl, i_lshr, i_lcmp, i_ineg, i_lneg, i_i2l, i_l2i, i_i2b, i_i2c, i_dup, i_pop, i_dup_x1, i_dup2, i_icmp_eq, i_icmp_lt, i_icmp_ge, i_icmp_gt, i_icmp_le, i_if_eq, i_if_lt, i_if_ge, i_if_gt, i_if_le, i_goto, i_ifnull, i_iald, i_bald, i_zald, i_lald, i_aald, i_iast, i_bast, i_zast, i_last, i_alen, i_iret, i_lret, i_aret, i_vret, i_oinit, i_cast, i_tsw, i_cases, i_mmin, i_mmax, i_lmin, i_throw, nb0, nb1, nint, nby0, rf_s, rf_n, of_r, of_n, tk_orf_rf, tk_c2, tk_ls, Value.category, tk_isR_ref, tk_isR_rf, tk_isR_null, u1, u2, e2']
  refine H _ ?_ ?_ _ _ _ hR5
  · exact ⟨⟨rfl, rfl, rT0.2.2⟩, rA0, rS0, rG0, rV0, rF0, rL0, rJ0, rD0⟩
  · rfl
end RCALL6
